/-! WORDS of a node, by the reference's order -/
def kt (F : Bool → Int → List (List Int)) (x : Int) : List (List Int) := if x = -1 then [] else F false x
section TOKEQ
variable {R : Rw} {n : Int} {F : Bool → Int → List (List Int)}
theorem tkq_0 (hk : R 0 n = 0) (hz : nzr R n) (hp : ∀ y ∈ kids (R 0 n), R (15 + y.2.toNat) n ≠ -1) : sgT R F n (shp (R 0 n)) = nmK R n ++ (kt F (R 16 n) ++ (kt F (R 17 n) ++ kt F (R 18 n))) := by
  obtain ⟨h1, h2⟩ := hz
  obtain ⟨a4, a5, a6⟩ := h1 (by omega) (by omega)
  have b4 : R 4 n = 0 := Decidable.byContradiction (fun z => absurd (a4.mp z) (by rw [hk]; unfold nA; decide))
  have b5 : R 5 n = 0 := Decidable.byContradiction (fun z => absurd (a5.mp z) (by rw [hk]; unfold nB; decide))
  have b6 : R 6 n = 0 := Decidable.byContradiction (fun z => absurd (a6.mp z) (by rw [hk]; decide))
  have l16 : R 16 n = -1 := h2 (by omega) 1 (by decide) (by decide) (by rw [hk]; decide)
  have l17 : R 17 n = -1 := h2 (by omega) 2 (by decide) (by decide) (by rw [hk]; decide)
  have l18 : R 18 n = -1 := h2 (by omega) 3 (by decide) (by decide) (by rw [hk]; decide)
  have hs : shp (R 0 n) = [] := by rw [hk]; rfl
  rw [hs]
  simp [sgT, sgT1, nmK, kt, hk, b4, b5, b6, l16, l17, l18]
theorem tkq_1 (hk : R 0 n = 1) (hz : nzr R n) (hp : ∀ y ∈ kids (R 0 n), R (15 + y.2.toNat) n ≠ -1) : sgT R F n (shp (R 0 n)) = nmK R n ++ (kt F (R 16 n) ++ (kt F (R 17 n) ++ kt F (R 18 n))) := by
  obtain ⟨h1, h2⟩ := hz
  obtain ⟨a4, a5, a6⟩ := h1 (by omega) (by omega)
  have b4 : R 4 n ≠ 0 := a4.mpr (by rw [hk]; unfold nA; decide)
  have b5 : R 5 n ≠ 0 := a5.mpr (by rw [hk]; unfold nB; decide)
  have b6 : R 6 n ≠ 0 := a6.mpr hk
  have l16 : R 16 n ≠ -1 := hp (118, 1) (by rw [hk]; decide)
  have l17 : R 17 n ≠ -1 := hp (99, 2) (by rw [hk]; decide)
  have l18 : R 18 n = -1 := h2 (by omega) 3 (by decide) (by decide) (by rw [hk]; decide)
  have hs : shp (R 0 n) = [(49, 1, 6), (100, 0, 5), (50, 2, 4), (51, 3, 3), (118, 1, 2), (99, 2, 1)] := by rw [hk]; rfl
  rw [hs]
  simp [sgT, sgT1, nmK, kt, hk, b4, b5, b6, l16, l17, l18]
theorem tkq_2 (hk : R 0 n = 2) (hz : nzr R n) (hp : ∀ y ∈ kids (R 0 n), R (15 + y.2.toNat) n ≠ -1) : sgT R F n (shp (R 0 n)) = nmK R n ++ (kt F (R 16 n) ++ (kt F (R 17 n) ++ kt F (R 18 n))) := by
  obtain ⟨h1, h2⟩ := hz
  obtain ⟨a4, a5, a6⟩ := h1 (by omega) (by omega)
  have b4 : R 4 n = 0 := Decidable.byContradiction (fun z => absurd (a4.mp z) (by rw [hk]; unfold nA; decide))
  have b5 : R 5 n = 0 := Decidable.byContradiction (fun z => absurd (a5.mp z) (by rw [hk]; unfold nB; decide))
  have b6 : R 6 n = 0 := Decidable.byContradiction (fun z => absurd (a6.mp z) (by rw [hk]; decide))
  have l16 : R 16 n ≠ -1 := hp (111, 1) (by rw [hk]; decide)
  have l17 : R 17 n ≠ -1 := hp (99, 2) (by rw [hk]; decide)
  have l18 : R 18 n ≠ -1 := hp (99, 3) (by rw [hk]; decide)
  have hs : shp (R 0 n) = [(111, 1, 3), (99, 2, 2), (99, 3, 1)] := by rw [hk]; rfl
  rw [hs]
  simp [sgT, sgT1, nmK, kt, hk, b4, b5, b6, l16, l17, l18]
theorem tkq_4 (hk : R 0 n = 4) (hz : nzr R n) (hp : ∀ y ∈ kids (R 0 n), R (15 + y.2.toNat) n ≠ -1) : sgT R F n (shp (R 0 n)) = nmK R n ++ (kt F (R 16 n) ++ (kt F (R 17 n) ++ kt F (R 18 n))) := by
  obtain ⟨h1, h2⟩ := hz
  obtain ⟨a4, a5, a6⟩ := h1 (by omega) (by omega)
  have b4 : R 4 n ≠ 0 := a4.mpr (by rw [hk]; unfold nA; decide)
  have b5 : R 5 n = 0 := Decidable.byContradiction (fun z => absurd (a5.mp z) (by rw [hk]; unfold nB; decide))
  have b6 : R 6 n = 0 := Decidable.byContradiction (fun z => absurd (a6.mp z) (by rw [hk]; decide))
  have l16 : R 16 n ≠ -1 := hp (118, 1) (by rw [hk]; decide)
  have l17 : R 17 n ≠ -1 := hp (99, 2) (by rw [hk]; decide)
  have l18 : R 18 n = -1 := h2 (by omega) 3 (by decide) (by decide) (by rw [hk]; decide)
  have hs : shp (R 0 n) = [(49, 1, 3), (118, 1, 2), (99, 2, 1)] := by rw [hk]; rfl
  rw [hs]
  simp [sgT, sgT1, nmK, kt, hk, b4, b5, b6, l16, l17, l18]
theorem tkq_5 (hk : R 0 n = 5) (hz : nzr R n) (hp : ∀ y ∈ kids (R 0 n), R (15 + y.2.toNat) n ≠ -1) : sgT R F n (shp (R 0 n)) = nmK R n ++ (kt F (R 16 n) ++ (kt F (R 17 n) ++ kt F (R 18 n))) := by
  obtain ⟨h1, h2⟩ := hz
  obtain ⟨a4, a5, a6⟩ := h1 (by omega) (by omega)
  have b4 : R 4 n = 0 := Decidable.byContradiction (fun z => absurd (a4.mp z) (by rw [hk]; unfold nA; decide))
  have b5 : R 5 n = 0 := Decidable.byContradiction (fun z => absurd (a5.mp z) (by rw [hk]; unfold nB; decide))
  have b6 : R 6 n = 0 := Decidable.byContradiction (fun z => absurd (a6.mp z) (by rw [hk]; decide))
  have l16 : R 16 n ≠ -1 := hp (111, 1) (by rw [hk]; decide)
  have l17 : R 17 n ≠ -1 := hp (99, 2) (by rw [hk]; decide)
  have l18 : R 18 n = -1 := h2 (by omega) 3 (by decide) (by decide) (by rw [hk]; decide)
  have hs : shp (R 0 n) = [(111, 1, 2), (99, 2, 1)] := by rw [hk]; rfl
  rw [hs]
  simp [sgT, sgT1, nmK, kt, hk, b4, b5, b6, l16, l17, l18]
theorem tkq_6 (hk : R 0 n = 6) (hz : nzr R n) (hp : ∀ y ∈ kids (R 0 n), R (15 + y.2.toNat) n ≠ -1) : sgT R F n (shp (R 0 n)) = nmK R n ++ (kt F (R 16 n) ++ (kt F (R 17 n) ++ kt F (R 18 n))) := by
  obtain ⟨h1, h2⟩ := hz
  obtain ⟨a4, a5, a6⟩ := h1 (by omega) (by omega)
  have b4 : R 4 n ≠ 0 := a4.mpr (by rw [hk]; unfold nA; decide)
  have b5 : R 5 n ≠ 0 := a5.mpr (by rw [hk]; unfold nB; decide)
  have b6 : R 6 n = 0 := Decidable.byContradiction (fun z => absurd (a6.mp z) (by rw [hk]; decide))
  have l16 : R 16 n = -1 := h2 (by omega) 1 (by decide) (by decide) (by rw [hk]; decide)
  have l17 : R 17 n = -1 := h2 (by omega) 2 (by decide) (by decide) (by rw [hk]; decide)
  have l18 : R 18 n = -1 := h2 (by omega) 3 (by decide) (by decide) (by rw [hk]; decide)
  have hs : shp (R 0 n) = [(49, 1, 2), (50, 2, 1)] := by rw [hk]; rfl
  rw [hs]
  simp [sgT, sgT1, nmK, kt, hk, b4, b5, b6, l16, l17, l18]
theorem tkq_7 (hk : R 0 n = 7) (hz : nzr R n) (hp : ∀ y ∈ kids (R 0 n), R (15 + y.2.toNat) n ≠ -1) : sgT R F n (shp (R 0 n)) = nmK R n ++ (kt F (R 16 n) ++ (kt F (R 17 n) ++ kt F (R 18 n))) := by
  obtain ⟨h1, h2⟩ := hz
  obtain ⟨a4, a5, a6⟩ := h1 (by omega) (by omega)
  have b4 : R 4 n = 0 := Decidable.byContradiction (fun z => absurd (a4.mp z) (by rw [hk]; unfold nA; decide))
  have b5 : R 5 n = 0 := Decidable.byContradiction (fun z => absurd (a5.mp z) (by rw [hk]; unfold nB; decide))
  have b6 : R 6 n = 0 := Decidable.byContradiction (fun z => absurd (a6.mp z) (by rw [hk]; decide))
  have l16 : R 16 n ≠ -1 := hp (118, 1) (by rw [hk]; decide)
  have l17 : R 17 n = -1 := h2 (by omega) 2 (by decide) (by decide) (by rw [hk]; decide)
  have l18 : R 18 n = -1 := h2 (by omega) 3 (by decide) (by decide) (by rw [hk]; decide)
  have hs : shp (R 0 n) = [(118, 1, 1)] := by rw [hk]; rfl
  rw [hs]
  simp [sgT, sgT1, nmK, kt, hk, b4, b5, b6, l16, l17, l18]
theorem tkq_8 (hk : R 0 n = 8) (hz : nzr R n) (hp : ∀ y ∈ kids (R 0 n), R (15 + y.2.toNat) n ≠ -1) : sgT R F n (shp (R 0 n)) = nmK R n ++ (kt F (R 16 n) ++ (kt F (R 17 n) ++ kt F (R 18 n))) := by
  obtain ⟨h1, h2⟩ := hz
  obtain ⟨a4, a5, a6⟩ := h1 (by omega) (by omega)
  have b4 : R 4 n = 0 := Decidable.byContradiction (fun z => absurd (a4.mp z) (by rw [hk]; unfold nA; decide))
  have b5 : R 5 n = 0 := Decidable.byContradiction (fun z => absurd (a5.mp z) (by rw [hk]; unfold nB; decide))
  have b6 : R 6 n = 0 := Decidable.byContradiction (fun z => absurd (a6.mp z) (by rw [hk]; decide))
  have l16 : R 16 n ≠ -1 := hp (118, 1) (by rw [hk]; decide)
  have l17 : R 17 n ≠ -1 := hp (118, 2) (by rw [hk]; decide)
  have l18 : R 18 n = -1 := h2 (by omega) 3 (by decide) (by decide) (by rw [hk]; decide)
  have hs : shp (R 0 n) = [(118, 1, 2), (118, 2, 1)] := by rw [hk]; rfl
  rw [hs]
  simp [sgT, sgT1, nmK, kt, hk, b4, b5, b6, l16, l17, l18]
theorem tkq_9 (hk : R 0 n = 9) (hz : nzr R n) (hp : ∀ y ∈ kids (R 0 n), R (15 + y.2.toNat) n ≠ -1) : sgT R F n (shp (R 0 n)) = nmK R n ++ (kt F (R 16 n) ++ (kt F (R 17 n) ++ kt F (R 18 n))) := by
  obtain ⟨h1, h2⟩ := hz
  obtain ⟨a4, a5, a6⟩ := h1 (by omega) (by omega)
  have b4 : R 4 n = 0 := Decidable.byContradiction (fun z => absurd (a4.mp z) (by rw [hk]; unfold nA; decide))
  have b5 : R 5 n = 0 := Decidable.byContradiction (fun z => absurd (a5.mp z) (by rw [hk]; unfold nB; decide))
  have b6 : R 6 n = 0 := Decidable.byContradiction (fun z => absurd (a6.mp z) (by rw [hk]; decide))
  have l16 : R 16 n ≠ -1 := hp (118, 1) (by rw [hk]; decide)
  have l17 : R 17 n ≠ -1 := hp (118, 2) (by rw [hk]; decide)
  have l18 : R 18 n = -1 := h2 (by omega) 3 (by decide) (by decide) (by rw [hk]; decide)
  have hs : shp (R 0 n) = [(118, 1, 2), (118, 2, 1)] := by rw [hk]; rfl
  rw [hs]
  simp [sgT, sgT1, nmK, kt, hk, b4, b5, b6, l16, l17, l18]
theorem tkq_10 (hk : R 0 n = 10) (hz : nzr R n) (hp : ∀ y ∈ kids (R 0 n), R (15 + y.2.toNat) n ≠ -1) : sgT R F n (shp (R 0 n)) = nmK R n ++ (kt F (R 16 n) ++ (kt F (R 17 n) ++ kt F (R 18 n))) := by
  obtain ⟨h1, h2⟩ := hz
  obtain ⟨a4, a5, a6⟩ := h1 (by omega) (by omega)
  have b4 : R 4 n = 0 := Decidable.byContradiction (fun z => absurd (a4.mp z) (by rw [hk]; unfold nA; decide))
  have b5 : R 5 n = 0 := Decidable.byContradiction (fun z => absurd (a5.mp z) (by rw [hk]; unfold nB; decide))
  have b6 : R 6 n = 0 := Decidable.byContradiction (fun z => absurd (a6.mp z) (by rw [hk]; decide))
  have l16 : R 16 n ≠ -1 := hp (118, 1) (by rw [hk]; decide)
  have l17 : R 17 n ≠ -1 := hp (118, 2) (by rw [hk]; decide)
  have l18 : R 18 n = -1 := h2 (by omega) 3 (by decide) (by decide) (by rw [hk]; decide)
  have hs : shp (R 0 n) = [(118, 1, 2), (118, 2, 1)] := by rw [hk]; rfl
  rw [hs]
  simp [sgT, sgT1, nmK, kt, hk, b4, b5, b6, l16, l17, l18]
theorem tkq_11 (hk : R 0 n = 11) (hz : nzr R n) (hp : ∀ y ∈ kids (R 0 n), R (15 + y.2.toNat) n ≠ -1) : sgT R F n (shp (R 0 n)) = nmK R n ++ (kt F (R 16 n) ++ (kt F (R 17 n) ++ kt F (R 18 n))) := by
  obtain ⟨h1, h2⟩ := hz
  obtain ⟨a4, a5, a6⟩ := h1 (by omega) (by omega)
  have b4 : R 4 n = 0 := Decidable.byContradiction (fun z => absurd (a4.mp z) (by rw [hk]; unfold nA; decide))
  have b5 : R 5 n = 0 := Decidable.byContradiction (fun z => absurd (a5.mp z) (by rw [hk]; unfold nB; decide))
  have b6 : R 6 n = 0 := Decidable.byContradiction (fun z => absurd (a6.mp z) (by rw [hk]; decide))
  have l16 : R 16 n ≠ -1 := hp (118, 1) (by rw [hk]; decide)
  have l17 : R 17 n ≠ -1 := hp (118, 2) (by rw [hk]; decide)
  have l18 : R 18 n = -1 := h2 (by omega) 3 (by decide) (by decide) (by rw [hk]; decide)
  have hs : shp (R 0 n) = [(118, 1, 2), (118, 2, 1)] := by rw [hk]; rfl
  rw [hs]
  simp [sgT, sgT1, nmK, kt, hk, b4, b5, b6, l16, l17, l18]
theorem tkq_12 (hk : R 0 n = 12) (hz : nzr R n) (hp : ∀ y ∈ kids (R 0 n), R (15 + y.2.toNat) n ≠ -1) : sgT R F n (shp (R 0 n)) = nmK R n ++ (kt F (R 16 n) ++ (kt F (R 17 n) ++ kt F (R 18 n))) := by
  obtain ⟨h1, h2⟩ := hz
  obtain ⟨a4, a5, a6⟩ := h1 (by omega) (by omega)
  have b4 : R 4 n ≠ 0 := a4.mpr (by rw [hk]; unfold nA; decide)
  have b5 : R 5 n ≠ 0 := a5.mpr (by rw [hk]; unfold nB; decide)
  have b6 : R 6 n = 0 := Decidable.byContradiction (fun z => absurd (a6.mp z) (by rw [hk]; decide))
  have l16 : R 16 n = -1 := h2 (by omega) 1 (by decide) (by decide) (by rw [hk]; decide)
  have l17 : R 17 n = -1 := h2 (by omega) 2 (by decide) (by decide) (by rw [hk]; decide)
  have l18 : R 18 n = -1 := h2 (by omega) 3 (by decide) (by decide) (by rw [hk]; decide)
  have hs : shp (R 0 n) = [(49, 1, 2), (50, 2, 1)] := by rw [hk]; rfl
  rw [hs]
  simp [sgT, sgT1, nmK, kt, hk, b4, b5, b6, l16, l17, l18]
theorem tkq_13 (hk : R 0 n = 13) (hz : nzr R n) (hp : ∀ y ∈ kids (R 0 n), R (15 + y.2.toNat) n ≠ -1) : sgT R F n (shp (R 0 n)) = nmK R n ++ (kt F (R 16 n) ++ (kt F (R 17 n) ++ kt F (R 18 n))) := by
  obtain ⟨h1, h2⟩ := hz
  obtain ⟨a4, a5, a6⟩ := h1 (by omega) (by omega)
  have b4 : R 4 n = 0 := Decidable.byContradiction (fun z => absurd (a4.mp z) (by rw [hk]; unfold nA; decide))
  have b5 : R 5 n = 0 := Decidable.byContradiction (fun z => absurd (a5.mp z) (by rw [hk]; unfold nB; decide))
  have b6 : R 6 n = 0 := Decidable.byContradiction (fun z => absurd (a6.mp z) (by rw [hk]; decide))
  have l16 : R 16 n = -1 := h2 (by omega) 1 (by decide) (by decide) (by rw [hk]; decide)
  have l17 : R 17 n = -1 := h2 (by omega) 2 (by decide) (by decide) (by rw [hk]; decide)
  have l18 : R 18 n = -1 := h2 (by omega) 3 (by decide) (by decide) (by rw [hk]; decide)
  have hs : shp (R 0 n) = [] := by rw [hk]; rfl
  rw [hs]
  simp [sgT, sgT1, nmK, kt, hk, b4, b5, b6, l16, l17, l18]
theorem tkq_14 (hk : R 0 n = 14) (hz : nzr R n) (hp : ∀ y ∈ kids (R 0 n), R (15 + y.2.toNat) n ≠ -1) : sgT R F n (shp (R 0 n)) = nmK R n ++ (kt F (R 16 n) ++ (kt F (R 17 n) ++ kt F (R 18 n))) := by
  obtain ⟨h1, h2⟩ := hz
  obtain ⟨a4, a5, a6⟩ := h1 (by omega) (by omega)
  have b4 : R 4 n = 0 := Decidable.byContradiction (fun z => absurd (a4.mp z) (by rw [hk]; unfold nA; decide))
  have b5 : R 5 n = 0 := Decidable.byContradiction (fun z => absurd (a5.mp z) (by rw [hk]; unfold nB; decide))
  have b6 : R 6 n = 0 := Decidable.byContradiction (fun z => absurd (a6.mp z) (by rw [hk]; decide))
  have l16 : R 16 n = -1 := h2 (by omega) 1 (by decide) (by decide) (by rw [hk]; decide)
  have l17 : R 17 n = -1 := h2 (by omega) 2 (by decide) (by decide) (by rw [hk]; decide)
  have l18 : R 18 n = -1 := h2 (by omega) 3 (by decide) (by decide) (by rw [hk]; decide)
  have hs : shp (R 0 n) = [] := by rw [hk]; rfl
  rw [hs]
  simp [sgT, sgT1, nmK, kt, hk, b4, b5, b6, l16, l17, l18]
theorem tkq_15 (hk : R 0 n = 15) (hz : nzr R n) (hp : ∀ y ∈ kids (R 0 n), R (15 + y.2.toNat) n ≠ -1) : sgT R F n (shp (R 0 n)) = nmK R n ++ (kt F (R 16 n) ++ (kt F (R 17 n) ++ kt F (R 18 n))) := by
  obtain ⟨h1, h2⟩ := hz
  obtain ⟨a4, a5, a6⟩ := h1 (by omega) (by omega)
  have b4 : R 4 n ≠ 0 := a4.mpr (by rw [hk]; unfold nA; decide)
  have b5 : R 5 n = 0 := Decidable.byContradiction (fun z => absurd (a5.mp z) (by rw [hk]; unfold nB; decide))
  have b6 : R 6 n = 0 := Decidable.byContradiction (fun z => absurd (a6.mp z) (by rw [hk]; decide))
  have l16 : R 16 n = -1 := h2 (by omega) 1 (by decide) (by decide) (by rw [hk]; decide)
  have l17 : R 17 n = -1 := h2 (by omega) 2 (by decide) (by decide) (by rw [hk]; decide)
  have l18 : R 18 n = -1 := h2 (by omega) 3 (by decide) (by decide) (by rw [hk]; decide)
  have hs : shp (R 0 n) = [(49, 1, 1)] := by rw [hk]; rfl
  rw [hs]
  simp [sgT, sgT1, nmK, kt, hk, b4, b5, b6, l16, l17, l18]
theorem tkq_16 (hk : R 0 n = 16) (hz : nzr R n) (hp : ∀ y ∈ kids (R 0 n), R (15 + y.2.toNat) n ≠ -1) : sgT R F n (shp (R 0 n)) = nmK R n ++ (kt F (R 16 n) ++ (kt F (R 17 n) ++ kt F (R 18 n))) := by
  obtain ⟨h1, h2⟩ := hz
  obtain ⟨a4, a5, a6⟩ := h1 (by omega) (by omega)
  have b4 : R 4 n = 0 := Decidable.byContradiction (fun z => absurd (a4.mp z) (by rw [hk]; unfold nA; decide))
  have b5 : R 5 n = 0 := Decidable.byContradiction (fun z => absurd (a5.mp z) (by rw [hk]; unfold nB; decide))
  have b6 : R 6 n = 0 := Decidable.byContradiction (fun z => absurd (a6.mp z) (by rw [hk]; decide))
  have l16 : R 16 n ≠ -1 := hp (111, 1) (by rw [hk]; decide)
  have l17 : R 17 n ≠ -1 := hp (118, 2) (by rw [hk]; decide)
  have l18 : R 18 n ≠ -1 := hp (118, 3) (by rw [hk]; decide)
  have hs : shp (R 0 n) = [(111, 1, 3), (118, 2, 2), (118, 3, 1)] := by rw [hk]; rfl
  rw [hs]
  simp [sgT, sgT1, nmK, kt, hk, b4, b5, b6, l16, l17, l18]
theorem tkq_17 (hk : R 0 n = 17) (hz : nzr R n) (hp : ∀ y ∈ kids (R 0 n), R (15 + y.2.toNat) n ≠ -1) : sgT R F n (shp (R 0 n)) = nmK R n ++ (kt F (R 16 n) ++ (kt F (R 17 n) ++ kt F (R 18 n))) := by
  obtain ⟨h1, h2⟩ := hz
  obtain ⟨a4, a5, a6⟩ := h1 (by omega) (by omega)
  have b4 : R 4 n = 0 := Decidable.byContradiction (fun z => absurd (a4.mp z) (by rw [hk]; unfold nA; decide))
  have b5 : R 5 n = 0 := Decidable.byContradiction (fun z => absurd (a5.mp z) (by rw [hk]; unfold nB; decide))
  have b6 : R 6 n = 0 := Decidable.byContradiction (fun z => absurd (a6.mp z) (by rw [hk]; decide))
  have l16 : R 16 n ≠ -1 := hp (111, 1) (by rw [hk]; decide)
  have l17 : R 17 n ≠ -1 := hp (111, 2) (by rw [hk]; decide)
  have l18 : R 18 n = -1 := h2 (by omega) 3 (by decide) (by decide) (by rw [hk]; decide)
  have hs : shp (R 0 n) = [(111, 1, 2), (111, 2, 1)] := by rw [hk]; rfl
  rw [hs]
  simp [sgT, sgT1, nmK, kt, hk, b4, b5, b6, l16, l17, l18]
theorem tkq_18 (hk : R 0 n = 18) (hz : nzr R n) (hp : ∀ y ∈ kids (R 0 n), R (15 + y.2.toNat) n ≠ -1) : sgT R F n (shp (R 0 n)) = nmK R n ++ (kt F (R 16 n) ++ (kt F (R 17 n) ++ kt F (R 18 n))) := by
  obtain ⟨h1, h2⟩ := hz
  obtain ⟨a4, a5, a6⟩ := h1 (by omega) (by omega)
  have b4 : R 4 n = 0 := Decidable.byContradiction (fun z => absurd (a4.mp z) (by rw [hk]; unfold nA; decide))
  have b5 : R 5 n = 0 := Decidable.byContradiction (fun z => absurd (a5.mp z) (by rw [hk]; unfold nB; decide))
  have b6 : R 6 n = 0 := Decidable.byContradiction (fun z => absurd (a6.mp z) (by rw [hk]; decide))
  have l16 : R 16 n ≠ -1 := hp (111, 1) (by rw [hk]; decide)
  have l17 : R 17 n ≠ -1 := hp (111, 2) (by rw [hk]; decide)
  have l18 : R 18 n = -1 := h2 (by omega) 3 (by decide) (by decide) (by rw [hk]; decide)
  have hs : shp (R 0 n) = [(111, 1, 2), (111, 2, 1)] := by rw [hk]; rfl
  rw [hs]
  simp [sgT, sgT1, nmK, kt, hk, b4, b5, b6, l16, l17, l18]
theorem tkq_19 (hk : R 0 n = 19) (hz : nzr R n) (hp : ∀ y ∈ kids (R 0 n), R (15 + y.2.toNat) n ≠ -1) : sgT R F n (shp (R 0 n)) = nmK R n ++ (kt F (R 16 n) ++ (kt F (R 17 n) ++ kt F (R 18 n))) := by
  obtain ⟨h1, h2⟩ := hz
  obtain ⟨a4, a5, a6⟩ := h1 (by omega) (by omega)
  have b4 : R 4 n = 0 := Decidable.byContradiction (fun z => absurd (a4.mp z) (by rw [hk]; unfold nA; decide))
  have b5 : R 5 n = 0 := Decidable.byContradiction (fun z => absurd (a5.mp z) (by rw [hk]; unfold nB; decide))
  have b6 : R 6 n = 0 := Decidable.byContradiction (fun z => absurd (a6.mp z) (by rw [hk]; decide))
  have l16 : R 16 n ≠ -1 := hp (111, 1) (by rw [hk]; decide)
  have l17 : R 17 n = -1 := h2 (by omega) 2 (by decide) (by decide) (by rw [hk]; decide)
  have l18 : R 18 n = -1 := h2 (by omega) 3 (by decide) (by decide) (by rw [hk]; decide)
  have hs : shp (R 0 n) = [(111, 1, 1)] := by rw [hk]; rfl
  rw [hs]
  simp [sgT, sgT1, nmK, kt, hk, b4, b5, b6, l16, l17, l18]
theorem tkq_20 (hk : R 0 n = 20) (hz : nzr R n) (hp : ∀ y ∈ kids (R 0 n), R (15 + y.2.toNat) n ≠ -1) : sgT R F n (shp (R 0 n)) = nmK R n ++ (kt F (R 16 n) ++ (kt F (R 17 n) ++ kt F (R 18 n))) := by
  obtain ⟨h1, h2⟩ := hz
  obtain ⟨a4, a5, a6⟩ := h1 (by omega) (by omega)
  have b4 : R 4 n ≠ 0 := a4.mpr (by rw [hk]; unfold nA; decide)
  have b5 : R 5 n ≠ 0 := a5.mpr (by rw [hk]; unfold nB; decide)
  have b6 : R 6 n = 0 := Decidable.byContradiction (fun z => absurd (a6.mp z) (by rw [hk]; decide))
  have l16 : R 16 n = -1 := h2 (by omega) 1 (by decide) (by decide) (by rw [hk]; decide)
  have l17 : R 17 n = -1 := h2 (by omega) 2 (by decide) (by decide) (by rw [hk]; decide)
  have l18 : R 18 n = -1 := h2 (by omega) 3 (by decide) (by decide) (by rw [hk]; decide)
  have hs : shp (R 0 n) = [(49, 1, 2), (50, 2, 1)] := by rw [hk]; rfl
  rw [hs]
  simp [sgT, sgT1, nmK, kt, hk, b4, b5, b6, l16, l17, l18]
theorem tkq_21 (hk : R 0 n = 21) (hz : nzr R n) (hp : ∀ y ∈ kids (R 0 n), R (15 + y.2.toNat) n ≠ -1) : sgT R F n (shp (R 0 n)) = nmK R n ++ (kt F (R 16 n) ++ (kt F (R 17 n) ++ kt F (R 18 n))) := by
  obtain ⟨h1, h2⟩ := hz
  obtain ⟨a4, a5, a6⟩ := h1 (by omega) (by omega)
  have b4 : R 4 n = 0 := Decidable.byContradiction (fun z => absurd (a4.mp z) (by rw [hk]; unfold nA; decide))
  have b5 : R 5 n = 0 := Decidable.byContradiction (fun z => absurd (a5.mp z) (by rw [hk]; unfold nB; decide))
  have b6 : R 6 n = 0 := Decidable.byContradiction (fun z => absurd (a6.mp z) (by rw [hk]; decide))
  have l16 : R 16 n ≠ -1 := hp (118, 1) (by rw [hk]; decide)
  have l17 : R 17 n ≠ -1 := hp (118, 2) (by rw [hk]; decide)
  have l18 : R 18 n = -1 := h2 (by omega) 3 (by decide) (by decide) (by rw [hk]; decide)
  have hs : shp (R 0 n) = [(118, 1, 2), (118, 2, 1)] := by rw [hk]; rfl
  rw [hs]
  simp [sgT, sgT1, nmK, kt, hk, b4, b5, b6, l16, l17, l18]
theorem tkq_22 (hk : R 0 n = 22) (hz : nzr R n) (hp : ∀ y ∈ kids (R 0 n), R (15 + y.2.toNat) n ≠ -1) : sgT R F n (shp (R 0 n)) = nmK R n ++ (kt F (R 16 n) ++ (kt F (R 17 n) ++ kt F (R 18 n))) := by
  obtain ⟨h1, h2⟩ := hz
  obtain ⟨a4, a5, a6⟩ := h1 (by omega) (by omega)
  have b4 : R 4 n = 0 := Decidable.byContradiction (fun z => absurd (a4.mp z) (by rw [hk]; unfold nA; decide))
  have b5 : R 5 n = 0 := Decidable.byContradiction (fun z => absurd (a5.mp z) (by rw [hk]; unfold nB; decide))
  have b6 : R 6 n = 0 := Decidable.byContradiction (fun z => absurd (a6.mp z) (by rw [hk]; decide))
  have l16 : R 16 n ≠ -1 := hp (118, 1) (by rw [hk]; decide)
  have l17 : R 17 n ≠ -1 := hp (118, 2) (by rw [hk]; decide)
  have l18 : R 18 n = -1 := h2 (by omega) 3 (by decide) (by decide) (by rw [hk]; decide)
  have hs : shp (R 0 n) = [(118, 1, 2), (118, 2, 1)] := by rw [hk]; rfl
  rw [hs]
  simp [sgT, sgT1, nmK, kt, hk, b4, b5, b6, l16, l17, l18]
theorem tkq_23 (hk : R 0 n = 23) (hz : nzr R n) (hp : ∀ y ∈ kids (R 0 n), R (15 + y.2.toNat) n ≠ -1) : sgT R F n (shp (R 0 n)) = nmK R n ++ (kt F (R 16 n) ++ (kt F (R 17 n) ++ kt F (R 18 n))) := by
  obtain ⟨h1, h2⟩ := hz
  obtain ⟨a4, a5, a6⟩ := h1 (by omega) (by omega)
  have b4 : R 4 n = 0 := Decidable.byContradiction (fun z => absurd (a4.mp z) (by rw [hk]; unfold nA; decide))
  have b5 : R 5 n = 0 := Decidable.byContradiction (fun z => absurd (a5.mp z) (by rw [hk]; unfold nB; decide))
  have b6 : R 6 n = 0 := Decidable.byContradiction (fun z => absurd (a6.mp z) (by rw [hk]; decide))
  have l16 : R 16 n ≠ -1 := hp (118, 1) (by rw [hk]; decide)
  have l17 : R 17 n ≠ -1 := hp (118, 2) (by rw [hk]; decide)
  have l18 : R 18 n = -1 := h2 (by omega) 3 (by decide) (by decide) (by rw [hk]; decide)
  have hs : shp (R 0 n) = [(118, 1, 2), (118, 2, 1)] := by rw [hk]; rfl
  rw [hs]
  simp [sgT, sgT1, nmK, kt, hk, b4, b5, b6, l16, l17, l18]
theorem tkq_24 (hk : R 0 n = 24) (hz : nzr R n) (hp : ∀ y ∈ kids (R 0 n), R (15 + y.2.toNat) n ≠ -1) : sgT R F n (shp (R 0 n)) = nmK R n ++ (kt F (R 16 n) ++ (kt F (R 17 n) ++ kt F (R 18 n))) := by
  obtain ⟨h1, h2⟩ := hz
  obtain ⟨a4, a5, a6⟩ := h1 (by omega) (by omega)
  have b4 : R 4 n = 0 := Decidable.byContradiction (fun z => absurd (a4.mp z) (by rw [hk]; unfold nA; decide))
  have b5 : R 5 n = 0 := Decidable.byContradiction (fun z => absurd (a5.mp z) (by rw [hk]; unfold nB; decide))
  have b6 : R 6 n = 0 := Decidable.byContradiction (fun z => absurd (a6.mp z) (by rw [hk]; decide))
  have l16 : R 16 n ≠ -1 := hp (118, 1) (by rw [hk]; decide)
  have l17 : R 17 n ≠ -1 := hp (118, 2) (by rw [hk]; decide)
  have l18 : R 18 n = -1 := h2 (by omega) 3 (by decide) (by decide) (by rw [hk]; decide)
  have hs : shp (R 0 n) = [(118, 1, 2), (118, 2, 1)] := by rw [hk]; rfl
  rw [hs]
  simp [sgT, sgT1, nmK, kt, hk, b4, b5, b6, l16, l17, l18]
theorem tkq_25 (hk : R 0 n = 25) (hz : nzr R n) (hp : ∀ y ∈ kids (R 0 n), R (15 + y.2.toNat) n ≠ -1) : sgT R F n (shp (R 0 n)) = nmK R n ++ (kt F (R 16 n) ++ (kt F (R 17 n) ++ kt F (R 18 n))) := by
  obtain ⟨h1, h2⟩ := hz
  obtain ⟨a4, a5, a6⟩ := h1 (by omega) (by omega)
  have b4 : R 4 n = 0 := Decidable.byContradiction (fun z => absurd (a4.mp z) (by rw [hk]; unfold nA; decide))
  have b5 : R 5 n = 0 := Decidable.byContradiction (fun z => absurd (a5.mp z) (by rw [hk]; unfold nB; decide))
  have b6 : R 6 n = 0 := Decidable.byContradiction (fun z => absurd (a6.mp z) (by rw [hk]; decide))
  have l16 : R 16 n ≠ -1 := hp (118, 1) (by rw [hk]; decide)
  have l17 : R 17 n ≠ -1 := hp (118, 2) (by rw [hk]; decide)
  have l18 : R 18 n = -1 := h2 (by omega) 3 (by decide) (by decide) (by rw [hk]; decide)
  have hs : shp (R 0 n) = [(118, 1, 2), (118, 2, 1)] := by rw [hk]; rfl
  rw [hs]
  simp [sgT, sgT1, nmK, kt, hk, b4, b5, b6, l16, l17, l18]
theorem tkq_26 (hk : R 0 n = 26) (hz : nzr R n) (hp : ∀ y ∈ kids (R 0 n), R (15 + y.2.toNat) n ≠ -1) : sgT R F n (shp (R 0 n)) = nmK R n ++ (kt F (R 16 n) ++ (kt F (R 17 n) ++ kt F (R 18 n))) := by
  obtain ⟨h1, h2⟩ := hz
  obtain ⟨a4, a5, a6⟩ := h1 (by omega) (by omega)
  have b4 : R 4 n = 0 := Decidable.byContradiction (fun z => absurd (a4.mp z) (by rw [hk]; unfold nA; decide))
  have b5 : R 5 n = 0 := Decidable.byContradiction (fun z => absurd (a5.mp z) (by rw [hk]; unfold nB; decide))
  have b6 : R 6 n = 0 := Decidable.byContradiction (fun z => absurd (a6.mp z) (by rw [hk]; decide))
  have l16 : R 16 n = -1 := h2 (by omega) 1 (by decide) (by decide) (by rw [hk]; decide)
  have l17 : R 17 n = -1 := h2 (by omega) 2 (by decide) (by decide) (by rw [hk]; decide)
  have l18 : R 18 n = -1 := h2 (by omega) 3 (by decide) (by decide) (by rw [hk]; decide)
  have hs : shp (R 0 n) = [] := by rw [hk]; rfl
  rw [hs]
  simp [sgT, sgT1, nmK, kt, hk, b4, b5, b6, l16, l17, l18]
theorem tkq_27 (hk : R 0 n = 27) (hz : nzr R n) (hp : ∀ y ∈ kids (R 0 n), R (15 + y.2.toNat) n ≠ -1) : sgT R F n (shp (R 0 n)) = nmK R n ++ (kt F (R 16 n) ++ (kt F (R 17 n) ++ kt F (R 18 n))) := by
  obtain ⟨h1, h2⟩ := hz
  obtain ⟨a4, a5, a6⟩ := h1 (by omega) (by omega)
  have b4 : R 4 n = 0 := Decidable.byContradiction (fun z => absurd (a4.mp z) (by rw [hk]; unfold nA; decide))
  have b5 : R 5 n = 0 := Decidable.byContradiction (fun z => absurd (a5.mp z) (by rw [hk]; unfold nB; decide))
  have b6 : R 6 n = 0 := Decidable.byContradiction (fun z => absurd (a6.mp z) (by rw [hk]; decide))
  have l16 : R 16 n = -1 := h2 (by omega) 1 (by decide) (by decide) (by rw [hk]; decide)
  have l17 : R 17 n = -1 := h2 (by omega) 2 (by decide) (by decide) (by rw [hk]; decide)
  have l18 : R 18 n = -1 := h2 (by omega) 3 (by decide) (by decide) (by rw [hk]; decide)
  have hs : shp (R 0 n) = [] := by rw [hk]; rfl
  rw [hs]
  simp [sgT, sgT1, nmK, kt, hk, b4, b5, b6, l16, l17, l18]
theorem tkq_28 (hk : R 0 n = 28) (hz : nzr R n) (hp : ∀ y ∈ kids (R 0 n), R (15 + y.2.toNat) n ≠ -1) : sgT R F n (shp (R 0 n)) = caT R n ++ (kt F (R 16 n) ++ kt F (R 17 n)) := by
  obtain ⟨h1, h2⟩ := hz
  have l16 : R 16 n ≠ -1 := hp (118, 1) (by rw [hk]; decide)
  have l17 : R 17 n ≠ -1 := hp (99, 2) (by rw [hk]; decide)
  have hs : shp (R 0 n) = [(49, 1, 5), (50, 2, 4), (51, 3, 3), (118, 1, 2), (99, 2, 1)] := by rw [hk]; rfl
  rw [hs]
  simp [sgT, sgT1, caT, kt, hk, l16, l17]
theorem tkq_29 (hk : R 0 n = 29) (hz : nzr R n) (hp : ∀ y ∈ kids (R 0 n), R (15 + y.2.toNat) n ≠ -1) : sgT R F n (shp (R 0 n)) = caT R n ++ (kt F (R 16 n) ++ kt F (R 17 n)) := by
  obtain ⟨h1, h2⟩ := hz
  have l16 : R 16 n = -1 := h2 (by omega) 1 (by decide) (by decide) (by rw [hk]; decide)
  have l17 : R 17 n ≠ -1 := hp (99, 2) (by rw [hk]; decide)
  have hs : shp (R 0 n) = [(49, 1, 5), (50, 2, 4), (91, 0, 3), (98, 0, 2), (99, 2, 1)] := by rw [hk]; rfl
  rw [hs]
  simp [sgT, sgT1, caT, kt, hk, l16, l17]
theorem tkq_30 (hk : R 0 n = 30) (hz : nzr R n) (hp : ∀ y ∈ kids (R 0 n), R (15 + y.2.toNat) n ≠ -1) : sgT R F n (shp (R 0 n)) = caT R n ++ (kt F (R 16 n) ++ kt F (R 17 n)) := by
  obtain ⟨h1, h2⟩ := hz
  have l16 : R 16 n ≠ -1 := hp (111, 1) (by rw [hk]; decide)
  have l17 : R 17 n ≠ -1 := hp (99, 2) (by rw [hk]; decide)
  have hs : shp (R 0 n) = [(111, 1, 2), (99, 2, 1)] := by rw [hk]; rfl
  rw [hs]
  simp [sgT, sgT1, caT, kt, hk, l16, l17]
theorem tkq (hk : 0 ≤ R 0 n ∧ R 0 n < 28) (h3 : R 0 n ≠ 3) (hz : nzr R n) (hp : ∀ y ∈ kids (R 0 n), R (15 + y.2.toNat) n ≠ -1) : sgT R F n (shp (R 0 n)) = nmK R n ++ (kt F (R 16 n) ++ (kt F (R 17 n) ++ kt F (R 18 n))) := by
  have hc : R 0 n = 0 ∨ R 0 n = 1 ∨ R 0 n = 2 ∨ R 0 n = 4 ∨ R 0 n = 5 ∨ R 0 n = 6 ∨ R 0 n = 7 ∨ R 0 n = 8 ∨ R 0 n = 9 ∨ R 0 n = 10 ∨ R 0 n = 11 ∨ R 0 n = 12 ∨ R 0 n = 13 ∨ R 0 n = 14 ∨ R 0 n = 15 ∨ R 0 n = 16 ∨ R 0 n = 17 ∨ R 0 n = 18 ∨ R 0 n = 19 ∨ R 0 n = 20 ∨ R 0 n = 21 ∨ R 0 n = 22 ∨ R 0 n = 23 ∨ R 0 n = 24 ∨ R 0 n = 25 ∨ R 0 n = 26 ∨ R 0 n = 27 := by omega
  rcases hc with z | z | z | z | z | z | z | z | z | z | z | z | z | z | z | z | z | z | z | z | z | z | z | z | z | z | z
  · exact tkq_0 z hz hp
  · exact tkq_1 z hz hp
  · exact tkq_2 z hz hp
  · exact tkq_4 z hz hp
  · exact tkq_5 z hz hp
  · exact tkq_6 z hz hp
  · exact tkq_7 z hz hp
  · exact tkq_8 z hz hp
  · exact tkq_9 z hz hp
  · exact tkq_10 z hz hp
  · exact tkq_11 z hz hp
  · exact tkq_12 z hz hp
  · exact tkq_13 z hz hp
  · exact tkq_14 z hz hp
  · exact tkq_15 z hz hp
  · exact tkq_16 z hz hp
  · exact tkq_17 z hz hp
  · exact tkq_18 z hz hp
  · exact tkq_19 z hz hp
  · exact tkq_20 z hz hp
  · exact tkq_21 z hz hp
  · exact tkq_22 z hz hp
  · exact tkq_23 z hz hp
  · exact tkq_24 z hz hp
  · exact tkq_25 z hz hp
  · exact tkq_26 z hz hp
  · exact tkq_27 z hz hp
theorem tkqc (hk : 28 ≤ R 0 n ∧ R 0 n ≤ 30) (hz : nzr R n) (hp : ∀ y ∈ kids (R 0 n), R (15 + y.2.toNat) n ≠ -1) : sgT R F n (shp (R 0 n)) = caT R n ++ (kt F (R 16 n) ++ kt F (R 17 n)) := by
  have hc : R 0 n = 28 ∨ R 0 n = 29 ∨ R 0 n = 30 := by omega
  rcases hc with z | z | z
  · exact tkq_28 z hz hp
  · exact tkq_29 z hz hp
  · exact tkq_30 z hz hp
end TOKEQ

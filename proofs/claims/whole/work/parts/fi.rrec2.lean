/-! THE REFERENCE recovers -/
/-- what the reference takes away, and what stays -/
def tkR (M N : im_M) : Prop := (∀ x, x ≠ 6952 → x ≠ 6984 → x ≠ 6994 → N x = M x) ∧ (∀ i, 0 ≤ i → i < 16 → N 6984 i = 0 ∧ N 6994 i = 0) ∧ (N 6952 2 = 0 ∧ N 6952 4 = 0 ∧ N 6952 62 = 0 ∧ N 6952 130 = 0 ∧ N 6952 134 = 0 ∧ N 6952 137 = 0 ∧ N 6952 143 = 0 ∧ N 6952 175 = 0) ∧ (N 6952 38 = 0 ∧ N 6952 36 = 0 ∧ N 6952 6 = 0) ∧ (N 6952 177 = 0 ∧ N 6952 178 = 0 ∧ N 6952 179 = -1 ∧ N 6952 180 = 0) ∧ ∀ k, (k = 8 ∨ k = 19 ∨ k = 20 ∨ k = 99 ∨ k = 100 ∨ k = 116) → N 6952 k = M 6952 k
theorem hs2_0 {β : Bk} {a b : Int} : ¬ hs2 (0, β.2) a b := fun z => by
  have h1 := (ps_ok (0, β.2) a b).1
  have h2 : ps (0, β.2) a b < 0 := z.1
  omega
theorem RW.rwnd {M N : im_M} {w : Wd} (h : RW M w) (hA : tkR M N) : RW N (rwW w) := by
  obtain ⟨hx, h16, ⟨k2, k4, k62, k130, k134, k137, k143, k175⟩, ⟨k38, k36, k6⟩, ⟨k177, k178, k179, k180⟩, hk⟩ := hA
  obtain ⟨⟨_, _, ⟨f1, f2⟩⟩, ⟨_, _, hin⟩, ⟨⟨_, _, pz, _⟩, _, _⟩, _, _, ⟨j0, _⟩, ⟨c1, c2, c3, c4⟩⟩ := h
  refine ⟨⟨⟨k2, fun i a b => ?_, Int.le_refl _, by show (0 : Int) ≤ 16384; decide⟩, ⟨k4, fun i a b => ?_, Int.le_refl _, by show (0 : Int) ≤ 16384; decide⟩, ⟨by rw [hk 19 (by decide)]; exact f1, by rw [hk 20 (by decide)]; exact f2⟩⟩, ⟨⟨fun i a b => ?_, k38, by rw [k6]; exact ⟨Int.le_refl _, Int.le_refl _⟩, by rw [k36]; exact ⟨Int.le_refl _, Int.le_refl _⟩⟩, fun k a b => ⟨fun _ => (h16 k a b).1, fun z => absurd rfl z⟩, fun k a b => ?_⟩, ⟨⟨k62, Nat.zero_le _, pz, fun k z => absurd z (Nat.not_lt_zero k)⟩, ⟨k130, Nat.zero_le _, fun i z => absurd z (Nat.not_lt_zero i), fun i _ z => absurd z (Nat.not_lt_zero i), fun a b z => absurd z hs2_0⟩, ⟨k134, Nat.zero_le _, fun i z => absurd z (Nat.not_lt_zero i), fun i _ z => absurd z (Nat.not_lt_zero i), fun a z => absurd z hs2_0⟩⟩, ⟨⟨k137, Nat.zero_le _, fun i z => absurd z (Nat.not_lt_zero i)⟩, ⟨k143, Nat.zero_le _, fun i z => absurd z (Nat.not_lt_zero i)⟩⟩, k175, ⟨fun x a b => by rw [hx 7080 (by decide) (by decide) (by decide)]; exact j0 x a b, k177, k178, k179, k180⟩, ⟨by rw [hk 8 (by decide)]; exact c1, by rw [hk 116 (by decide)]; exact c2, by rw [hk 99 (by decide)]; exact c3, by rw [hk 100 (by decide)]; exact c4⟩⟩
  · have b : i < 0 := b
    omega
  · have b : i < 0 := b
    omega
  · have b : i < 0 := b
    omega
  · obtain ⟨⟨u1, u2, u3⟩, S1, S2, S3, S4, S5⟩ := hin k a b
    have ex : ∀ x, 6995 ≤ x → N x = M x := fun x z => hx x (by omega) (by omega) (by omega)
    exact ⟨⟨(h16 k a b).2, by rw [ex 6995 (by decide)]; exact u2, by rw [ex 6996 (by decide)]; exact u3⟩, SB2_congr S1 (ex _ (by decide)) (ex _ (by decide)) (ex _ (by decide)) (ex _ (by decide)), SB2_congr S2 (ex _ (by decide)) (ex _ (by decide)) (ex _ (by decide)) (ex _ (by decide)), SB1_congr S3 (ex _ (by decide)) (ex _ (by decide)) (ex _ (by decide)), SB1_congr S4 (ex _ (by decide)) (ex _ (by decide)) (ex _ (by decide)), S5⟩
section RREC2
variable {g : im_g} {d : Nat} {e : im_E} {M : im_M} {K : im_K} {w : Wd}
theorem l_r82 {M0 : im_M} (hK : ∀ N, (∀ x, x ≠ 6984 → x ≠ 6994 → N x = M0 x) → (∀ i, 0 ≤ i → i < 16 → N 6984 i = 0 ∧ N 6994 i = 0) → im_T g d 444 110 [some (.ref 6952), some (vI 1)] [] e N K) : ∀ (j k : Nat) (M : im_M), k + j = 16 → (∀ x, x ≠ 6984 → x ≠ 6994 → M x = M0 x) → (∀ i : Int, 0 ≤ i → i < (k : Int) → M 6984 i = 0 ∧ M 6994 i = 0) → im_T g d 444 82 [some (.ref 6952), some (vI k)] [] e M K := by
  intro j
  induction j with
  | zero =>
    intro k M hk hF hz
    exact b_recover_82 ⟨by constructor <;> omega, fun _ => hK M hF (fun i a b => hz i a (by omega)), fun z => by omega⟩
  | succ j ih =>
    intro k M hk hF hz
    refine b_recover_82 ⟨by constructor <;> omega, fun z => by omega, fun _ => ⟨⟨by omega, by omega⟩, ?_⟩⟩
    have := ih (k + 1) (im_u (im_u M 6984 k 0) 6994 k 0) (by omega) (fun x a b => by rw [im_u_ne _ _ _ b, im_u_ne _ _ _ a]; exact hF x a b) (fun i a b => by
      rw [im_u_ne _ _ _ (by decide), im_rdx, im_rdx, im_u_ne _ _ _ (by decide)]
      by_cases z : i = (k : Int)
      · rw [if_pos z, if_pos z]; exact ⟨rfl, rfl⟩
      · rw [if_neg z, if_neg z]; exact hz i a (by omega))
    exact this
theorem l_r110 {I : Wd → Prop} {M0 : im_M} {wE : Wd} (hI : RcS I) (hI' : ∀ w, I w → RcR w) (hd : 23 ≤ d) (hK : ∀ M', (∀ y, y < 6952 ∨ 7080 < y → M' y = M0 y) → RW M' ((wE.sFc (-1)).sFp (-1)) → K (.inl (some (vI wE.gJr.2.2.1))) e M') : ∀ (f : Nat) (w : Wd) (M : im_M), I w → reS f w wE → RW M w → (∀ y, y < 6952 ∨ 7080 < y → M y = M0 y) → im_T g d 444 110 [some (.ref 6952), some (vI 1)] [] e M K := by
  have fin : ∀ M, RW M wE → (∀ y, y < 6952 ∨ 7080 < y → M y = M0 y) → im_T g d 444 110 [some (.ref 6952), some (vI 0)] [] e M K := by
    intro M h hF
    obtain ⟨_, _, _, _, _, ⟨_, _, j2, _⟩, ⟨c1, c2, c3, c4⟩⟩ := id h
    refine b_recover_110 (by omega) ⟨by decide, fun _ => ?_, fun z => absurd rfl z⟩
    rw [j2]
    have ex : ∀ x, x ≠ 6952 → im_u (im_u M 6952 19 (-1)) 6952 20 (-1) x = M x := fun x a => by rw [im_u_ne _ _ _ a, im_u_ne _ _ _ a]
    have ek : ∀ k, k ≠ 19 → k ≠ 20 → im_u (im_u M 6952 19 (-1)) 6952 20 (-1) 6952 k = M 6952 k := fun k a b => by rw [im_rdk _ _ _ b, im_rdk _ _ _ a]
    refine hK _ (fun y hy => by rw [ex y (by omega)]; exact hF y hy) (h.scr (c := -1) (p := -1) ⟨fun x a _ _ _ _ => ex x a, fun x i a b _ => by rw [ex x (by omega)], fun x i a _ => by rw [ex x (by omega)], fun i _ => by rw [ex 6955 (by decide)], fun k hk => ek k (by omega) (by omega)⟩ ⟨by rw [im_rdk _ _ _ (by decide), im_rds], im_rds _ _ _ _⟩ ⟨by rw [ek 8 (by decide) (by decide)]; exact c1, by rw [ek 116 (by decide) (by decide)]; exact c2, by rw [ek 99 (by decide) (by decide)]; exact c3, by rw [ek 100 (by decide) (by decide)]; exact c4⟩)
  intro f
  induction f with
  | zero => intro w M _ hr; exact absurd hr (fun z => z)
  | succ f ih =>
    intro w M hw hr h hF
    obtain ⟨hQ, hS⟩ := hI w hw
    refine b_recover_110 (by omega) ⟨by decide, fun z => absurd z (by decide), fun _ => ?_⟩
    rcases hr with ⟨hn, he⟩ | ⟨hy, σ, ⟨hlt, he⟩ | ⟨hge, hr'⟩⟩
    · obtain ⟨σ⟩ : Nonempty Sg := ⟨(0, (0, z0, z0, z0, z0, z0), (0, z0, z0, z0, z0, z0), (0, z0, z0, z0, z0, z0), 0)⟩
      rw [← he] at h hQ hn
      have hR := hI' w hw
      rw [← he] at hR
      exact c_redoRecord (σ := σ) h hQ hR (fun z => absurd z hn) (by omega) (fun _ M' f' W' => ⟨_, rfl, rfl, fin M' W' (fun y hy => (f' y hy).trans (hF y hy))⟩) (fun z => absurd z hn) (fun z => absurd z hn)
    · refine c_redoRecord (σ := σ) h hQ (hI' w hw) (fun _ => (hS hy σ).2.1) (by omega) (fun z => absurd hy z) (fun _ _ M' f' W' => ⟨_, rfl, rfl, fin M' (by rw [he]; exact W') (fun y hy => (f' y hy).trans (hF y hy))⟩) (fun _ z => by omega)
    · refine c_redoRecord (σ := σ) h hQ (hI' w hw) (fun _ => (hS hy σ).2.1) (by omega) (fun z => absurd hy z) (fun _ z => by omega) (fun _ _ M' f' W' => ⟨_, rfl, rfl, ih _ M' ((hS hy σ).2.2.2 hge) hr' W' (fun y hy => (f' y hy).trans (hF y hy))⟩)
theorem c_R_recover {I : Wd → Prop} {wE : Wd} {f : Nat} (h : RW M w) (hI : RcS I) (hI' : ∀ w, I w → RcR w) (hw : I (rwW w)) (hr : reS f (rwW w) wE) (hd : 23 ≤ d)
    (hK : ∀ M', (∀ y, y < 6952 ∨ 7080 < y → M' y = M y) → RW M' ((wE.sFc (-1)).sFp (-1)) → K (.inl (some (vI wE.gJr.2.2.1))) e M') : im_T g d 444 0 [some (.ref 6952), none] [] e M K := by
  refine b_recover_0 ?_
  generalize hB : im_u (im_u (im_u (im_u (im_u (im_u (im_u (im_u (im_u (im_u (im_u (im_u (im_u (im_u (im_u (im_u M 6952 0 0) 6952 180 0) 6952 179 (-1)) 6952 2 0) 6952 4 0) 6952 62 0) 6952 130 0) 6952 134 0) 6952 137 0) 6952 143 0) 6952 175 0) 6952 38 0) 6952 36 0) 6952 6 0) 6952 177 0) 6952 178 0 = B
  have bx : ∀ x, x ≠ 6952 → B x = M x := fun x a => by rw [← hB]; iterate 16 rw [im_u_ne _ _ _ a]
  have bk : ∀ k, (k = 8 ∨ k = 19 ∨ k = 20 ∨ k = 99 ∨ k = 100 ∨ k = 116) → B 6952 k = M 6952 k := fun k hk => by rw [← hB]; iterate 16 rw [im_rdk _ _ _ (by omega)]
  have b178 : B 6952 178 = 0 := by rw [← hB]; exact im_rds _ _ _ _
  have b177 : B 6952 177 = 0 := by rw [← hB]; iterate 1 rw [im_rdk _ _ _ (by decide)]
                                   exact im_rds _ _ _ _
  have b6 : B 6952 6 = 0 := by rw [← hB]; iterate 2 rw [im_rdk _ _ _ (by decide)]
                               exact im_rds _ _ _ _
  have b36 : B 6952 36 = 0 := by rw [← hB]; iterate 3 rw [im_rdk _ _ _ (by decide)]
                                 exact im_rds _ _ _ _
  have b38 : B 6952 38 = 0 := by rw [← hB]; iterate 4 rw [im_rdk _ _ _ (by decide)]
                                 exact im_rds _ _ _ _
  have b175 : B 6952 175 = 0 := by rw [← hB]; iterate 5 rw [im_rdk _ _ _ (by decide)]
                                   exact im_rds _ _ _ _
  have b143 : B 6952 143 = 0 := by rw [← hB]; iterate 6 rw [im_rdk _ _ _ (by decide)]
                                   exact im_rds _ _ _ _
  have b137 : B 6952 137 = 0 := by rw [← hB]; iterate 7 rw [im_rdk _ _ _ (by decide)]
                                   exact im_rds _ _ _ _
  have b134 : B 6952 134 = 0 := by rw [← hB]; iterate 8 rw [im_rdk _ _ _ (by decide)]
                                   exact im_rds _ _ _ _
  have b130 : B 6952 130 = 0 := by rw [← hB]; iterate 9 rw [im_rdk _ _ _ (by decide)]
                                   exact im_rds _ _ _ _
  have b62 : B 6952 62 = 0 := by rw [← hB]; iterate 10 rw [im_rdk _ _ _ (by decide)]
                                 exact im_rds _ _ _ _
  have b4 : B 6952 4 = 0 := by rw [← hB]; iterate 11 rw [im_rdk _ _ _ (by decide)]
                               exact im_rds _ _ _ _
  have b2 : B 6952 2 = 0 := by rw [← hB]; iterate 12 rw [im_rdk _ _ _ (by decide)]
                               exact im_rds _ _ _ _
  have b179 : B 6952 179 = -1 := by rw [← hB]; iterate 13 rw [im_rdk _ _ _ (by decide)]
                                    exact im_rds _ _ _ _
  have b180 : B 6952 180 = 0 := by rw [← hB]; iterate 14 rw [im_rdk _ _ _ (by decide)]
                                   exact im_rds _ _ _ _
  clear hB
  refine l_r82 (M0 := B) (fun N nx nz => ?_) 16 0 B rfl (fun _ _ _ => rfl) (fun i a b => by omega)
  have e52 : N 6952 = B 6952 := nx 6952 (by decide) (by decide)
  have hA : tkR M N := ⟨fun x a b c => (nx x b c).trans (bx x a), nz, by rw [e52]; exact ⟨b2, b4, b62, b130, b134, b137, b143, b175⟩, by rw [e52]; exact ⟨b38, b36, b6⟩, by rw [e52]; exact ⟨b177, b178, b179, b180⟩, fun k hk => by rw [e52]; exact bk k hk⟩
  exact l_r110 (M0 := M) hI hI' hd hK f (rwW w) N hw hr (h.rwnd hA) (fun y hy => hA.1 y (by omega) (by omega) (by omega))
end RREC2

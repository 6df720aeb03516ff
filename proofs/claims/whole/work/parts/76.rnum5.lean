/-! places, layFound, times -/
theorem dv_cons (B : Int) (f : Int → Int) (o : Int) (n : Nat) : dv B f o (n + 1) = f o + B * dv B f (o + 1) n := by
  rw [Nat.add_comm, dv_add, dv_succ]
  show 0 + f (o + 0) * B ^ 0 + B ^ 1 * _ = _
  rw [Int.zero_add, Int.add_zero, Int.pow_zero, Int.mul_one, Int.pow_succ, Int.pow_zero, Int.one_mul]
  rfl
theorem p9 : (10 : Int) ^ 9 = 1000000000 := by decide
section RNUM6
variable {g : im_g} {d : Nat} {e : im_E} {M M0 : im_M} {K : im_K}
theorem l_placesI {a n k : Int} {w na : Nat} (hs : (im_sh0 ++ e)[w]? = some (2, 72, [])) (ha0 : 0 ≤ a) (ha : M 6955 (a + 1) = na) (hda : dok 10 (M 6955) (a + 2) na) (hal : a + 2 + na ≤ 1100000) (hk : 0 ≤ k) (hk2 : k < 72) (hd : 1 ≤ d) (hK : im_T g d 396 18 [some (.ref 6952), some (vI a), some (.ref w), some (vI n), some (vI (k + 1)), none, none, none] [] e (im_u M w k (dv 10 (dg (M 6955) a) (9 * k) 9)) K) : ∀ (t : Nat), t ≤ 9 → im_T g d 396 31 [some (.ref 6952), some (vI a), some (.ref w), some (vI n), some (vI k), some (vL (dv 10 (dg (M 6955) a) (9 * k + t) (9 - t))), none, some (vI ((t : Int) - 1))] [] e M K := by
  have hD : ∀ (o : Int), 0 ≤ o → ∀ m : Nat, dok 10 (dg (M 6955) a) o m := fun o ho m i i0 i1 => by
    have := dg_rng (k := o + i) ha hda (by omega)
    omega
  intro t
  induction t with
  | zero =>
    intro _
    have hb := dv_bd (B := 10) (by decide) (hD (9 * k) (by omega) 9)
    rw [p9] at hb
    refine b_places_31 hs (by decide) hd ⟨by constructor <;> omega, fun _ => ⟨by constructor <;> omega, ?_, ?_⟩, fun z => absurd z (by omega)⟩
    · show im_i64 (dv 10 (dg (M 6955) a) (9 * k + 0) 9)
      rw [Int.add_zero]
      constructor <;> omega
    · show im_T g d 396 18 _ [] e (im_u M w k (dv 10 (dg (M 6955) a) (9 * k + 0) 9)) K
      rw [Int.add_zero]
      exact hK
  | succ t ih =>
    intro ht
    have hr := dg_rng (k := 9 * k + t) ha hda (by omega)
    rw [show ((t + 1 : Nat) : Int) - 1 = (t : Int) from by omega]
    refine b_places_31 hs (by decide) hd ⟨by constructor <;> omega, fun z => absurd z (by omega), fun _ => ?_⟩
    refine c_digit ha0 (by omega) (by omega) (by omega) (by omega) ⟨_, rfl, rfl, ⟨by constructor <;> omega, ?_⟩⟩
    have h9 := ih (by omega)
    rw [show 9 - t = (9 - (t + 1)) + 1 from by omega, dv_cons, Int.add_comm (dg _ _ _)] at h9
    rw [show 9 * k + ((t + 1 : Nat) : Int) = 9 * k + (t : Int) + 1 from by omega]
    exact h9
theorem l_placesO {a : Int} {w na n : Nat} (hs : (im_sh0 ++ e)[w]? = some (2, 72, [])) (hw : w ≠ 6955) (ha0 : 0 ≤ a) (ha : M0 6955 (a + 1) = na) (hda : dok 10 (M0 6955) (a + 2) na) (hal : a + 2 + na ≤ 1100000) (hn : n < 72) (hd : 1 ≤ d) (hK : ∀ M', (∀ b, b ≠ w → M' b = M0 b) → (∀ i : Int, 0 ≤ i → i < n → M' w i = dv 10 (dg (M0 6955) a) (9 * i) 9) → M' w n = 0 → K (.inl (some (vI n))) e M') : ∀ (j k : Nat) (M : im_M), k + j = n → (∀ b, b ≠ w → M b = M0 b) → (∀ i : Int, 0 ≤ i → i < k → M w i = dv 10 (dg (M0 6955) a) (9 * i) 9) → im_T g d 396 18 [some (.ref 6952), some (vI a), some (.ref w), some (vI n), some (vI k), none, none, none] [] e M K := by
  intro j
  induction j with
  | zero =>
    intro k M hk hF hv
    have hk : k = n := by omega
    subst hk
    refine b_places_18 hs (by decide) ⟨by constructor <;> omega, by constructor <;> omega, fun _ => ⟨by constructor <;> omega, ?_⟩, fun z => absurd z (by omega)⟩
    refine hK _ (fun b hb => (im_u_ne _ _ _ hb).trans (hF b hb)) (fun i i0 i1 => (im_rdk _ _ _ (by omega)).trans (hv i i0 i1)) (im_rds _ _ _ _)
  | succ j ih =>
    intro k M hk hF hv
    have e0 : M 6955 = M0 6955 := hF 6955 (Ne.symm hw)
    refine b_places_18 hs (by decide) ⟨by constructor <;> omega, by constructor <;> omega, fun z => absurd z (by omega), fun _ => ?_⟩
    have h9 := l_placesI (K := K) (M := M) (g := g) (d := d) (k := k) (n := n) hs ha0 (by rw [e0]; exact ha) (by rw [e0]; exact hda) hal (by omega) (by omega) hd (by
      rw [e0]
      refine ih (k + 1) _ (by omega) (fun b hb => (im_u_ne _ _ _ hb).trans (hF b hb)) (fun i i0 i1 => ?_)
      by_cases hi : i = k
      · subst hi; rw [im_rds]
      · rw [im_rdk _ _ _ hi]; exact hv i i0 (by omega)) 9 (Nat.le_refl 9)
    exact h9
/-- places: a number in places of nine digits -/
theorem c_places {a v : Int} {w na : Nat} (hr : rn (M 6955) a na v) (hs : (im_sh0 ++ e)[w]? = some (2, 72, [])) (hw : w ≠ 6955) (ha0 : 0 ≤ a) (hal : a + 2 + na ≤ 1100000) (hna : na ≤ 600) (hd : 1 ≤ d) (hK : ∀ M', (∀ b, b ≠ w → M' b = M b) → dok 1000000000 (M' w) 0 ((na + 8) / 9) → dv 1000000000 (M' w) 0 ((na + 8) / 9) = dv 10 (M 6955) (a + 2) na → M' w (((na + 8) / 9 : Nat) : Int) = 0 → K (.inl (some (vI (((na + 8) / 9 : Nat) : Int)))) e M') : im_T g d 396 0 [some (.ref 6952), some (vI a), some (.ref w), none, none, none, none, none] [] e M K := by
  obtain ⟨r1, r2, r3, r4⟩ := hr
  refine b_places_0 hs (by decide) ⟨by constructor <;> omega, by constructor <;> omega, ?_⟩
  rw [r1, Int.tdiv_eq_ediv_of_nonneg (by omega), show ((na : Int) + 8) / 9 = (((na + 8) / 9 : Nat) : Int) from by omega]
  refine l_placesO (M0 := M) hs hw ha0 r1 r2.1 hal (by omega) hd (fun M' hF hv h0 => hK M' hF ?_ ?_ h0) ((na + 8) / 9) 0 M (by omega) (fun _ _ => rfl) (fun i i0 i1 => by omega)
  · intro i i0 i1
    rw [Int.zero_add, hv i i0 i1]
    have := dv_bd (B := 10) (f := dg (M 6955) a) (o := 9 * i) (n := 9) (by decide) (fun j j0 j1 => by have := dg_rng (k := 9 * i + j) r1 r2.1 (by omega); omega)
    rw [p9] at this
    exact this
  · have h1 := dv_grp 10 (dg (M 6955) a) 9 ((na + 8) / 9)
    rw [dg_dv r1 (by omega), p9] at h1
    rw [h1]
    exact dv_congr (fun i i0 i1 => by rw [Int.zero_add]; exact hv i i0 i1)
end RNUM6

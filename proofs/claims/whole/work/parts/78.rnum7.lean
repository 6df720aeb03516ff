/-! division: scale, takeOff, giveBack -/
theorem mulB {x y : Int} (hx : 0 ≤ x ∧ x < 1000000000) (hy : 0 ≤ y ∧ y ≤ 1000000001) : 0 ≤ x * y ∧ x * y ≤ 999999999 * 1000000001 := by
  refine ⟨Int.mul_nonneg hx.1 hy.1, Int.mul_le_mul (by omega) hy.2 hy.1 (by decide)⟩
section RNUM8
variable {g : im_g} {d : Nat} {e : im_E} {M M0 : im_M} {K : im_K}
theorem l_scale {f : Int} {w n : Nat} (hs : (im_sh0 ++ e)[w]? = some (2, 72, [])) (hn : n < 72) (hf0 : 0 ≤ f) (hf1 : f ≤ 1000000000) (hd0 : dok 1000000000 (M0 w) 0 (n + 1))
    (hK : ∀ M', (∀ b, b ≠ w → M' b = M0 b) → dok 1000000000 (M' w) 0 (n + 1) → (∃ c, 0 ≤ c ∧ c < 1000000000 ∧ dv 1000000000 (M' w) 0 (n + 1) + c * 1000000000 ^ (n + 1) = f * dv 1000000000 (M0 w) 0 (n + 1)) → K (.inl none) e M') :
    ∀ (j k : Nat) (c : Int) (M : im_M), k + j = n + 1 → (∀ b, b ≠ w → M b = M0 b) → (∀ i : Int, k ≤ i → M w i = M0 w i) → dok 1000000000 (M w) 0 k → 0 ≤ c → c < 1000000000 → dv 1000000000 (M w) 0 k + c * 1000000000 ^ k = f * dv 1000000000 (M0 w) 0 k → im_T g d 399 6 [some (.ref w), some (vI n), some (vL f), none, some (vL c), none, some (vI k), none, none] [] e M K := by
  intro j
  induction j with
  | zero =>
    intro k c M hk hF hs9 hdk c0 c1 hv
    have hk : k = n + 1 := by omega
    subst hk
    exact b_scale_6 hs (by decide) ⟨by constructor <;> omega, by constructor <;> omega, fun _ => hK M hF hdk ⟨c, c0, c1, hv⟩, fun z => absurd z (by omega)⟩
  | succ j ih =>
    intro k c M hk hF hs9 hdk c0 c1 hv
    have hx := hd0 k (by omega) (by omega)
    rw [Int.zero_add] at hx
    have hm := mulB hx ⟨hf0, by omega⟩
    have hm2 : M0 w k * f ≤ 999999999 * 1000000000 := Int.mul_le_mul (by omega) hf1 hf0 (by decide)
    refine b_scale_6 hs (by decide) ⟨by constructor <;> omega, by constructor <;> omega, fun z => absurd z (by omega), fun _ => ?_⟩
    rw [hs9 k (by omega)]
    generalize hve : M0 w k * f + c = v
    have hv0 : 0 ≤ v := by omega
    rw [Int.tdiv_eq_ediv_of_nonneg hv0, Int.tmod_eq_emod_of_nonneg hv0]
    refine ⟨by constructor <;> omega, by constructor <;> omega, by constructor <;> omega, ?_⟩
    have e1 : im_u M w (k : Int) (v % 1000000000) w = im_up (M w) (0 + (k : Int)) (v % 1000000000) := by rw [im_u_eq, Int.zero_add]
    refine ih (k + 1) (v / 1000000000) _ (by omega) (fun b hb => (im_u_ne _ _ _ hb).trans (hF b hb)) (fun i hi => (im_rdk _ _ _ (by omega)).trans (hs9 i (by omega))) ?_ (by omega) (by omega) ?_
    · rw [e1]; exact im_up_dok hdk (by omega) (by omega)
    · rw [e1, im_up_dv, dv_succ, Int.zero_add, Int.mul_add, ← hv, Int.pow_succ]
      have h5 := cstep (B := 1000000000) (v := v) (q := v / 1000000000) (m := v % 1000000000) (P := 1000000000 ^ k) (by omega)
      have h8 : v * 1000000000 ^ k = M0 w k * f * 1000000000 ^ k + c * 1000000000 ^ k := by rw [← hve, Int.add_mul]
      have h6 : f * (M0 w k * 1000000000 ^ k) = M0 w k * f * 1000000000 ^ k := by rw [← Int.mul_assoc, Int.mul_comm f]
      rw [h6]
      omega
theorem c_scale {f : Int} {w n : Nat} (hs : (im_sh0 ++ e)[w]? = some (2, 72, [])) (hn : n < 72) (hf0 : 0 ≤ f) (hf1 : f ≤ 1000000000) (hd0 : dok 1000000000 (M w) 0 n) (h0 : M w n = 0)
    (hK : ∀ M', (∀ b, b ≠ w → M' b = M b) → dok 1000000000 (M' w) 0 (n + 1) → dv 1000000000 (M' w) 0 (n + 1) = f * dv 1000000000 (M w) 0 n → K (.inl none) e M') : im_T g d 399 0 [some (.ref w), some (vI n), some (vL f), none, none, none, none, none, none] [] e M K := by
  have hd1 : dok 1000000000 (M w) 0 (n + 1) := by
    intro i i0 i1
    by_cases hi : i = n
    · subst hi; rw [Int.zero_add, h0]; decide
    · exact hd0 i i0 (by omega)
  have e1 : dv 1000000000 (M w) 0 (n + 1) = dv 1000000000 (M w) 0 n := by rw [dv_succ, Int.zero_add, h0, Int.zero_mul, Int.add_zero]
  refine b_scale_0 hs (by decide) (l_scale (M0 := M) hs hn hf0 hf1 hd1 (fun M' hF hdk ⟨c, c0, c1, hv⟩ => hK M' hF hdk ?_) (n + 1) 0 0 M (by omega) (fun _ _ => rfl) (fun _ _ => rfl) (fun i i0 i1 => by omega) (by decide) (by decide) (by simp [dv]))
  rw [e1] at hv
  have hb := dv_bd (B := 1000000000) (by decide) hd0
  have hb2 := dv_bd (B := 1000000000) (by decide) hdk
  have hp := bpow_pos (B := 1000000000) (by decide) n
  -- the carry is 0
  have h1 : f * dv 1000000000 (M w) 0 n < 1000000000 ^ (n + 1) := by
    rw [Int.pow_succ, Int.mul_comm]
    have h2 : dv 1000000000 (M w) 0 n * f ≤ dv 1000000000 (M w) 0 n * 1000000000 := Int.mul_le_mul_of_nonneg_left hf1 hb.1
    omega
  have hc : c = 0 := by
    apply Decidable.byContradiction
    intro hc
    have h3 : 1 * 1000000000 ^ (n + 1) ≤ c * 1000000000 ^ (n + 1) := Int.mul_le_mul_of_nonneg_right (by omega) (Int.le_of_lt (bpow_pos (by decide) _))
    omega
  rw [hc, Int.zero_mul, Int.add_zero] at hv
  exact hv
theorem dv_shift (B : Int) (f : Int → Int) (o : Int) (n : Nat) : dv B f o n = dv B (fun i => f (o + i)) 0 n := dv_congr (fun i i0 i1 => by rw [Int.zero_add])
/-- takeOff: the window at j of m + 1 places less q times the divisor, modulo the window -/
theorem l_takeOff {j q : Int} {m : Nat} (hj : 0 ≤ j) (hjm : j + m < 72) (hm : m < 72) (hq0 : 0 ≤ q) (hq1 : q ≤ 1000000001) (hU : dok 1000000000 (M0 6956) j (m + 1)) (hL : dok 1000000000 (M0 6957) 0 m)
    (hK : ∀ (M' : im_M) (l : Int), (∀ b, b ≠ 6956 → M' b = M0 b) → (∀ i, i < j ∨ j + m < i → M' 6956 i = M0 6956 i) → dok 1000000000 (M' 6956) j (m + 1) → 0 ≤ l → dv 1000000000 (M' 6956) j (m + 1) = dv 1000000000 (M0 6956) j (m + 1) - q * dv 1000000000 (M0 6957) 0 m + l * 1000000000 ^ (m + 1) → K (.inl (some (vI (if l = 0 then 1 else 0)))) e M') :
    ∀ (t k : Nat) (l : Int) (M : im_M), k + t = m + 1 → (∀ b, b ≠ 6956 → M b = M0 b) → (∀ i, i < j ∨ j + k ≤ i → M 6956 i = M0 6956 i) → dok 1000000000 (M 6956) j k → 0 ≤ l → l ≤ q → dv 1000000000 (M 6956) j k = dv 1000000000 (M0 6956) j k - q * dv 1000000000 (M0 6957) 0 (min k m) + l * 1000000000 ^ k → im_T g d 401 6 [some (.ref 6952), some (vI j), some (vI m), some (vL q), none, some (vL l), none, some (vI k), none, none] [] e M K := by
  intro t
  induction t with
  | zero =>
    intro k l M hk hF hs hdk l0 l1 hv
    have hk : k = m + 1 := by omega
    subst hk
    rw [show min (m + 1) m = m from by omega] at hv
    refine b_takeOff_6 ⟨by constructor <;> omega, by constructor <;> omega, ⟨fun _ => by constructor <;> omega, fun z => absurd z (by omega)⟩, fun x hx => absurd hx (by omega), fun x hx => ?_⟩
    have ex : x = if l = 0 then 1 else 0 := by
      split <;> omega
    rw [ex]
    exact hK M l hF (fun i hi => hs i (by omega)) hdk l0 hv
  | succ t ih =>
    intro k l M hk hF hs hdk l0 l1 hv
    have hu := hU k (by omega) (by omega)
    have e57 : M 6957 = M0 6957 := hF _ (by decide)
    refine b_takeOff_6 ⟨by constructor <;> omega, by constructor <;> omega, ⟨fun z => absurd z (by omega), fun _ => ⟨by constructor <;> omega, fun _ => by constructor <;> omega⟩⟩, fun x hx => ?_, fun x hx => absurd hx (by omega)⟩
    rw [hs (j + k) (by omega)]
    -- what is taken off here
    have hx2 : 0 ≤ x ∧ x ≤ q * 999999999 ∧ q * dv 1000000000 (M0 6957) 0 (min (k + 1) m) = q * dv 1000000000 (M0 6957) 0 (min k m) + x * 1000000000 ^ k := by
      by_cases hkm : k < m
      · have hx3 : x = q * M0 6957 k := by rw [e57] at hx; omega
        have hl := hL k (by omega) (by omega)
        rw [Int.zero_add] at hl
        have h1 := Int.mul_nonneg hq0 hl.1
        have h2 : q * M0 6957 k ≤ q * 999999999 := Int.mul_le_mul_of_nonneg_left (by omega) hq0
        refine ⟨by omega, by omega, ?_⟩
        rw [show min (k + 1) m = k + 1 from by omega, show min k m = k from by omega, dv_succ, Int.zero_add, Int.mul_add, hx3, Int.mul_assoc]
      · have hx3 : x = 0 := by omega
        have h2 : 0 ≤ q * 999999999 := Int.mul_nonneg hq0 (by decide)
        refine ⟨by omega, by omega, ?_⟩
        rw [show min (k + 1) m = min k m from by omega, hx3, Int.zero_mul, Int.add_zero]
    obtain ⟨hx0, hx1, hxv⟩ := hx2
    generalize hve : M0 6956 (j + k) - l - x = v
    refine ⟨by constructor <;> omega, fun _ => by constructor <;> omega, fun c hc => ?_⟩
    have hc2 : 0 ≤ c ∧ c ≤ q ∧ 0 ≤ v + c * 1000000000 ∧ v + c * 1000000000 < 1000000000 := by
      rcases hc with ⟨z, w⟩ | ⟨z, w⟩
      · subst w; omega
      · rw [Int.tdiv_eq_ediv_of_nonneg (by omega)] at w
        omega
    obtain ⟨c0, c1, c2, c3⟩ := hc2
    refine ⟨by constructor <;> omega, by constructor <;> omega, ?_⟩
    have e1 : im_u M 6956 (j + (k : Int)) (v + c * 1000000000) 6956 = im_up (M 6956) (j + (k : Int)) (v + c * 1000000000) := im_u_eq _ _ _ _
    refine ih (k + 1) c _ (by omega) (fun b hb => (im_u_ne _ _ _ hb).trans (hF b hb)) (fun i hi => (im_rdk _ _ _ (by omega)).trans (hs i (by omega))) ?_ c0 c1 ?_
    · rw [e1]; exact im_up_dok hdk c2 c3
    · rw [e1, im_up_dv, dv_succ, hv, hxv, ← hve, Int.pow_succ]
      have h7 : (M0 6956 (j + k) - l - x + c * 1000000000) * 1000000000 ^ k = M0 6956 (j + k) * 1000000000 ^ k - l * 1000000000 ^ k - x * 1000000000 ^ k + c * (1000000000 ^ k * 1000000000) := by
        rw [Int.add_mul, Int.sub_mul, Int.sub_mul, Int.mul_assoc c, Int.mul_comm 1000000000 (1000000000 ^ k)]
      rw [h7]
      omega
theorem c_takeOff {j q : Int} {m : Nat} (hj : 0 ≤ j) (hjm : j + m < 72) (hm : m < 72) (hq0 : 0 ≤ q) (hq1 : q ≤ 1000000001) (hU : dok 1000000000 (M 6956) j (m + 1)) (hL : dok 1000000000 (M 6957) 0 m)
    (hK : ∀ (M' : im_M) (l : Int), (∀ b, b ≠ 6956 → M' b = M b) → (∀ i, i < j ∨ j + m < i → M' 6956 i = M 6956 i) → dok 1000000000 (M' 6956) j (m + 1) → 0 ≤ l → dv 1000000000 (M' 6956) j (m + 1) = dv 1000000000 (M 6956) j (m + 1) - q * dv 1000000000 (M 6957) 0 m + l * 1000000000 ^ (m + 1) → K (.inl (some (vI (if l = 0 then 1 else 0)))) e M') :
    im_T g d 401 0 [some (.ref 6952), some (vI j), some (vI m), some (vL q), none, none, none, none, none, none] [] e M K :=
  b_takeOff_0 (l_takeOff (M0 := M) hj hjm hm hq0 hq1 hU hL hK (m + 1) 0 0 M (by omega) (fun _ _ => rfl) (fun _ _ => rfl) (fun i i0 i1 => by omega) (by decide) hq0 (by simp [dv]))
theorem l_giveBack {j : Int} {m : Nat} (hj : 0 ≤ j) (hjm : j + m < 72) (hm : m < 72) (hU : dok 1000000000 (M0 6956) j (m + 1)) (hL : dok 1000000000 (M0 6957) 0 m)
    (hK : ∀ (M' : im_M) (c : Int), (∀ b, b ≠ 6956 → M' b = M0 b) → (∀ i, i < j ∨ j + m < i → M' 6956 i = M0 6956 i) → dok 1000000000 (M' 6956) j (m + 1) → (c = 0 ∨ c = 1) → dv 1000000000 (M' 6956) j (m + 1) + c * 1000000000 ^ (m + 1) = dv 1000000000 (M0 6956) j (m + 1) + dv 1000000000 (M0 6957) 0 m → K (.inl none) e M') :
    ∀ (t k : Nat) (c : Int) (M : im_M), k + t = m + 1 → (∀ b, b ≠ 6956 → M b = M0 b) → (∀ i, i < j ∨ j + k ≤ i → M 6956 i = M0 6956 i) → dok 1000000000 (M 6956) j k → (c = 0 ∨ c = 1) → dv 1000000000 (M 6956) j k + c * 1000000000 ^ k = dv 1000000000 (M0 6956) j k + dv 1000000000 (M0 6957) 0 (min k m) → im_T g d 402 5 [some (.ref 6952), some (vI j), some (vI m), some (vL c), none, some (vI k), none, none] [] e M K := by
  intro t
  induction t with
  | zero =>
    intro k c M hk hF hs hdk hc hv
    have hk : k = m + 1 := by omega
    subst hk
    rw [show min (m + 1) m = m from by omega] at hv
    exact b_giveBack_5 ⟨by constructor <;> omega, by constructor <;> omega, ⟨fun _ => hK M c hF (fun i hi => hs i (by omega)) hdk hc hv, fun z => absurd z (by omega)⟩, fun x hx => absurd hx (by omega)⟩
  | succ t ih =>
    intro k c M hk hF hs hdk hc hv
    have hu := hU k (by omega) (by omega)
    have e57 : M 6957 = M0 6957 := hF _ (by decide)
    refine b_giveBack_5 ⟨by constructor <;> omega, by constructor <;> omega, ⟨fun z => absurd z (by omega), fun _ => ⟨by constructor <;> omega, fun _ => by constructor <;> omega⟩⟩, fun x hx => ?_⟩
    rw [hs (j + k) (by omega)]
    have hx2 : 0 ≤ x ∧ x < 1000000000 ∧ dv 1000000000 (M0 6957) 0 (min (k + 1) m) = dv 1000000000 (M0 6957) 0 (min k m) + x * 1000000000 ^ k := by
      by_cases hkm : k < m
      · have hx3 : x = M0 6957 k := by rw [e57] at hx; omega
        have hl := hL k (by omega) (by omega)
        rw [Int.zero_add] at hl
        refine ⟨by omega, by omega, ?_⟩
        rw [show min (k + 1) m = k + 1 from by omega, show min k m = k from by omega, dv_succ, Int.zero_add, hx3]
      · have hx3 : x = 0 := by omega
        refine ⟨by omega, by omega, ?_⟩
        rw [show min (k + 1) m = min k m from by omega, hx3, Int.zero_mul, Int.add_zero]
    obtain ⟨hx0, hx1, hxv⟩ := hx2
    refine ⟨by constructor <;> omega, fun c1 hc1 => ⟨by constructor <;> omega, by constructor <;> omega, ?_⟩⟩
    have e1 : ∀ y, im_u M 6956 (j + (k : Int)) y 6956 = im_up (M 6956) (j + (k : Int)) y := fun y => im_u_eq _ _ _ _
    refine ih (k + 1) c1 _ (by omega) (fun b hb => (im_u_ne _ _ _ hb).trans (hF b hb)) (fun i hi => (im_rdk _ _ _ (by omega)).trans (hs i (by omega))) ?_ (by omega) ?_
    · rw [e1]; exact im_up_dok hdk (by omega) (by omega)
    · rw [e1, im_up_dv, dv_succ, hxv, Int.pow_succ]
      have h7 : (M0 6956 (j + k) + x + c - c1 * 1000000000) * 1000000000 ^ k = M0 6956 (j + k) * 1000000000 ^ k + x * 1000000000 ^ k + c * 1000000000 ^ k - c1 * (1000000000 ^ k * 1000000000) := by
        rw [Int.sub_mul, Int.add_mul, Int.add_mul, Int.mul_assoc c1, Int.mul_comm 1000000000 (1000000000 ^ k)]
      rw [h7]
      omega
theorem c_giveBack {j : Int} {m : Nat} (hj : 0 ≤ j) (hjm : j + m < 72) (hm : m < 72) (hU : dok 1000000000 (M 6956) j (m + 1)) (hL : dok 1000000000 (M 6957) 0 m)
    (hK : ∀ (M' : im_M) (c : Int), (∀ b, b ≠ 6956 → M' b = M b) → (∀ i, i < j ∨ j + m < i → M' 6956 i = M 6956 i) → dok 1000000000 (M' 6956) j (m + 1) → (c = 0 ∨ c = 1) → dv 1000000000 (M' 6956) j (m + 1) + c * 1000000000 ^ (m + 1) = dv 1000000000 (M 6956) j (m + 1) + dv 1000000000 (M 6957) 0 m → K (.inl none) e M') :
    im_T g d 402 0 [some (.ref 6952), some (vI j), some (vI m), none, none, none, none, none] [] e M K :=
  b_giveBack_0 (l_giveBack (M0 := M) hj hjm hm hU hL hK (m + 1) 0 0 M (by omega) (fun _ _ => rfl) (fun _ _ => rfl) (fun i i0 i1 => by omega) (Or.inl rfl) (by simp [dv]))
end RNUM8

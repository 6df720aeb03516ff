/-! placeAt: a place of a quotient -/
theorem dv_two (B : Int) (f : Int → Int) (o : Int) : dv B f o 2 = f o + f (o + 1) * B := by
  rw [dv_succ, dv_succ]
  show 0 + f (o + 0) * B ^ 0 + f (o + 1) * B ^ 1 = _
  rw [Int.zero_add, Int.add_zero, Int.pow_zero, Int.mul_one, Int.pow_succ, Int.pow_zero, Int.one_mul]
theorem dv_pos {B : Int} (hB : 0 < B) {f : Int → Int} {o : Int} {n : Nat} (h : dok B f o n) : 0 ≤ dv B f o n := (dv_bd hB h).1
theorem dok.at {B : Int} {f : Int → Int} {o : Int} {n : Nat} (h : dok B f o n) (a : Int) (k : Nat) (h0 : o ≤ a) (h1 : a + k ≤ o + n) : dok B f a k := fun i i0 i1 => by
  have := h (a - o + i) (by omega) (by omega)
  rwa [show o + (a - o + i) = a + i from by omega] at this
section RNUM9
variable {g : im_g} {d : Nat} {e : im_E} {M M0 : im_M} {K : im_K}
theorem l_placeAt {j two W V v1 : Int} {m : Nat} (hm1 : 1 ≤ m) (hj : 0 ≤ j) (hjm : j + m < 72) (hU : dok 1000000000 (M 6956) j (m + 1)) (hL : dok 1000000000 (M 6957) 0 m) (hv1 : M 6957 ((m : Int) - 1) = v1) (hhalf : 1000000000 ≤ 2 * v1)
    (hWe : dv 1000000000 (M 6956) j (m + 1) = W) (hVe : dv 1000000000 (M 6957) 0 m = V) (hWV : W < 1000000000 * V) (htwo : two = M 6956 (j + m) * 1000000000 + M 6956 (j + m - 1)) (hd : 2 ≤ d)
    (hK : ∀ (M' : im_M) (q : Int), (∀ b, b ≠ 6956 → M' b = M b) → (∀ i, i < j ∨ j + m < i → M' 6956 i = M 6956 i) → dok 1000000000 (M' 6956) j (m + 1) → 0 ≤ q → q < 1000000000 → dv 1000000000 (M' 6956) j (m + 1) = W - q * V → W - q * V < V → K (.inl (some (vL q))) e M') :
    ∀ (t : Nat) (q rest : Int), 1000000000 - rest ≤ t → 0 ≤ q → q ≤ 1000000001 → 0 ≤ rest → rest < 2000000000 → q * v1 + rest = two → (q ≤ 1000000000 ∨ rest < 1000000000) → (∀ q', 0 ≤ q' → q' * V ≤ W → q' ≤ q) → im_T g d 400 48 [some (.ref 6952), some (vI j), some (vI m), none, none, some (vL q), none, some (vL rest), none] [] e M K := by
  have hl1 := hL ((m : Int) - 1) (by omega) (by omega)
  rw [Int.zero_add, hv1] at hl1
  have hV0 : 0 < V := by
    obtain ⟨k, rfl⟩ : ∃ k, m = k + 1 := ⟨m - 1, by omega⟩
    have := dv_top (B := 1000000000) (by decide) (f := M 6957) (o := 0) (n := k) hL (by rw [Int.zero_add, show (k : Int) = ((k + 1 : Nat) : Int) - 1 from by omega, hv1]; omega)
    have := bpow_pos (B := 1000000000) (by decide) k
    omega
  have hVb := dv_bd (B := 1000000000) (by decide) hL
  have hWb := dv_bd (B := 1000000000) (by decide) hU
  rw [hVe] at hVb
  rw [hWe] at hWb
  have hPm : (1000000000 : Int) ^ (m + 1) = 1000000000 ^ m * 1000000000 := Int.pow_succ _ _
  have hPp := bpow_pos (B := 1000000000) (by decide) m
  -- the way out
  have hexit : ∀ (q rest : Int), 0 ≤ q → q ≤ 1000000001 → (∀ q', 0 ≤ q' → q' * V ≤ W → q' ≤ q) → q * V ≤ W + V → im_T g (d - 1) 401 0 [some (.ref 6952), some (vI j), some (vI m), some (vL q), none, none, none, none, none, none] [] e M (im_ri (fun x23 e_ M22 => e = e_ ∧ (im_i32 x23) ∧ ((¬ x23 = 0 → K (.inl (some (vL q))) e M22) ∧ (x23 = 0 → im_T g (d - 1) 402 0 [some (.ref 6952), some (vI j), some (vI m), none, none, none, none, none] [] e M22 (im_r0 (fun e_ M26 => e = e_ ∧ K (.inl (some (vL (q - 1)))) e M26)))))) := by
    intro q rest hq0 hq1 hmax hone
    refine c_takeOff hj hjm (by omega) hq0 hq1 hU hL (fun M1 l hF hs hdk l0 hv => ⟨_, rfl, rfl, ?_, ?_, ?_⟩)
    · split <;> decide
    · intro hne
      have hl : l = 0 := by
        apply Decidable.byContradiction
        intro z
        rw [if_neg z] at hne
        exact hne rfl
      subst hl
      rw [Int.zero_mul, Int.add_zero, hWe, hVe] at hv
      have hnn := dv_pos (B := 1000000000) (by decide) hdk
      refine hK M1 q hF hs hdk hq0 ?_ hv ?_
      · apply Decidable.byContradiction
        intro z
        have := Int.mul_le_mul_of_nonneg_right (show 1000000000 ≤ q by omega) (Int.le_of_lt hV0)
        omega
      · have h1 := hmax (W / V) (Int.ediv_nonneg hWb.1 (by omega)) (Int.ediv_mul_le W (by omega))
        have h2 := Int.lt_ediv_add_one_mul_self W hV0
        have h3 : (W / V + 1) * V ≤ (q + 1) * V := Int.mul_le_mul_of_nonneg_right (by omega) (by omega)
        rw [Int.add_mul q, Int.one_mul] at h3
        omega
    · intro heq
      have hl : l ≠ 0 := by
        intro z
        rw [if_pos z] at heq
        exact absurd heq (by decide)
      rw [hWe, hVe] at hv
      have hb1 := dv_bd (B := 1000000000) (by decide) hdk
      have hlP : 1 * 1000000000 ^ (m + 1) ≤ l * 1000000000 ^ (m + 1) := Int.mul_le_mul_of_nonneg_right (by omega) (by omega)
      have hl1' : l = 1 := by
        apply Decidable.byContradiction
        intro z
        have : 2 * 1000000000 ^ (m + 1) ≤ l * 1000000000 ^ (m + 1) := Int.mul_le_mul_of_nonneg_right (by omega) (by omega)
        omega
      subst hl1'
      have e57 : M1 6957 = M 6957 := hF _ (by decide)
      refine c_giveBack hj hjm (by omega) hdk (by rw [e57]; exact hL) (fun M2 c hF2 hs2 hdk2 hc hv2 => ⟨rfl, rfl, ?_⟩)
      rw [e57, hVe, hv, Int.one_mul] at hv2
      have hb2 := dv_bd (B := 1000000000) (by decide) hdk2
      have hq1V : (q - 1) * V = q * V - V := by rw [Int.sub_mul, Int.one_mul]
      have hqpos : 1 ≤ q := by
        apply Decidable.byContradiction
        intro z
        have : q = 0 := by omega
        rw [this, Int.zero_mul] at hv
        omega
      have hc1 : c = 1 := by
        rcases hc with z | z
        · subst z; rw [Int.zero_mul] at hv2; omega
        · exact z
      subst hc1
      rw [Int.one_mul] at hv2
      refine hK M2 (q - 1) (fun b hb => (hF2 b hb).trans (hF b hb)) (fun i hi => (hs2 i hi).trans (hs i hi)) hdk2 (by omega) ?_ (by omega) (by omega)
      apply Decidable.byContradiction
      intro z
      have := Int.mul_le_mul_of_nonneg_right (show 1000000000 ≤ q - 1 by omega) (Int.le_of_lt hV0)
      omega
  intro t
  induction t with
  | zero =>
    intro q rest ht hq0 hq1 hr0 hr1 hqr hqb hmax
    refine b_placeAt_48 (by omega) ⟨by constructor <;> omega, fun z => absurd z (by omega), fun z => absurd z (by omega), fun _ => hexit q rest hq0 hq1 hmax ?_⟩
    by_cases hm2 : 2 ≤ m
    · obtain ⟨k, rfl⟩ : ∃ k, m = k + 2 := ⟨m - 2, by omega⟩
      have hVd := dv_add 1000000000 (M 6957) 0 k 2
      have hWd := dv_add 1000000000 (M 6956) j k 3
      rw [hVe, dv_two, Int.zero_add] at hVd
      rw [show k + 3 = k + 2 + 1 from rfl, hWe, dv_cons, dv_two] at hWd
      have b1 := dv_bd (B := 1000000000) (by decide) (hL.le (k := k) (by omega))
      have b2 := dv_bd (B := 1000000000) (by decide) (hU.le (k := k) (by omega))
      have b3 := hL k (by omega) (by omega)
      have b4 := hU k (by omega) (by omega)
      rw [Int.zero_add] at b3
      rw [show ((k + 2 : Nat) : Int) - 1 = (k : Int) + 1 from by omega] at hv1
      rw [show j + ((k + 2 : Nat) : Int) = j + k + 1 + 1 from by omega, show j + (k : Int) + 1 + 1 - 1 = j + k + 1 from by omega] at htwo
      refine kn_one (B := 1000000000) (P := 1000000000 ^ k) (v1 := v1) (v2 := M 6957 k) (two := two) (u3 := M 6956 (j + k)) (rest := rest) (bpow_pos (by decide) k) (by decide) (Vl := dv 1000000000 (M 6957) 0 k) (Wl := dv 1000000000 (M 6956) j k) ?_ ?_ b1.1 b1.2 b2.1 hq0 (by omega) b3 b4.1 hqr (Or.inl ⟨by omega, by omega⟩)
      · rw [hVd, hv1, Int.mul_comm, Int.add_comm (M 6957 k)]; omega
      · rw [hWd, htwo, Int.mul_comm]
        have : M 6956 (j + k) + 1000000000 * (M 6956 (j + k + 1) + M 6956 (j + k + 1 + 1) * 1000000000) = (M 6956 (j + k + 1 + 1) * 1000000000 + M 6956 (j + k + 1)) * 1000000000 + M 6956 (j + k) := by omega
        rw [this]; omega
    · -- one place: rest is below the divisor's place
      have hm : m = 1 := by omega
      subst hm
      have hV1 : V = v1 := by
        rw [← hVe, dv_succ]
        show 0 + M 6957 (0 + 0) * 1000000000 ^ 0 = v1
        rw [Int.zero_add, Int.add_zero, Int.pow_zero, Int.mul_one]
        exact hv1
      have hW1 : W = two := by
        rw [← hWe, dv_two, htwo]
        rw [show j + ((1 : Nat) : Int) = j + 1 from rfl, show j + 1 - 1 = j from by omega]
        omega
      rw [hV1, hW1]
      omega
  | succ t ih =>
    intro q rest ht hq0 hq1 hr0 hr1 hqr hqb hmax
    by_cases hm2 : 2 ≤ m
    · obtain ⟨k, rfl⟩ : ∃ k, m = k + 2 := ⟨m - 2, by omega⟩
      have hVd := dv_add 1000000000 (M 6957) 0 k 2
      have hWd := dv_add 1000000000 (M 6956) j k 3
      rw [hVe, dv_two, Int.zero_add] at hVd
      rw [show k + 3 = k + 2 + 1 from rfl, hWe, dv_cons, dv_two] at hWd
      have b1 := dv_bd (B := 1000000000) (by decide) (hL.le (k := k) (by omega))
      have b2 := dv_bd (B := 1000000000) (by decide) (hU.le (k := k) (by omega))
      have b3 := hL k (by omega) (by omega)
      have b4 := hU k (by omega) (by omega)
      rw [Int.zero_add] at b3
      have hv1' := hv1
      have htwo' := htwo
      rw [show ((k + 2 : Nat) : Int) - 1 = (k : Int) + 1 from by omega] at hv1'
      rw [show j + ((k + 2 : Nat) : Int) = j + k + 1 + 1 from by omega, show j + (k : Int) + 1 + 1 - 1 = j + k + 1 from by omega] at htwo'
      have hVq : V = (v1 * 1000000000 + M 6957 k) * 1000000000 ^ k + dv 1000000000 (M 6957) 0 k := by
        rw [hVd, hv1', Int.mul_comm, Int.add_comm (M 6957 k)]; omega
      have hWq : W = (two * 1000000000 + M 6956 (j + k)) * 1000000000 ^ k + dv 1000000000 (M 6956) j k := by
        rw [hWd, htwo', Int.mul_comm]
        have : M 6956 (j + k) + 1000000000 * (M 6956 (j + k + 1) + M 6956 (j + k + 1 + 1) * 1000000000) = (M 6956 (j + k + 1 + 1) * 1000000000 + M 6956 (j + k + 1)) * 1000000000 + M 6956 (j + k) := by omega
        rw [this]; omega
      have hqm := mulB b3 ⟨hq0, hq1⟩
      rw [Int.mul_comm] at hqm
      have ek : ((k + 2 : Nat) : Int) - 2 = k := by omega
      have ek2 : j + ((k + 2 : Nat) : Int) - 2 = j + k := by omega
      refine b_placeAt_48 (by omega) ⟨by constructor <;> omega, fun _ => ⟨by constructor <;> omega, fun _ => ⟨by constructor <;> omega, fun _ => ?_⟩⟩, fun hz => ⟨by constructor <;> omega, ?_⟩, fun hz => hexit q rest hq0 hq1 hmax ?_⟩
      · rw [ek, ek2]
        exact ⟨by constructor <;> omega, by constructor <;> omega, by constructor <;> omega, by constructor <;> omega⟩
      · rw [hv1]
        rw [ek, ek2] at hz
        have hlt : ∀ q', 0 ≤ q' → q' * V ≤ W → q' ≤ q - 1 := by
          intro q' q0 hq'
          have h1 := hmax q' q0 hq'
          rcases hz with ⟨_, z⟩ | ⟨_, _, _, z⟩
          · apply Decidable.byContradiction
            intro y
            have := Int.mul_le_mul_of_nonneg_right (show 1000000000 ≤ q' by omega) (Int.le_of_lt hV0)
            omega
          · apply Decidable.byContradiction
            intro y
            have : q' = q := by omega
            subst this
            have := kn_le3 (B := 1000000000) (bpow_pos (by decide) k) hVq hWq b1.1 b2.2 q0 hq' hqr
            omega
        have hq1' : 1 ≤ q := by
          have := hlt 0 (by decide) (by rw [Int.zero_mul]; exact hWb.1)
          omega
        refine ih (q - 1) (rest + v1) (by omega) (by omega) (by omega) (by omega) (by omega) ?_ (Or.inl (by omega)) hlt
        rw [Int.sub_mul, Int.one_mul]; omega
      · rw [ek, ek2] at hz
        refine kn_one (B := 1000000000) (P := 1000000000 ^ k) (rest := rest) (bpow_pos (by decide) k) (by decide) hVq hWq b1.1 b1.2 b2.1 hq0 (by omega) b3 b4.1 hqr ?_
        rcases hz with z | ⟨_, _, z⟩ | ⟨_, z, _, w⟩
        · exact Or.inl ⟨z, by omega⟩
        · omega
        · exact Or.inr ⟨z, w⟩
    · have hm : m = 1 := by omega
      subst hm
      have hV1 : V = v1 := by
        rw [← hVe, dv_succ]
        show 0 + M 6957 (0 + 0) * 1000000000 ^ 0 = v1
        rw [Int.zero_add, Int.add_zero, Int.pow_zero, Int.mul_one]
        exact hv1
      have hW1 : W = two := by
        rw [← hWe, dv_two, htwo]
        rw [show j + ((1 : Nat) : Int) = j + 1 from rfl, show j + 1 - 1 = j from by omega]
        omega
      have hqB : q < 1000000000 := by
        apply Decidable.byContradiction
        intro z
        have := Int.mul_le_mul_of_nonneg_right (show 1000000000 ≤ q by omega) (show 0 ≤ v1 by omega)
        rw [hV1, hW1] at hWV
        omega
      refine b_placeAt_48 (by omega) ⟨by constructor <;> omega, fun _ => ⟨by constructor <;> omega, fun _ => ⟨by constructor <;> omega, fun z => absurd z (by decide)⟩⟩, fun hz => absurd hz (by omega), fun hz => hexit q rest hq0 hq1 hmax ?_⟩
      rw [hV1, hW1]
      omega
end RNUM9

/-! division: the class's own long division -/
theorem kn_two {B P v1 Vl W two Wl V q : Int} (hP : 0 < P) (hV : V = v1 * P + Vl) (hW : W = two * P + Wl) (hVl : 0 ≤ Vl ∧ Vl < P) (hWl : 0 ≤ Wl) (hq0 : 0 ≤ q) (hq : q * v1 ≤ two) (hqB : q < B) (hh : B ≤ 2 * v1) : q * V ≤ W + 2 * V := by
  have h1 : q * V = q * v1 * P + q * Vl := by rw [hV, Int.mul_add, Int.mul_assoc]
  have h2 : q * v1 * P ≤ two * P := Int.mul_le_mul_of_nonneg_right hq (by omega)
  have h3 : q * Vl ≤ B * P := Int.mul_le_mul (by omega) (by omega) hVl.1 (by omega)
  have h4 : B * P ≤ 2 * v1 * P := Int.mul_le_mul_of_nonneg_right hh (by omega)
  rw [Int.mul_assoc] at h4
  omega
section CNUM4
variable {g : im_g} {d : Nat} {e : im_E} {M M0 : im_M} {K : im_K}
theorem l_scaleInto {p n : Nat} {f w : Int} (hp : im_num e p) (hn : M0 p 1 = n) (hn34 : n ≤ 34) (hda : dok 1000000000 (M0 (p + 1)) 0 n) (hf0 : 0 ≤ f) (hf1 : f < 1000000000) (hw0 : 0 ≤ w) (hw : w + n < 72)
    (hK : ∀ M', (∀ b, b ≠ 933 → M' b = M0 b) → (∀ i, i < w ∨ w + n < i → M' 933 i = M0 933 i) → dok 1000000000 (M' 933) w (n + 1) → dv 1000000000 (M' 933) w (n + 1) = f * dv 1000000000 (M0 (p + 1)) 0 n → K (.inl none) e M') :
    ∀ (j k : Nat) (c : Int) (M : im_M), k + j = n → (∀ b, b ≠ 933 → M b = M0 b) → (∀ i, i < w ∨ w + k ≤ i → M 933 i = M0 933 i) → dok 1000000000 (M 933) w k → 0 ≤ c → c ≤ f → dv 1000000000 (M 933) w k + c * 1000000000 ^ k = f * dv 1000000000 (M0 (p + 1)) 0 k → im_T g d 134 6 [some (.ref p), some (vL f), none, some (.ref 933), some (vI w), some (vL c), none, some (vI k), none, none] [] e M K := by
  have np := im_num_933 hp
  intro j
  induction j with
  | zero =>
    intro k c M hk hF hs hdk c0 c1 hv
    obtain rfl : k = n := by omega
    have q1 : M p 1 = k := by rw [hF _ np.1]; exact hn
    refine k_Num_scaleInto_6 hp ?_
    rw [q1]
    refine ⟨by constructor <;> omega, fun _ => ⟨by constructor <;> omega, by constructor <;> omega, ?_⟩, fun z => absurd z (by omega)⟩
    refine hK _ (fun b hb => (im_u_ne _ _ _ hb).trans (hF b hb)) (fun i hi => (im_rdk _ _ _ (by omega)).trans (hs i (by omega))) ?_ ?_
    · rw [im_u_eq]; exact im_up_dok hdk c0 (by omega)
    · rw [im_u_eq, im_up_dv]; exact hv
  | succ j ih =>
    intro k c M hk hF hs hdk c0 c1 hv
    have q1 : M p 1 = n := by rw [hF _ np.1]; exact hn
    have q2 : M (p + 1) = M0 (p + 1) := hF _ np.2
    have hl := hda k (by omega) (by omega)
    rw [Int.zero_add] at hl
    have h1 := Int.mul_nonneg hl.1 hf0
    have h2 : M0 (p + 1) k * f ≤ 999999999 * f := Int.mul_le_mul_of_nonneg_right (by omega) hf0
    refine k_Num_scaleInto_6 hp ?_
    rw [q1, q2]
    generalize hve : M0 (p + 1) k * f + c = v
    refine ⟨by constructor <;> omega, fun z => absurd z (by omega), fun _ => ?_⟩
    rw [Int.tdiv_eq_ediv_of_nonneg (by omega), Int.tmod_eq_emod_of_nonneg (by omega)]
    refine ⟨by constructor <;> omega, by constructor <;> omega, by constructor <;> omega, by constructor <;> omega, ?_⟩
    refine ih (k + 1) (v / 1000000000) _ (by omega) (fun b hb => (im_u_ne _ _ _ hb).trans (hF b hb)) (fun i hi => (im_rdk _ _ _ (by omega)).trans (hs i (by omega))) ?_ (by omega) (by omega) ?_
    · rw [im_u_eq]; exact im_up_dok hdk (by omega) (by omega)
    · rw [im_u_eq, im_up_dv, dv_s0, Int.mul_add, Int.pow_succ]
      have h3 := cstep (B := 1000000000) (v := v) (q := v / 1000000000) (m := v % 1000000000) (P := 1000000000 ^ k) (by omega)
      rw [← hve] at h3
      rw [Int.add_mul] at h3
      have h4 : f * (M0 (p + 1) k * 1000000000 ^ k) = M0 (p + 1) k * f * 1000000000 ^ k := by rw [← Int.mul_assoc, Int.mul_comm f]
      rw [h4]
      rw [hve] at h3
      omega
theorem c_scaleInto {p n : Nat} {f w : Int} (hp : im_num e p) (hn : M p 1 = n) (hn34 : n ≤ 34) (hda : dok 1000000000 (M (p + 1)) 0 n) (hf0 : 0 ≤ f) (hf1 : f < 1000000000) (hw0 : 0 ≤ w) (hw : w + n < 72)
    (hK : ∀ M', (∀ b, b ≠ 933 → M' b = M b) → (∀ i, i < w ∨ w + n < i → M' 933 i = M 933 i) → dok 1000000000 (M' 933) w (n + 1) → dv 1000000000 (M' 933) w (n + 1) = f * dv 1000000000 (M (p + 1)) 0 n → K (.inl none) e M') : im_T g d 134 0 [some (.ref p), some (vL f), none, some (.ref 933), some (vI w), none, none, none, none, none] [] e M K :=
  k_Num_scaleInto_0 hp (l_scaleInto (M0 := M) hp hn hn34 hda hf0 hf1 hw0 hw hK n 0 0 M (by omega) (fun _ _ => rfl) (fun _ _ => rfl) (fun i i0 i1 => by omega) (by decide) hf0 (by show (0 : Int) + 0 * _ = f * 0; rw [Int.zero_mul, Int.mul_zero]; rfl))
/-- a multiple is taken off -/
theorem l_tmS {j q : Int} {m : Nat} (hj : 0 ≤ j) (hjm : j + m < 36) (hq0 : 0 ≤ q) (hq1 : q ≤ 999999999) (hU : dok 1000000000 (M0 933) j (m + 1)) (hL : dok 1000000000 (M0 933) 36 m)
    (hK : ∀ (M' : im_M), (∀ b, b ≠ 933 → M' b = M0 b) → (∀ i, i < j ∨ j + m < i → M' 933 i = M0 933 i) → dok 1000000000 (M' 933) j m → -1000000000 ≤ M' 933 (j + m) → M' 933 (j + m) < 1000000000 → dv 1000000000 (M' 933) j m + M' 933 (j + m) * 1000000000 ^ m = dv 1000000000 (M0 933) j (m + 1) - q * dv 1000000000 (M0 933) 36 m → im_T g d 135 139 [some (.ref 933), some (vI j), some (vI m), none, none, none, none, some (vL q), none, none, none, some (vI 0), none, none, none, none, none] [] e M' K) :
    ∀ (t k : Nat) (l : Int) (M : im_M), k + t = m → (∀ b, b ≠ 933 → M b = M0 b) → (∀ i, i < j ∨ j + k ≤ i → M 933 i = M0 933 i) → dok 1000000000 (M 933) j k → 0 ≤ l → l ≤ q → dv 1000000000 (M 933) j k = dv 1000000000 (M0 933) j k - q * dv 1000000000 (M0 933) 36 k + l * 1000000000 ^ k → im_T g d 135 54 [some (.ref 933), some (vI j), some (vI m), none, none, none, none, some (vL q), none, some (vL l), none, some (vI k), none, none, none, none, none] [] e M K := by
  intro t
  induction t with
  | zero =>
    intro k l M hk hF hs hdk l0 l1 hv
    obtain rfl : k = m := by omega
    have hu := hU k (by omega) (by omega)
    have e0 := hs (j + k) (by omega)
    refine k_Num_takeMultiple_54 ⟨by constructor <;> omega, by constructor <;> omega, fun _ => ⟨by constructor <;> omega, by constructor <;> omega, ?_⟩, fun z => absurd z (by omega)⟩
    refine hK _ (fun b hb => (im_u_ne _ _ _ hb).trans (hF b hb)) (fun i hi => (im_rdk _ _ _ (by omega)).trans (hs i (by omega))) ?_ (by rw [im_rds]; omega) (by rw [im_rds]; omega) ?_
    · rw [im_u_eq]
      exact dok_congr (fun i i0 i1 => (im_up_ne _ _ (by omega)).symm) hdk
    · rw [im_rds, im_u_eq, dv_congr (f := im_up (M 933) (j + k) (M 933 (j + k) - l)) (f' := M 933) (o' := j) (fun i i0 i1 => im_up_ne _ _ (by omega)), dv_succ, e0, Int.sub_mul, hv]
      omega
  | succ t ih =>
    intro k l M hk hF hs hdk l0 l1 hv
    have hu := hU k (by omega) (by omega)
    have hl := hL k (by omega) (by omega)
    have e0 := hs (j + k) (by omega)
    have e1 := hs (36 + k) (by omega)
    have h1 := Int.mul_nonneg hq0 hl.1
    have h2 : q * M0 933 (36 + k) ≤ q * 999999999 := Int.mul_le_mul_of_nonneg_left (by omega) hq0
    refine k_Num_takeMultiple_54 ?_
    rw [e0, e1]
    generalize hxe : q * M0 933 (36 + k) = x at h1 h2
    generalize hve : M0 933 (j + k) - x - l = v
    refine ⟨by constructor <;> omega, by constructor <;> omega, fun z => absurd z (by omega), fun _ => ?_⟩
    refine ⟨by constructor <;> omega, by constructor <;> omega, by constructor <;> omega, fun _ => by constructor <;> omega, fun c hc => ?_⟩
    have hc2 : 0 ≤ c ∧ c ≤ q ∧ 0 ≤ v + c * 1000000000 ∧ v + c * 1000000000 < 1000000000 := by
      rcases hc with ⟨z, w⟩ | ⟨z, w⟩
      · subst w; omega
      · rw [Int.tdiv_eq_ediv_of_nonneg (by omega)] at w
        omega
    obtain ⟨c0, c1, c2, c3⟩ := hc2
    refine ⟨by constructor <;> omega, ?_⟩
    refine ih (k + 1) c _ (by omega) (fun b hb => (im_u_ne _ _ _ hb).trans (hF b hb)) (fun i hi => (im_rdk _ _ _ (by omega)).trans (hs i (by omega))) ?_ c0 c1 ?_
    · rw [im_u_eq]; exact im_up_dok hdk c2 c3
    · rw [im_u_eq, im_up_dv, dv_succ, dv_succ, hv, ← hve, Int.pow_succ, Int.mul_add, ← Int.mul_assoc, hxe]
      have h7 : (M0 933 (j + k) - x - l + c * 1000000000) * 1000000000 ^ k = M0 933 (j + k) * 1000000000 ^ k - x * 1000000000 ^ k - l * 1000000000 ^ k + c * (1000000000 ^ k * 1000000000) := by
        rw [Int.add_mul, Int.sub_mul, Int.sub_mul, Int.mul_assoc c, Int.mul_comm 1000000000 (1000000000 ^ k)]
      rw [h7]
      omega
/-- the divisor is given back once -/
theorem l_tmA {j q T : Int} {m t0 : Nat} (hj : 0 ≤ j) (hjm : j + m < 36) (ht0 : t0 ≤ 3) (hU : dok 1000000000 (M0 933) j m) (hT : M0 933 (j + m) = T) (hT0 : -1000000000 ≤ T) (hT1 : T < 0) (hL : dok 1000000000 (M0 933) 36 m)
    (hK : ∀ (M' : im_M), (∀ b, b ≠ 933 → M' b = M0 b) → (∀ i, i < j ∨ j + m < i → M' 933 i = M0 933 i) → dok 1000000000 (M' 933) j m → -1000000000 ≤ M' 933 (j + m) → M' 933 (j + m) < 1000000000 → dv 1000000000 (M' 933) j m + M' 933 (j + m) * 1000000000 ^ m = dv 1000000000 (M0 933) j m + T * 1000000000 ^ m + dv 1000000000 (M0 933) 36 m → im_T g d 135 139 [some (.ref 933), some (vI j), some (vI m), none, none, none, none, some (vL q), none, none, none, some (vI ((t0 : Int) + 1)), none, none, none, none, none] [] e M' K) :
    ∀ (t k : Nat) (c : Int) (M : im_M), k + t = m → (∀ b, b ≠ 933 → M b = M0 b) → (∀ i, i < j ∨ j + k ≤ i → M 933 i = M0 933 i) → dok 1000000000 (M 933) j k → (c = 0 ∨ c = 1) → dv 1000000000 (M 933) j k + c * 1000000000 ^ k = dv 1000000000 (M0 933) j k + dv 1000000000 (M0 933) 36 k → im_T g d 135 167 [some (.ref 933), some (vI j), some (vI m), none, none, none, none, some (vL q), none, none, none, some (vI t0), some (vL c), none, some (vI k), none, none] [] e M K := by
  intro t
  induction t with
  | zero =>
    intro k c M hk hF hs hdk hc hv
    obtain rfl : k = m := by omega
    have e0 := hs (j + k) (by omega)
    refine k_Num_takeMultiple_167 ⟨by constructor <;> omega, by constructor <;> omega, fun _ => ⟨by constructor <;> omega, by constructor <;> omega, ?_⟩, fun z => absurd z (by omega)⟩
    refine hK _ (fun b hb => (im_u_ne _ _ _ hb).trans (hF b hb)) (fun i hi => (im_rdk _ _ _ (by omega)).trans (hs i (by omega))) ?_ (by rw [im_rds]; omega) (by rw [im_rds]; omega) ?_
    · rw [im_u_eq]
      exact dok_congr (fun i i0 i1 => (im_up_ne _ _ (by omega)).symm) hdk
    · rw [im_rds, im_u_eq, dv_congr (f := im_up (M 933) (j + k) (M 933 (j + k) + c)) (f' := M 933) (o' := j) (fun i i0 i1 => im_up_ne _ _ (by omega)), e0, hT, Int.add_mul]
      omega
  | succ t ih =>
    intro k c M hk hF hs hdk hc hv
    have hu := hU k (by omega) (by omega)
    have hl := hL k (by omega) (by omega)
    have e0 := hs (j + k) (by omega)
    have e1 := hs (36 + k) (by omega)
    refine k_Num_takeMultiple_167 ?_
    rw [e0, e1]
    refine ⟨by constructor <;> omega, by constructor <;> omega, fun z => absurd z (by omega), fun _ => ⟨by constructor <;> omega, by constructor <;> omega, by constructor <;> omega, fun c1 hc1 => ⟨by constructor <;> omega, ?_⟩⟩⟩
    refine ih (k + 1) c1 _ (by omega) (fun b hb => (im_u_ne _ _ _ hb).trans (hF b hb)) (fun i hi => (im_rdk _ _ _ (by omega)).trans (hs i (by omega))) ?_ (by omega) ?_
    · rw [im_u_eq]; exact im_up_dok hdk (by omega) (by omega)
    · rw [im_u_eq, im_up_dv, dv_succ, dv_succ, Int.pow_succ]
      have h7 : (M0 933 (j + k) + M0 933 (36 + k) + c - c1 * 1000000000) * 1000000000 ^ k = M0 933 (j + k) * 1000000000 ^ k + M0 933 (36 + k) * 1000000000 ^ k + c * 1000000000 ^ k - c1 * (1000000000 ^ k * 1000000000) := by
        rw [Int.sub_mul, Int.add_mul, Int.add_mul, Int.mul_assoc c1, Int.mul_comm 1000000000 (1000000000 ^ k)]
      rw [h7]
      omega
/-- the turns of giving back -/
theorem l_tmT {j W V Q : Int} {m : Nat} (hj : 0 ≤ j) (hjm : j + m < 36) (hL : dok 1000000000 (M0 933) 36 m) (hVe : dv 1000000000 (M0 933) 36 m = V) (hV0 : 0 < V) (hQ0 : 0 ≤ W - Q * V)
    (hK : ∀ (M' : im_M) (q : Int), (∀ b, b ≠ 933 → M' b = M0 b) → (∀ i, i < j ∨ j + m < i → M' 933 i = M0 933 i) → dok 1000000000 (M' 933) j (m + 1) → dv 1000000000 (M' 933) j (m + 1) = W - q * V → W - q * V < V → K (.inl (some (vL q))) e M') :
    ∀ (u t : Nat) (q : Int) (M : im_M), t + u = 2 → (∀ b, b ≠ 933 → M b = M0 b) → (∀ i, i < j ∨ j + m < i → M 933 i = M0 933 i) → dok 1000000000 (M 933) j m → -1000000000 ≤ M 933 (j + m) → M 933 (j + m) < 1000000000 → dv 1000000000 (M 933) j m + M 933 (j + m) * 1000000000 ^ m = W - q * V → W - q * V < V → q ≤ Q + 2 - t → im_T g d 135 139 [some (.ref 933), some (vI j), some (vI m), none, none, none, none, some (vL q), none, none, none, some (vI t), none, none, none, none, none] [] e M K := by
  have hVB := (dv_bd (B := 1000000000) (by decide) hL).2
  rw [hVe] at hVB
  have hpw := bpow_pos (B := 1000000000) (by decide) m
  intro u
  induction u with
  | zero =>
    intro t q M ht hF hs hdk T0 T1 hv hlt hq
    have hdb := dv_bd (B := 1000000000) (by decide) hdk
    have hqQ : q * V ≤ Q * V := Int.mul_le_mul_of_nonneg_right (by omega) (by omega)
    have hTn : 0 ≤ M 933 (j + m) := by
      apply Decidable.byContradiction
      intro z
      have h1 : M 933 (j + m) * 1000000000 ^ m ≤ -1 * 1000000000 ^ m := Int.mul_le_mul_of_nonneg_right (by omega) (by omega)
      omega
    refine k_Num_takeMultiple_139 ⟨by constructor <;> omega, fun _ => ⟨by constructor <;> omega, fun z => absurd z (by omega)⟩, fun _ => hK M q hF hs (fun i i0 i1 => ?_) (by rw [dv_succ]; exact hv) hlt⟩
    by_cases hi : i = m
    · subst hi; omega
    · exact hdk i i0 (by omega)
  | succ u ih =>
    intro t q M ht hF hs hdk T0 T1 hv hlt hq
    have hdb := dv_bd (B := 1000000000) (by decide) hdk
    refine k_Num_takeMultiple_139 ⟨by constructor <;> omega, fun _ => ⟨by constructor <;> omega, fun hneg => ?_⟩, fun hor => hK M q hF hs (fun i i0 i1 => ?_) (by rw [dv_succ]; exact hv) hlt⟩
    · have h1 : M 933 (j + m) * 1000000000 ^ m ≤ -1 * 1000000000 ^ m := Int.mul_le_mul_of_nonneg_right (by omega) (by omega)
      have hsub : (q - 1) * V = q * V - V := by rw [Int.sub_mul, Int.one_mul]
      have e36 : ∀ i : Int, 0 ≤ i → i < m → M0 933 (36 + i) = M 933 (36 + i) := fun i i0 i1 => (hs _ (by omega)).symm
      refine l_tmA (M0 := M) (T := M 933 (j + m)) hj hjm (by omega) hdk rfl T0 hneg (dok_congr e36 hL) (fun M' hF' hs' hd' t0 t1 hv' => ?_) m 0 0 M (by omega) (fun _ _ => rfl) (fun _ _ => rfl) (fun i i0 i1 => by omega) (Or.inl rfl) (by show (0 : Int) + 0 * _ = 0 + 0; rw [Int.zero_mul])
      rw [← dv_congr e36, hVe] at hv'
      refine ih (t + 1) (q - 1) M' (by omega) (fun b hb => (hF' b hb).trans (hF b hb)) (fun i hi => (hs' i hi).trans (hs i hi)) hd' t0 t1 (by omega) (by omega) (by omega)
    · by_cases hi : i = m
      · subst hi; omega
      · exact hdk i i0 (by omega)
theorem c_take {j W V : Int} {m : Nat} (hm1 : 1 ≤ m) (hj : 0 ≤ j) (hjm : j + m < 36) (hU : dok 1000000000 (M 933) j (m + 1)) (hL : dok 1000000000 (M 933) 36 m) (hhalf : 1000000000 ≤ 2 * M 933 (36 + m - 1))
    (hWe : dv 1000000000 (M 933) j (m + 1) = W) (hVe : dv 1000000000 (M 933) 36 m = V) (hWV : W < 1000000000 * V)
    (hK : ∀ (M' : im_M) (q : Int), (∀ b, b ≠ 933 → M' b = M b) → (∀ i, i < j ∨ j + m < i → M' 933 i = M 933 i) → dok 1000000000 (M' 933) j (m + 1) → 0 ≤ q → q < 1000000000 → dv 1000000000 (M' 933) j (m + 1) = W - q * V → W - q * V < V → K (.inl (some (vL q))) e M') :
    im_T g d 135 0 [some (.ref 933), some (vI j), some (vI m), none, none, none, none, none, none, none, none, none, none, none, none, none, none] [] e M K := by
  generalize hv1 : M 933 (36 + m - 1) = v1 at hhalf
  generalize htwo : M 933 (j + m) * 1000000000 + M 933 (j + m - 1) = two
  have hl1 := hL ((m : Int) - 1) (by omega) (by omega)
  have hu1 := hU m (by omega) (by omega)
  have hu2 := hU ((m : Int) - 1) (by omega) (by omega)
  rw [show (36 : Int) + ((m : Int) - 1) = 36 + m - 1 from by omega, hv1] at hl1
  rw [show j + ((m : Int) - 1) = j + m - 1 from by omega] at hu2
  obtain ⟨k, rfl⟩ : ∃ k, m = k + 1 := ⟨m - 1, by omega⟩
  have hVd := dv_succ 1000000000 (M 933) 36 k
  have hWd := dv_add 1000000000 (M 933) j k 2
  rw [hVe, show (36 : Int) + (k : Int) = 36 + ((k + 1 : Nat) : Int) - 1 from by omega, hv1] at hVd
  rw [hWe, dv_two] at hWd
  have htw2 : M 933 (j + k) + M 933 (j + k + 1) * 1000000000 = two := by
    rw [← htwo, show j + ((k + 1 : Nat) : Int) = j + k + 1 from by omega, show j + (k : Int) + 1 - 1 = j + k from by omega]; omega
  rw [htw2] at hWd
  have b1 := dv_bd (B := 1000000000) (by decide) (hL.le (k := k) (by omega))
  have b2 := dv_bd (B := 1000000000) (by decide) (hU.le (k := k) (by omega))
  have hp := bpow_pos (B := 1000000000) (by decide) k
  have hVq : V = v1 * 1000000000 ^ k + dv 1000000000 (M 933) 36 k := by rw [hVd]; omega
  have hWq : W = two * 1000000000 ^ k + dv 1000000000 (M 933) j k := by rw [hWd, Int.mul_comm]; omega
  have hV0 : 0 < V := by
    have : 1 * 1000000000 ^ k ≤ v1 * 1000000000 ^ k := Int.mul_le_mul_of_nonneg_right (by omega) (by omega)
    omega
  have htw0 : 0 ≤ two := by omega
  have hW0 : 0 ≤ W := by rw [← hWe]; exact dv_pos (by decide) hU
  have hm0 := Int.emod_nonneg W (show V ≠ 0 by omega)
  have hm1' := Int.emod_lt_of_pos W hV0
  have hme := Int.mul_ediv_add_emod W V
  rw [Int.mul_comm] at hme
  have hQ0 : 0 ≤ W / V := Int.ediv_nonneg hW0 (by omega)
  have hQB : W / V < 1000000000 := Int.ediv_lt_of_lt_mul hV0 hWV
  generalize hQe : W / V = Q at *
  have hQV : Q * V ≤ W := by omega
  have hQg : Q ≤ two / v1 := (Int.le_ediv_iff_mul_le (by omega)).mpr (kn_le (B := 1000000000) hp hVq hWq b1.1 b2.2 hQ0 hQV)
  have hg1 : two / v1 * v1 ≤ two := Int.ediv_mul_le two (by omega)
  refine k_Num_takeMultiple_0 ?_
  rw [htwo, hv1, Int.tdiv_eq_ediv_of_nonneg htw0]
  have hdl : two / v1 ≤ two := Int.ediv_le_self _ htw0
  refine ⟨by constructor <;> omega, fun _ => ⟨by constructor <;> omega, by constructor <;> omega, by constructor <;> omega, by omega, by constructor <;> omega, ?_⟩, fun z => absurd z (by omega)⟩
  generalize hgu : min (two / v1) 999999999 = gu
  have hgu0 : 0 ≤ gu := by omega
  have hgu1 : gu ≤ 999999999 := by omega
  have hguQ : Q ≤ gu := by omega
  have hgv : gu * v1 ≤ two := by
    have : gu * v1 ≤ two / v1 * v1 := Int.mul_le_mul_of_nonneg_right (by omega) (by omega)
    omega
  have htw := kn_two (B := 1000000000) hp hVq hWq b1 b2.1 hgu0 hgv (by omega) hhalf
  have hgQ2 : gu - 2 ≤ Q := kn_uniq (W := W) (V := V) hV0 (by omega) (by omega) (by rw [Int.sub_mul]; omega)
  have hQgV : Q * V ≤ gu * V := Int.mul_le_mul_of_nonneg_right hguQ (by omega)
  refine l_tmS (M0 := M) hj hjm hgu0 hgu1 hU hL (fun M' hF hs hd' t0 t1 hv => ?_) (k + 1) 0 0 M (by omega) (fun _ _ => rfl) (fun _ _ => rfl) (fun i i0 i1 => by omega) (by decide) hgu0 (by show (0 : Int) = 0 - gu * 0 + 0 * _; rw [Int.mul_zero, Int.zero_mul]; rfl)
  have e36 : ∀ i : Int, 0 ≤ i → i < (k + 1 : Nat) → M 933 (36 + i) = M' 933 (36 + i) := fun i i0 i1 => (hs _ (by omega)).symm
  rw [hWe, hVe] at hv
  refine l_tmT (M0 := M') (W := W) (V := V) (Q := Q) hj hjm (dok_congr e36 hL) (by rw [← dv_congr e36]; exact hVe) hV0 (by omega) (fun M2 q hF2 hs2 hd2 hv2 hlt => ?_) 2 0 gu M' (by omega) (fun _ _ => rfl) (fun _ _ => rfl) hd' t0 t1 hv (by omega) (by omega)
  have hpos := dv_pos (B := 1000000000) (by decide) hd2
  have hqQ : q ≤ Q := kn_uniq (W := W) (V := V) hV0 (by omega) (by omega) (by omega)
  have hQq : Q ≤ q := kn_uniq (W := W) (V := V) hV0 (by omega) hlt hQV
  exact hK M2 q (fun b hb => (hF2 b hb).trans (hF b hb)) (fun i hi => (hs2 i hi).trans (hs i hi)) hd2 (by omega) (by omega) hv2 hlt
end CNUM4

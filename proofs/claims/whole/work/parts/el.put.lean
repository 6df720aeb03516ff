/-! WHAT IS PRINTED: names, words, times -/
/-- the bytes of a name, without those that are 0 before it -/
def nmb (v : Int) : Nat → List Int
  | 0 => []
  | k + 1 => (if 0 < hbt v k then [hbt v k % 256] else []) ++ nmb v k
def nmB (v : Int) : List Int := nmb v 8
/-- words with gaps between -/
def ltk (L : List Int) (ts : List (List Int)) : List Int := ts.foldl (fun L t => lps (lga L) t) L
theorem ltk_nil (L : List Int) : ltk L [] = L := rfl
theorem ltk_cons (L : List Int) (t : List Int) (ts : List (List Int)) : ltk L (t :: ts) = ltk (lps (lga L) t) ts := rfl
theorem ltk_app (L : List Int) (a b : List (List Int)) : ltk L (a ++ b) = ltk (ltk L a) b := by unfold ltk; rw [List.foldl_append]
theorem kwv_b : ∀ k : Fin 34, 0 ≤ kwv ((k : Nat) : Int) ∧ kwv ((k : Nat) : Int) ≤ 9223372036854775807 := by decide +kernel
theorem kwv_r {k : Int} (h : 0 ≤ k ∧ k < 34) : 0 ≤ kwv k ∧ kwv k ≤ 9223372036854775807 := by
  have := kwv_b ⟨k.toNat, by omega⟩
  rw [show (((⟨k.toNat, by omega⟩ : Fin 34) : Nat) : Int) = k from by show ((k.toNat : Nat) : Int) = k; omega] at this
  exact this
/-- the digits of a number that isn't below 0 -/
theorem numB_u {v : Int} {j : Nat} (h0 : 0 ≤ v) (h1 : v < 10 ^ (j + 1)) (h2 : j = 0 ∨ 10 ^ j ≤ v) (hj : j < 400) : numB v = dgl v (j + 1) := by
  unfold numB
  rw [if_neg (by omega), show ((v.natAbs : Nat) : Int) = v by omega]
  have hz := dgl_z h0 h1 (400 - (j + 1))
  rw [show j + 1 + (400 - (j + 1)) = 400 by omega] at hz
  rw [hz]
  by_cases c : v = 0
  · rw [if_pos c, c]
    have hj0 : j = 0 := by
      rcases h2 with z | z
      · exact z
      · have : (0 : Int) < 10 ^ j := bpow_pos (by decide) j
        omega
    rw [hj0]; rfl
  · rw [if_neg c]
    have h3 : 10 ^ j ≤ v := by
      rcases h2 with z | z
      · rw [z]; show (1 : Int) ≤ v; omega
      · exact z
    rw [dgl_t h3 h1]; rfl
section PUTN
variable {g : im_g} {d : Nat} {e : im_E} {M : im_M} {K : im_K}
theorem l_putCode {v : Int} {M0 : im_M} (hv : 0 ≤ v ∧ v ≤ 9223372036854775807) (hd : 1 ≤ d) {L9 : List Int} (hK : ∀ M', wF M0 M' → cOL M' L9 → K (.inl none) e M') :
    ∀ (k : Nat) (M : im_M) (L : List Int), k ≤ 8 → wF M0 M → cOL M L → L9 = lps L (nmb v k) → im_T g d 181 3 [some (.ref 7), some (vL v), none, some (vI (8 * (k : Int) - 8))] [] e M K := by
  intro k
  induction k with
  | zero =>
    intro M L hk hF ho hL
    exact k_Writer_putCode_3 hd ⟨by decide, fun _ => hK M hF (by rw [hL]; exact ho), fun z => absurd z (by decide)⟩
  | succ k ih =>
    intro M L hk hF ho hL
    have e8 : (8 * ((k + 1 : Nat) : Int) - 8) = 8 * (k : Int) := by omega
    have e9 : (8 * (k : Int) + (-8)) = 8 * (k : Int) - 8 := by omega
    rw [e8]
    have hx := xlushr_b hv.1 hv.2 (m := k) (by omega)
    have h0 := hbt_nn hv.1 k
    refine k_Writer_putCode_3 hd ⟨by constructor <;> omega, fun z => by omega, fun _ => ?_⟩
    rw [hx, e9]
    refine ⟨fun hz => ?_, fun hz => c_putL (L := L) (b := hbt v k % 256) ho rfl (fun M' f o => ⟨rfl, rfl, ?_⟩)⟩
    · refine ih M L (by omega) hF ho ?_
      rw [hL]
      show lps L ((if 0 < hbt v k then [hbt v k % 256] else []) ++ nmb v k) = _
      rw [if_neg (by omega)]; rfl
    · refine ih M' _ (by omega) (hF.trans f) o ?_
      rw [hL]
      show lps L ((if 0 < hbt v k then [hbt v k % 256] else []) ++ nmb v k) = _
      rw [if_pos (by omega)]; rfl
theorem c_putCode {v : Int} {L : List Int} (hv : 0 ≤ v ∧ v ≤ 9223372036854775807) (ho : cOL M L) (hd : 1 ≤ d) (hK : ∀ M', wF M M' → cOL M' (lps L (nmB v)) → K (.inl none) e M') : im_T g d 181 0 [some (.ref 7), some (vL v), none, none] [] e M K :=
  k_Writer_putCode_0 (l_putCode (M0 := M) hv hd hK 8 M L (Nat.le_refl _) (wF.rf M) ho rfl)
theorem c_codeL {v : Int} {L : List Int} (hv : 0 ≤ v ∧ v ≤ 9223372036854775807) (ho : cOL M L) (hd : 2 ≤ d) (hK : ∀ M', wF M M' → cOL M' (ltk L [nmB v]) → K (.inl none) e M') : im_T g d 183 0 [some (.ref 7), some (vL v), none] [] e M K :=
  k_Writer_code_0 (by omega) (c_gapL ho (by omega) (fun M1 f1 o1 => ⟨rfl, rfl, c_putCode hv o1 (by omega) (fun M2 f2 o2 => ⟨rfl, rfl, hK M2 (f1.trans f2) o2⟩)⟩))
theorem c_signL {b : Int} {L : List Int} (hb : 0 ≤ b ∧ b < 256) (ho : cOL M L) (hd : 2 ≤ d) (hK : ∀ M', wF M M' → cOL M' (ltk L [[b]]) → K (.inl none) e M') : im_T g d 180 0 [some (.ref 7), some (vI b)] [] e M K :=
  k_Writer_sign_0 (by omega) (c_gapL ho (by omega) (fun M1 f1 o1 => ⟨rfl, rfl, c_putL (b := b) o1 (by omega) (fun M2 f2 o2 => ⟨rfl, rfl, hK M2 (f1.trans f2) o2⟩)⟩))
theorem c_namedL {v : Int} {L : List Int} (hv : 0 ≤ v ∧ v ≤ 9223372036854775807) (ho : cOL M L) (hd : 3 ≤ d) (hK : ∀ M', wF M M' → cOL M' (ltk L [63 :: nmB v]) → K (.inl none) e M') : im_T g d 179 0 [some (.ref 7), some (vL v), none] [] e M K :=
  k_Writer_named_0 (by omega) (c_signL (by decide) ho (by omega) (fun M1 f1 o1 => ⟨rfl, rfl, c_putCode hv o1 (by omega) (fun M2 f2 o2 => ⟨rfl, rfl, hK M2 (f1.trans f2) o2⟩)⟩))
theorem c_keywordL {k : Int} {L : List Int} (hk : 0 ≤ k ∧ k < 34) (hw : cKw M) (ho : cOL M L) (hd : 3 ≤ d) (hK : ∀ M', wF M M' → cOL M' (ltk L [nmB (kwv k)]) → K (.inl none) e M') : im_T g d 182 0 [some (.ref 7), some (vI k)] [] e M K := by
  refine k_Writer_keyword_0 (by omega) ⟨by constructor <;> omega, fun _ _ => ⟨hk, ?_⟩, fun z => by omega⟩
  rw [hw k hk.1 hk.2]
  exact c_codeL (kwv_r hk) ho (by omega) (fun M' f o => ⟨rfl, rfl, hK M' f o⟩)
theorem c_rblankL {L : List Int} (ho : rOL M L) (hd : 1 ≤ d) (hK : ∀ M', qF M M' → rOL M' (lga L) → K (.inl none) e M') : im_T g d 321 0 [some (.ref 6952)] [] e M K := by
  refine b_putBlank_0 hd ?_
  have o1 := ho.1
  unfold lga at hK
  rw [o1]
  refine ⟨fun z => ?_, fun z => c_rputL (b := 32) ho (by decide) (fun M' f o => ⟨rfl, rfl, ?_⟩)⟩
  · rw [if_pos (by omega)] at hK; exact hK M (qF.rf M) ho
  · rw [if_neg (by omega)] at hK; exact hK M' f o
theorem l_putName {v : Int} {M0 : im_M} (hv : 0 ≤ v ∧ v ≤ 9223372036854775807) (hd : 1 ≤ d) {L9 : List Int} (hK : ∀ M', qF M0 M' → rOL M' L9 → K (.inl none) e M') :
    ∀ (k : Nat) (M : im_M) (L : List Int), k ≤ 8 → qF M0 M → rOL M L → L9 = lps L (nmb v k) → im_T g d 323 3 [some (.ref 6952), some (vL v), none, some (vI (8 * (k : Int) - 8))] [] e M K := by
  intro k
  induction k with
  | zero =>
    intro M L hk hF ho hL
    exact b_putName_3 hd ⟨by decide, fun _ => hK M hF (by rw [hL]; exact ho), fun z => absurd z (by decide)⟩
  | succ k ih =>
    intro M L hk hF ho hL
    have e8 : (8 * ((k + 1 : Nat) : Int) - 8) = 8 * (k : Int) := by omega
    have e9 : (8 * (k : Int) + (-8)) = 8 * (k : Int) - 8 := by omega
    rw [e8]
    have hx := xlshr_b hv.1 hv.2 (m := k) (by omega)
    have h0 := hbt_nn hv.1 k
    refine b_putName_3 hd ⟨by constructor <;> omega, fun z => by omega, fun _ => ?_⟩
    rw [hx, e9, xland_255]
    refine ⟨fun hz => ?_, fun hz => c_rputL (L := L) (b := hbt v k % 256) ho (by omega) (fun M' f o => ⟨rfl, rfl, ?_⟩)⟩
    · refine ih M L (by omega) hF ho ?_
      rw [hL]
      show lps L ((if 0 < hbt v k then [hbt v k % 256] else []) ++ nmb v k) = _
      rw [if_neg (by omega)]; rfl
    · refine ih M' _ (by omega) (hF.trans f) o ?_
      rw [hL]
      show lps L ((if 0 < hbt v k then [hbt v k % 256] else []) ++ nmb v k) = _
      rw [if_pos (by omega)]; rfl
theorem c_rputName {v : Int} {L : List Int} (hv : 0 ≤ v ∧ v ≤ 9223372036854775807) (ho : rOL M L) (hd : 1 ≤ d) (hK : ∀ M', qF M M' → rOL M' (lps L (nmB v)) → K (.inl none) e M') : im_T g d 323 0 [some (.ref 6952), some (vL v), none, none] [] e M K :=
  b_putName_0 (l_putName (M0 := M) hv hd hK 8 M L (Nat.le_refl _) (qF.rf M) ho rfl)
theorem c_rwordL {v : Int} {L : List Int} (hv : 0 ≤ v ∧ v ≤ 9223372036854775807) (ho : rOL M L) (hd : 2 ≤ d) (hK : ∀ M', qF M M' → rOL M' (ltk L [nmB v]) → K (.inl none) e M') : im_T g d 320 0 [some (.ref 6952), some (vL v), none] [] e M K :=
  b_putWord_0 (by omega) (c_rblankL ho (by omega) (fun M1 f1 o1 => ⟨rfl, rfl, c_rputName hv o1 (by omega) (fun M2 f2 o2 => ⟨rfl, rfl, hK M2 (f1.trans f2) o2⟩)⟩))
theorem c_raskedL {v : Int} {L : List Int} (hv : 0 ≤ v ∧ v ≤ 9223372036854775807) (ho : rOL M L) (hd : 2 ≤ d) (hK : ∀ M', qF M M' → rOL M' (ltk L [63 :: nmB v]) → K (.inl none) e M') : im_T g d 325 0 [some (.ref 6952), some (vL v), none] [] e M K :=
  b_putAsked_0 (by omega) (c_rblankL ho (by omega) (fun M1 f1 o1 => ⟨rfl, rfl, c_rputL o1 (by decide) (fun M2 f2 o2 => ⟨rfl, rfl, c_rputName hv o2 (by omega) (fun M3 f3 o3 => ⟨rfl, rfl, hK M3 ((f1.trans f2).trans f3) o3⟩)⟩)⟩))
theorem l_rlongB {v : Int} {M0 : im_M} (hv : 0 ≤ v ∧ v ≤ 1000000000000000) (hd : 1 ≤ d) {L9 : List Int} (hK : ∀ M', qF M0 M' → rOL M' L9 → K (.inl none) e M') :
    ∀ (k : Nat) (M : im_M) (L : List Int), k ≤ 17 → qF M0 M → rOL M L → L9 = lps L (dgl v k) → im_T g d 327 24 [some (.ref 6952), some (vL v), none, none, none, some (vL (if k = 0 then 0 else 10 ^ (k - 1))), none] [] e M K := by
  intro k
  induction k with
  | zero =>
    intro M L hk hF ho hL
    exact b_putLong_24 hd ⟨by decide, fun _ => hK M hF (by rw [hL]; exact ho), fun z => absurd z (by decide)⟩
  | succ k ih =>
    intro M L hk hF ho hL
    rw [if_neg (by omega), show k + 1 - 1 = k by omega]
    have hp : (0 : Int) < 10 ^ k := bpow_pos (by decide) k
    have hp2 : (10 : Int) ^ k ≤ 10 ^ 16 := bpow_le (B := 10) (by decide) (by omega)
    have hp3 : (10 : Int) ^ 16 = 10000000000000000 := by decide
    have hdiv : v.tdiv (10 ^ k) = v / 10 ^ k := Int.tdiv_eq_ediv_of_nonneg hv.1
    have hnn : 0 ≤ v / 10 ^ k := Int.ediv_nonneg hv.1 (Int.le_of_lt hp)
    have hle : v / 10 ^ k ≤ v := Int.ediv_le_self _ hv.1
    have hmod : (v.tdiv (10 ^ k)).tmod 10 = v / 10 ^ k % 10 := by rw [hdiv, Int.tmod_eq_emod_of_nonneg hnn]
    have hnext : ((10 : Int) ^ k).tdiv 10 = if k = 0 then 0 else 10 ^ (k - 1) := by
      by_cases c : k = 0
      · rw [c]; rfl
      · obtain ⟨j, rfl⟩ : ∃ j, k = j + 1 := ⟨k - 1, by omega⟩
        rw [if_neg (by omega), show j + 1 - 1 = j by omega, Int.pow_succ, Int.mul_tdiv_cancel _ (by decide)]
    refine b_putLong_24 hd ⟨by constructor <;> omega, fun z => by omega, fun _ => ⟨by constructor <;> omega, by omega, by rw [hdiv]; constructor <;> omega, ?_⟩⟩
    rw [hmod, hnext]
    exact c_rputL (L := L) ho (by omega) (fun M' f o => ⟨rfl, rfl, ih M' _ (by omega) (hF.trans f) o hL⟩)
theorem l_rlongA {v : Int} {L : List Int} (hv : 0 ≤ v ∧ v ≤ 1000000000000000) (hd : 1 ≤ d) (ho : rOL M L) (hK : ∀ M', qF M M' → rOL M' (lps L (numB v)) → K (.inl none) e M') :
    ∀ (n j : Nat), j + n = 15 → (j = 0 ∨ 10 ^ j ≤ v) → im_T g d 327 2 [some (.ref 6952), some (vL v), none, some (vL (10 ^ j)), none, none, none] [] e M K := by
  intro n
  induction n with
  | zero =>
    intro j hj h2
    have hj : j = 15 := by omega
    subst hj
    have hp : (10 : Int) ^ 15 = 1000000000000000 := by decide
    have hdiv : v.tdiv (10 ^ 15) = v / 10 ^ 15 := Int.tdiv_eq_ediv_of_nonneg hv.1
    rw [hp] at hdiv h2 ⊢
    refine b_putLong_2 ⟨by constructor <;> omega, by decide, by decide, by rw [hdiv]; constructor <;> omega, fun _ => ?_, fun z => by rw [hdiv] at z; omega⟩
    have := l_rlongB (g := g) (d := d) (e := e) (M0 := M) (L9 := lps L (numB v)) hv hd hK 16 M L (by decide) (qF.rf M) ho (by rw [numB_u hv.1 (j := 15) (by rw [show (10 : Int) ^ (15 + 1) = 10000000000000000 by decide]; omega) (by rw [hp]; exact h2) (by decide)])
    exact this
  | succ n ih =>
    intro j hj h2
    have hp : (0 : Int) < 10 ^ j := bpow_pos (by decide) j
    have hp2 : (10 : Int) ^ j ≤ 10 ^ 15 := bpow_le (B := 10) (by decide) (by omega)
    have hp3 : (10 : Int) ^ 15 = 1000000000000000 := by decide
    have hdiv : v.tdiv (10 ^ j) = v / 10 ^ j := Int.tdiv_eq_ediv_of_nonneg hv.1
    have hnn : 0 ≤ v / 10 ^ j := Int.ediv_nonneg hv.1 (Int.le_of_lt hp)
    have hle : v / 10 ^ j ≤ v := Int.ediv_le_self _ hv.1
    have hs : (10 : Int) ^ (j + 1) = 10 ^ j * 10 := Int.pow_succ _ _
    refine b_putLong_2 ⟨by constructor <;> omega, by constructor <;> omega, by omega, by rw [hdiv]; constructor <;> omega, fun hle9 => ?_, fun hgt => ?_⟩
    · rw [hdiv] at hle9
      have hlt : v < 10 ^ (j + 1) := by
        rw [hs, Int.mul_comm]
        exact Int.lt_mul_of_ediv_lt hp (by omega)
      have := l_rlongB (g := g) (d := d) (e := e) (M0 := M) (L9 := lps L (numB v)) hv hd hK (j + 1) M L (by omega) (qF.rf M) ho (by rw [numB_u hv.1 hlt h2 (by omega)])
      rw [if_neg (by omega), show j + 1 - 1 = j by omega] at this
      exact this
    · rw [hdiv] at hgt
      rw [← hs]
      refine ih (j + 1) (by omega) (Or.inr ?_)
      rw [hs, Int.mul_comm]
      have := Int.mul_le_of_le_ediv hp (show (10 : Int) ≤ v / 10 ^ j by omega)
      exact this
theorem c_rlongL {v : Int} {L : List Int} (hv : 0 ≤ v ∧ v ≤ 1000000000000000) (ho : rOL M L) (hd : 1 ≤ d) (hK : ∀ M', qF M M' → rOL M' (lps L (numB v)) → K (.inl none) e M') : im_T g d 327 0 [some (.ref 6952), some (vL v), none, none, none, none, none] [] e M K :=
  b_putLong_0 (l_rlongA hv hd ho hK 15 0 rfl (Or.inl rfl))
end PUTN

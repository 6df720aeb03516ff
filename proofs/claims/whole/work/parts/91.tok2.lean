theorem sf_6 {e : im_E} : (im_sh0 ++ e)[6]? = some (1, 34, []) := im_sh_of (pu_L (pu_L (pu_Rr (n := 0) (i := 6) rfl rfl rfl))) rfl
theorem im_num5 {e : im_E} : im_num e 5 := ⟨sf_5, sf_6⟩
/-- a byte array is none of the reader's own cells -/
theorem bt_ne {e : im_E} {b nb : Nat} (h : (im_sh0 ++ e)[b]? = some (0, nb, [])) : b ≠ 2 ∧ b ≠ 3 ∧ b ≠ 5 ∧ b ≠ 6 := by
  refine ⟨?_, ?_, ?_, ?_⟩ <;> rintro rfl
  · have := h.symm.trans sf_2; simp at this
  · have := h.symm.trans sf_3; simp at this
  · have := h.symm.trans sf_5; simp at this
  · have := h.symm.trans sf_6; simp at this
def tyP (M M' : im_M) (ty nm v : Int) : Prop := (∀ x, x ≠ 2 → x ≠ 5 → x ≠ 6 → M' x = M x) ∧ (∀ k, k ≠ 6 → M' 2 k = M 2 k) ∧ (ty ≠ 34 → M' 5 = M 5 ∧ M' 6 = M 6) ∧ ((0 ≤ ty ∧ ty ≤ 33) ∨ ty = 35 ∨ ty = 36 → M' 2 6 = nm) ∧ (ty = 34 → cn M' 5 v)
theorem tyP_of {M M' : im_M} {ty nm v : Int} (h1 : ∀ x, x ≠ 2 → M' x = M x) (h2 : ∀ k, k ≠ 6 → M' 2 k = M 2 k) (h3 : (0 ≤ ty ∧ ty ≤ 33) ∨ ty = 35 ∨ ty = 36 → M' 2 6 = nm) (h4 : ty ≠ 34) : tyP M M' ty nm v :=
  ⟨fun x a _ _ => h1 x a, h2, fun _ => ⟨h1 5 (by decide), h1 6 (by decide)⟩, h3, fun z => absurd z h4⟩
section TOK2
variable {g : im_g} {d : Nat} {e : im_E} {M M0 : im_M} {K : im_K}
theorem l_nt42 {b nb : Nat} {t : Int → Int} {n f q mi : Int} (hsh : (im_sh0 ++ e)[b]? = some (0, nb, [])) (hnb : nb ≤ 2147483647) (hb : M 2 1 = b) (hnn : n ≤ nb) (ht : txt (M b) t n) (hf0 : 0 ≤ f) (hq : q ≤ n) (hfq : f < q) (hd : 1 ≤ d)
    (hK1 : dgT t f q → im_T g d 45 69 [some (.ref 2), none, some (vI q), some (vI mi), some (vI f), none] [] e M K) (hK0 : ¬ dgT t f q → K (.inl (some (vI (-1)))) e M) :
    ∀ (j : Nat) (i : Int), i + j = q → f ≤ i → (∀ x, f ≤ x → x < i → 48 ≤ t x ∧ t x ≤ 57) → im_T g d 45 42 [some (.ref 2), none, some (vI q), some (vI mi), some (vI f), some (vI i)] [] e M K := by
  intro j
  induction j with
  | zero =>
    intro i hi hfi ha
    exact k_Reader_numberType_42 hd ⟨by constructor <;> omega, by constructor <;> omega, fun _ => hK1 ⟨hfq, fun x x0 x1 => ha x x0 (by omega)⟩, fun z => absurd z (by omega)⟩
  | succ j ih =>
    intro i hi hfi ha
    have hB := ht i (by omega) (by omega)
    refine k_Reader_numberType_42 hd ⟨by constructor <;> omega, by constructor <;> omega, fun z => absurd z (by omega), fun _ => ⟨b, hb, nb, ⟨hsh, hnb⟩, by constructor <;> omega, ?_⟩⟩
    refine c_isDigit (by constructor <;> omega) (fun hc => ⟨_, rfl, rfl, by constructor <;> omega, fun _ => ?_, fun z => absurd z (by decide)⟩) (fun hc => ⟨_, rfl, rfl, by constructor <;> omega, fun z => absurd rfl z, fun _ => hK0 (fun z => ?_)⟩)
    · refine ih (i + 1) (by omega) (by omega) (fun x x0 x1 => ?_)
      by_cases hx : x = i
      · subst hx; omega
      · exact ha x x0 (by omega)
    · have := z.2 i hfi (by omega)
      omega
theorem l_nt69 {b nb : Nat} {t : Int → Int} {n f q z mi : Int} (hsh : (im_sh0 ++ e)[b]? = some (0, nb, [])) (hnb : nb ≤ 2147483647) (hb : M 2 1 = b) (hnn : n ≤ nb) (ht : txt (M b) t n) (hf0 : 0 ≤ f) (hq : q ≤ n) (hdg : dgT t f q) (hz : zrT t f q z) (hmi : mi = 0 ∨ mi = 1) (hd : 1 ≤ d)
    (hK1 : q - z ≤ 300 → ∀ M', NF 5 M M' → cn M' 5 ((if mi = 0 then 1 else -1) * dv 10 (tdg t q) 0 (q - z).toNat) → K (.inl (some (vI 34))) e M') (hK0 : 300 < q - z → K (.inl (some (vI (-2)))) e M) :
    ∀ (j : Nat) (i : Int), i + j = z → f ≤ i → im_T g d 45 69 [some (.ref 2), none, some (vI q), some (vI mi), some (vI i), none] [] e M K := by
  have hbn := bt_ne hsh
  have hsd : ∀ (hs3 : q - z ≤ 300), im_T g (d - 1) 46 0 [some (.ref 5), some (.ref b), some (vI z), some (vI q), some (vI mi), none, none, none] [] e M (im_r0 (fun e_ M10 => e = e_ ∧ K (.inl (some (vI 34))) e M10)) := by
    intro hs3
    have h1 := hz.1
    have h2 := hz.2.1
    refine c_sd (N := (q - z).toNat) im_num5 hsh hnb hbn.2.2.1 hbn.2.2.2 (by omega) (by omega) (by omega) (by omega) (fun i i0 i1 => ?_) (fun h => ?_) hmi (fun M' hF hcn => ⟨rfl, rfl, hK1 hs3 M' hF ?_⟩)
    · have := hdg.2 i (by omega) i1
      have hB := ht i (by omega) (by omega)
      omega
    · have := hz.2.2.2 (by omega)
      have h3 := hdg.2 z (by omega) (by omega)
      have hB := ht z (by omega) (by omega)
      omega
    · rw [dv_congr (f := tdg t q) (f' := tdg (M b) q) (o := 0) (o' := 0) (fun i i0 i1 => ?_)]
      · exact hcn
      · unfold tdg
        have h3 := hdg.2 (q - 1 - (0 + i)) (by omega) (by omega)
        have hB := ht (q - 1 - (0 + i)) (by omega) (by omega)
        omega
  intro j
  induction j with
  | zero =>
    intro i hi hfi
    obtain rfl : i = z := by omega
    have h2 := hz.2.1
    have h3 := hz.2.2.2
    refine k_Reader_numberType_69 hd ⟨by constructor <;> omega, by constructor <;> omega, fun _ => ⟨by constructor <;> omega, fun c => ⟨b, hb, nb, ⟨hsh, hnb⟩, hsd c⟩, fun c => hK0 c⟩, fun c => ⟨b, hb, nb, ⟨hsh, hnb⟩, by constructor <;> omega, fun c2 => ⟨by constructor <;> omega, fun c3 => ⟨b, hb, nb, ⟨hsh, hnb⟩, hsd c3⟩, fun c3 => hK0 c3⟩, fun c2 => ?_⟩⟩
    have h4 := h3 c
    have hB := ht i (by omega) (by omega)
    omega
  | succ j ih =>
    intro i hi hfi
    have h2 := hz.2.1
    have h3 := hz.2.2.1 i hfi (by omega)
    have hB := ht i (by omega) (by omega)
    refine k_Reader_numberType_69 hd ⟨by constructor <;> omega, by constructor <;> omega, fun c => absurd c (by omega), fun c => ⟨b, hb, nb, ⟨hsh, hnb⟩, by constructor <;> omega, fun c2 => absurd ?_ c2, fun c2 => ih (i + 1) (by omega) (by omega)⟩⟩
    omega
theorem c_numberType {b nb : Nat} {t : Int → Int} {n p q ty nm v : Int} (hsh : (im_sh0 ++ e)[b]? = some (0, nb, [])) (hnb : nb ≤ 2147483647) (hb : M 2 1 = b) (hnn : n ≤ nb) (ht : txt (M b) t n) (hp0 : 0 ≤ p) (hpq : p < q) (hq : q ≤ n) (hw : wrd t p q ty nm v) (hsg : t p = 45 ∨ (48 ≤ t p ∧ t p ≤ 57)) (hd : 2 ≤ d)
    (hK : ∀ M', tyP M M' ty nm v → K (.inl (some (vI ty))) e M') : im_T g d 45 0 [some (.ref 2), some (vI p), some (vI q), none, none, none] [] e M K := by
  have hB := ht p hp0 (by omega)
  have hrf : ∀ ty, ty < 0 → tyP M M ty nm v := fun ty h => tyP_of (fun _ _ => rfl) (fun _ _ => rfl) (fun z => by omega) (by omega)
  have hask : ask t p = p := by unfold ask; rw [if_neg (by omega)]
  have hnn2 : ¬ nmT t (ask t p) q := fun z => by have := z.2.2.1; rw [hask] at this; omega
  refine k_Reader_numberType_0 ⟨b, hb, nb, ⟨hsh, hnb⟩, by constructor <;> omega, fun x hx y hy => ?_⟩
  have hy2 : y = sgn t p := by unfold sgn; split <;> omega
  subst hy2
  have hx2 : (t p = 45 ∧ x = 1) ∨ (t p ≠ 45 ∧ x = 0) := by omega
  have hs0 : 0 ≤ sgn t p := by unfold sgn; split <;> omega
  have hs1 : sgn t p ≤ q := by unfold sgn; split <;> omega
  refine ⟨by constructor <;> omega, by constructor <;> omega, fun hlt => ?_, fun hge => ?_⟩
  · refine l_nt42 hsh hnb hb hnn ht hs0 hq hlt (by omega) (fun hdg => ?_) (fun hdg => ?_) (q - sgn t p).toNat (sgn t p) (by omega) (Int.le_refl _) (fun x x0 x1 => by omega)
    · rcases hw with ⟨_, z, hz, hty⟩ | ⟨hn, _⟩ | ⟨hn, _⟩
      · have hz1 := hz.1
        refine l_nt69 hsh hnb hb hnn ht hs0 hq hdg hz (by omega) (by omega) (fun hs3 M' hF hcn => ?_) (fun hs3 => ?_) (z - sgn t p).toNat (sgn t p) (by omega) (Int.le_refl _)
        · obtain ⟨h1, h2, h3⟩ : q - z ≤ 300 ∧ ty = 34 ∧ v = nval t p q z := by
            rcases hty with w | w
            · omega
            · exact w
          rw [h2] at hK
          refine hK M' ⟨fun x _ a5 a6 => hF x a5 a6, fun k _ => by rw [hF 2 (by decide) (by decide)], fun z => absurd rfl z, fun z => by omega, fun _ => ?_⟩
          rw [h3]
          unfold nval
          rw [show (if t p = 45 then (-1 : Int) else 1) = (if x = 0 then 1 else -1) from by
            rcases hx2 with ⟨c1, c2⟩ | ⟨c1, c2⟩
            · rw [if_pos c1, if_neg (by omega)]
            · rw [if_neg c1, if_pos c2]]
          exact hcn
        · have h1 : ty = -2 := by
            rcases hty with w | w
            · exact w.2
            · omega
          rw [h1] at hK
          exact hK M (hrf _ (by decide))
      · exact absurd hdg hn
      · exact absurd hdg hn
    · rcases hw with ⟨hn, _⟩ | ⟨_, _, hty⟩ | ⟨_, hn, _⟩
      · exact absurd hn hdg
      · rw [hty] at hK; exact hK M (hrf _ (by decide))
      · exact absurd hn hnn2
  · rcases hw with ⟨hn, _⟩ | ⟨_, _, hty⟩ | ⟨_, hn, _⟩
    · have := hn.1; omega
    · rw [hty] at hK; exact hK M (hrf _ (by decide))
    · exact absurd hn hnn2
theorem c_typeOf {b nb : Nat} {t : Int → Int} {n p q ty nm v : Int} (hsh : (im_sh0 ++ e)[b]? = some (0, nb, [])) (hnb : nb ≤ 2147483647) (hb : M 2 1 = b) (hnn : n ≤ nb) (ht : txt (M b) t n) (hkw : ∀ i, 0 ≤ i → i < 34 → M 3 i = kwv i) (hp0 : 0 ≤ p) (hpq : p < q) (hq : q ≤ n) (hw : wrd t p q ty nm v) (hd : 3 ≤ d)
    (hK : ∀ M', tyP M M' ty nm v → K (.inl (some (vI ty))) e M') : im_T g d 43 0 [some (.ref 2), some (vI p), some (vI q), none, none, none] [] e M K := by
  have hB := ht p hp0 (by omega)
  have hbn := bt_ne hsh
  refine k_Reader_typeOf_0 (by omega) ⟨b, hb, nb, ⟨hsh, hnb⟩, by constructor <;> omega, fun h45 => ?_, fun h45 => ?_⟩
  · exact c_numberType hsh hnb hb hnn ht hp0 hpq hq hw (Or.inl (by omega)) (by omega) (fun M' hP => ⟨_, rfl, rfl, hK M' hP⟩)
  · refine c_isDigit (by constructor <;> omega) (fun hc => ⟨_, rfl, rfl, by constructor <;> omega, fun _ => ?_, fun x hx => by omega⟩) (fun hc => ⟨_, rfl, rfl, by constructor <;> omega, fun z => absurd rfl z, fun x hx y hy => ?_⟩)
    · exact c_numberType hsh hnb hb hnn ht hp0 hpq hq hw (Or.inr (by omega)) (by omega) (fun M' hP => ⟨_, rfl, rfl, hK M' hP⟩)
    · have hy2 : y = ask t p := by unfold ask; split <;> omega
      subst hy2
      have hx2 : (t p = 63 ∧ x = 1) ∨ (t p ≠ 63 ∧ x = 0) := by omega
      have ha0 : 0 ≤ ask t p := by unfold ask; split <;> omega
      have ha1 : ask t p ≤ q := by unfold ask; split <;> omega
      have hsg : sgn t p = p := by unfold sgn; rw [if_neg (by omega)]
      have hndg : ¬ dgT t (sgn t p) q := fun z => by have := z.2 p (by omega) hpq; omega
      refine c_pack hsh hnb hbn.1 hb hnn ht ha0 (by omega) hq ha1 (by omega) (fun hnm M1 hF hF2 h6 => ⟨_, rfl, rfl, by constructor <;> omega, fun _ => ?_, fun z => absurd z (by decide)⟩) (fun hnm M1 hF hF2 => ⟨_, rfl, rfl, by constructor <;> omega, fun z => absurd rfl z, fun _ => ?_⟩)
      · rw [h6]
        have hpk := pak_rng (t := t) (f := ask t p) (q - ask t p).toNat (fun i i0 i1 => by have := hnm.2.2.2 i i0 (by omega); omega)
        have h8 := hnm.2.1
        have hL := hnm.2.2.1
        have hv64 : im_i64 (pak t (ask t p) (q - ask t p).toNat) := by
          obtain ⟨k', hk'⟩ : ∃ k', (q - ask t p).toNat = k' + 1 := ⟨(q - ask t p).toNat - 1, by have := hnm.1; omega⟩
          have hgen : ∀ m : Nat, m ≤ k' → pak t (ask t p) (m + 1) < 128 * 256 ^ m := by
            intro m
            induction m with
            | zero => intro _; show 0 * 256 + t (ask t p + ((0 : Nat) : Int)) < 128 * 256 ^ 0; rw [Int.pow_zero, show ask t p + ((0 : Nat) : Int) = ask t p from by omega]; omega
            | succ m ihm =>
              intro hm
              have h1 := ihm (by omega)
              have h2 := hnm.2.2.2 (ask t p + ((m + 1 : Nat) : Int)) (by omega) (by omega)
              show pak t (ask t p) (m + 1) * 256 + t (ask t p + ((m + 1 : Nat) : Int)) < _
              rw [Int.pow_succ]
              omega
          have h3 := hgen k' (Nat.le_refl _)
          have h4 : (256 : Int) ^ k' ≤ 256 ^ 7 := bpow_le (by decide) (by omega)
          rw [show (256 : Int) ^ 7 = 72057594037927936 from by decide] at h4
          rw [← hk'] at h3
          constructor <;> omega
        refine c_keyword hv64 (fun i i0 i1 => by rw [hF 3 (by decide)]; exact hkw i i0 i1) (fun r hr => ⟨_, rfl, rfl, ?_⟩)
        have hri : -1 ≤ r ∧ r < 34 := by
          rcases hr with ⟨h1, _⟩ | ⟨h1, h2, _⟩ <;> omega
        rcases hw with ⟨hn, _⟩ | ⟨_, hn, _⟩ | ⟨_, _, hnme, r', hr', hty⟩
        · exact absurd hn hndg
        · exact absurd hnm hn
        · rw [← hnme] at hr
          obtain rfl := kwr_uniq hr' hr
          have hP : tyP M M1 ty nm v := tyP_of hF hF2 (fun _ => by rw [h6, hnme]) (by omega)
          refine ⟨⟨fun _ => by constructor <;> omega, fun _ => by constructor <;> omega⟩, fun y hy => ?_, fun y hy => ?_⟩
          · have : y = ty := by omega
            rw [this]; exact hK M1 hP
          · have : y = ty := by omega
            rw [this]; exact hK M1 hP
      · rcases hw with ⟨hn, _⟩ | ⟨_, _, hty⟩ | ⟨_, hn, _⟩
        · exact absurd hn hndg
        · rw [hty] at hK
          exact hK M1 (tyP_of hF hF2 (fun z => by omega) (by decide))
        · exact absurd hn hnm
end TOK2

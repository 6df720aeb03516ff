section CPARSE2
variable {g : im_g} {d : Nat} {e : im_E} {M M0 : im_M} {K : im_K} {lo dg n : Int} {t : Int → Int} {b nb : Nat}
/-- what the whole parse leaves as it was -/
def FP (lo dg : Int) (M M' : im_M) : Prop := (∀ x, x ≠ 2 → x ≠ 5 → x ≠ 6 → (x < 14 ∨ 27 < x) → M' x = M x) ∧ (∀ k, k < 1 ∨ 6 < k → M' 2 k = M 2 k) ∧ (∀ (x : Nat) (i : Int), 14 ≤ x → x ≤ 21 → i < lo → M' x i = M x i) ∧ (∀ i, i < dg → M' 22 i = M 22 i) ∧ (∀ k, k ≠ 4 → k ≠ 5 → k ≠ 7 → M' 23 k = M 23 k) ∧ cnx M M'
theorem c_faultBehind {a p q ty nm v : Int} (hsh : (im_sh0 ++ e)[b]? = some (0, nb, [])) (hnb : nb ≤ 2147483647) (hb : M 2 1 = b) (hn2 : M 2 2 = n) (h3 : M 2 3 = a) (hnn : n ≤ nb) (ht : txt (M b) t n) (hkw : ∀ i, 0 ≤ i → i < 34 → M 3 i = kwv i) (ha0 : 0 ≤ a) (htk : tkn t n a p q ty nm v) (hd : 5 ≤ d)
    (hK : ∀ M', adP M M' p q ty nm v → K (.inl (some (vI (if ty < 0 then -ty else if ty = 41 then 0 else 9)))) e M') : im_T g d 74 0 [some (.ref 2)] [] e M K := by
  refine k_Reader_faultBehind_0 (by omega) (c_adv hsh hnb hb hn2 h3 hnn ht hkw ha0 htk (by omega) (fun M1 hA => ⟨rfl, rfl, ?_⟩))
  have hK1 := hK M1 hA
  rw [hA.2.2.2.1]
  refine ⟨fun z => by rw [if_pos z] at hK1; exact hK1, fun x hx => ?_⟩
  by_cases h41 : ty = 41
  · rw [if_neg (by omega), if_pos h41] at hK1
    have : x = 0 := by omega
    rw [this]; exact hK1
  · rw [if_neg (by omega), if_neg h41] at hK1
    have : x = 9 := by omega
    rw [this]; exact hK1
theorem c_parse {w0 : Int} (hsh : (im_sh0 ++ e)[b]? = some (0, nb, [])) (hnb : nb ≤ 2147483647) (hb27 : b < 2 ∨ 27 < b) (hnn : n ≤ nb) (hn0 : 0 ≤ n) (hn1 : n ≤ 16384) (ht : txt (M b) t n) (hkw : ∀ i, 0 ≤ i → i < 34 → M 3 i = kwv i) (h13 : M 13 8 = lo) (h10 : M 13 10 = dg) (hdg : 0 ≤ dg) (hdg2 : dg ≤ 16384) (hlo : 0 ≤ lo) (hlo2 : lo ≤ 5000) (hw0 : cn M 26 w0) (hd : 10 ≤ d)
    (hKf : ∀ c p, prsT t n lo w0 = .inl (c, p) → ∀ M', FP lo dg M M' → M' 2 5 = p → K (.inl (some (vI c))) e M')
    (hKs : ∀ S, prsT t n lo w0 = .inr S → ∀ M', FP lo dg M M' → QS lo S → M' 23 7 = S.2.2.1 - lo → 0 ≤ M' 23 5 → M' 23 5 ≤ n + 1 → (∀ i, lo ≤ i → i < S.2.2.1 → rowC M' S.2.1 (dg + M' 23 5) i ∧ ends (S.2.1 1) S.2.2.1 i (M' 15 i)) → K (.inl (some (vI 0))) e M') :
    im_T g d 37 0 [some (.ref 23), some (.ref b), some (vI n), none, none] [] e M K := by
  have hbn := bt_ne hsh
  refine k_Parser_parse_0 hsh hnb (by omega) (k_Reader_open_0 hsh hnb ⟨by constructor <;> omega, by constructor <;> omega, rfl, rfl, ?_⟩)
  rw [Int.min_eq_left hnn]
  generalize hM1 : im_u (im_u (im_u (im_u (im_u (im_u M 2 1 (b : Nat)) 2 2 n) 2 3 0) 23 7 0) 23 5 0) 23 4 0 = M1
  have e1 : ∀ x, x ≠ 2 → x ≠ 23 → M1 x = M x := fun x x1 x2 => by rw [← hM1, im_u_ne _ _ _ x2, im_u_ne _ _ _ x2, im_u_ne _ _ _ x2, im_u_ne _ _ _ x1, im_u_ne _ _ _ x1, im_u_ne _ _ _ x1]
  have e2 : ∀ k, k < 1 ∨ 3 < k → M1 2 k = M 2 k := fun k hk => by rw [← hM1, im_rdn _ _ _ _ (by decide), im_rdn _ _ _ _ (by decide), im_rdn _ _ _ _ (by decide), im_rdk _ _ _ (by omega), im_rdk _ _ _ (by omega), im_rdk _ _ _ (by omega)]
  have e23 : ∀ k, k ≠ 4 → k ≠ 5 → k ≠ 7 → M1 23 k = M 23 k := fun k c1 c2 c3 => by rw [← hM1, im_rdk _ _ _ c1, im_rdk _ _ _ c2, im_rdk _ _ _ c3, im_rdn _ _ _ _ (by decide), im_rdn _ _ _ _ (by decide), im_rdn _ _ _ _ (by decide)]
  have v1 : M1 2 1 = b := by rw [← hM1, im_rdn _ _ _ _ (by decide), im_rdn _ _ _ _ (by decide), im_rdn _ _ _ _ (by decide), im_rdk _ _ _ (by decide), im_rdk _ _ _ (by decide), im_rds]
  have v2 : M1 2 2 = n := by rw [← hM1, im_rdn _ _ _ _ (by decide), im_rdn _ _ _ _ (by decide), im_rdn _ _ _ _ (by decide), im_rdk _ _ _ (by decide), im_rds]
  have v3 : M1 2 3 = 0 := by rw [← hM1, im_rdn _ _ _ _ (by decide), im_rdn _ _ _ _ (by decide), im_rdn _ _ _ _ (by decide), im_rds]
  have u4 : M1 23 4 = 0 := by rw [← hM1, im_rds]
  have u5 : M1 23 5 = 0 := by rw [← hM1, im_rdk _ _ _ (by decide), im_rds]
  have u7 : M1 23 7 = 0 := by rw [← hM1, im_rdk _ _ _ (by decide), im_rdk _ _ _ (by decide), im_rds]
  clear hM1
  have hFP : ∀ {M2 : im_M}, FR lo dg M1 M2 → FP lo dg M M2 := fun {M2} hf => ⟨fun x a b' c d' => (hf.1 x a b' c d').trans (e1 x a (by omega)), fun k a => (hf.2.1 k (by omega)).trans (e2 k (by omega)), fun x i a b' c => by rw [hf.2.2.1 x i a b' c, e1 x (by omega) (by omega)], fun i a => by rw [hf.2.2.2.1 i a, e1 22 (by decide) (by decide)], fun k a b' c => (hf.2.2.2.2.1 k a b' c).trans (e23 k a b' c), fun z => hf.2.2.2.2.2 (let ⟨w, hw⟩ := z; ⟨w, cn_congr hw (e1 26 (by decide) (by decide)) (e1 27 (by decide) (by decide))⟩)⟩
  refine c_push (L := []) ⟨u4, trivial⟩ (by decide) (by decide) (by decide) (fun M2 hF2 hs2 => ⟨rfl, rfl, ?_⟩)
  have hFR2 : FR lo dg M1 M2 := FR.sf hF2
  have hF2' : ∀ x, x ≠ 23 → x ≠ 24 → x ≠ 25 → M2 x = M1 x := hF2.1
  have hbM : M1 b = M b := e1 b (by omega) (by omega)
  have hPI : PI M1 M2 lo dg (bgS lo w0) := by
    refine PI_mk hFR2 (by rw [hF2.2 7 (by decide), u7]; omega) (by rw [hF2.2 5 (by decide), u5]; omega) hs2 (fun i i0 i1 => by omega) (cn_congr hw0 (by rw [hF2' 26 (by decide) (by decide) (by decide), e1 26 (by decide) (by decide)]) (by rw [hF2' 27 (by decide) (by decide) (by decide), e1 27 (by decide) (by decide)])) ⟨fun z => absurd (show (99 : Int) = 98 from z) (by decide), fun z => absurd (show (99 : Int) = 104 from z) (by decide)⟩
  refine l_parse (M0 := M1) (t := t) hsh hnb hb27 v1 v2 hnn hn0 hn1 (by rw [hbM]; exact ht) (fun i i0 i1 => by rw [e1 3 (by decide) (by decide)]; exact hkw i i0 i1) (by rw [e1 13 (by decide) (by decide)]; exact h13) (by rw [e1 13 (by decide) (by decide)]; exact h10) hdg hdg2 (by omega) (n.toNat + 2) 0 0 (bgS lo w0) M2 (by omega) (by omega) hn0 (by omega) (by omega) (QS_bg hlo hlo2) hPI (by rw [hF2' 2 (by decide) (by decide) (by decide)]; exact v3) (Or.inl (by rw [hF2.2 5 (by decide), u5]; omega)) (by show (1 : Int) ≤ 7 * 0 + 1; decide) (fun c p hp M' hf hpl => ?_) (fun S a hp M' hS hQ hI h3 ha0 han hdi => ?_)
  · exact hKf c p (by unfold prsT; rw [hp]) M' (hFP hf) hpl
  · have hk := tk_ok (t := t) han
    have hpr : prsT t n lo w0 = (if (tk t n a).2.2.1 < 0 then .inl (-(tk t n a).2.2.1, (tk t n a).1) else if (tk t n a).2.2.1 = 41 then .inr S else .inl (9, (tk t n a).1)) := by unfold prsT; rw [hp]
    generalize hpp : (tk t n a).1 = p at hk hpr
    generalize hqq : (tk t n a).2.1 = q at hk hpr
    generalize hty : (tk t n a).2.2.1 = ty at hk hpr
    generalize hnm : (tk t n a).2.2.2.1 = nm at hk hpr
    generalize hvv : (tk t n a).2.2.2.2 = v at hk hpr
    obtain ⟨f1, f2, _⟩ := id hI.1
    refine c_faultBehind (t := t) (n := n) (a := a) hsh hnb ((f2 1 (by omega)).trans v1) ((f2 2 (by omega)).trans v2) h3 hnn (by rw [f1 b (by omega) (hbn.2.2.1) (hbn.2.2.2) (by omega), hbM]; exact ht) (fun i i0 i1 => by rw [f1 3 (by decide) (by decide) (by decide) (by decide), e1 3 (by decide) (by decide)]; exact hkw i i0 i1) ha0 hk (by omega) (fun M3 hA => ⟨_, rfl, rfl, ?_⟩)
    have hI3 := PI.ad hI hQ.2.1 hA
    have a5 : M3 2 5 = p := hA.2.2.2.2.1
    by_cases hneg : ty < 0
    · rw [if_pos hneg] at hpr ⊢
      have : -2 ≤ ty := (tkn_q hk (by omega)).2.2.2.1
      exact ⟨by constructor <;> omega, fun _ => hKf _ _ hpr M3 (hFP hI3.1) a5, fun z => by omega⟩
    · rw [if_neg hneg] at hpr ⊢
      by_cases h41 : ty = 41
      · rw [if_pos h41] at hpr ⊢
        refine ⟨by decide, fun z => absurd rfl z, fun _ => ?_⟩
        obtain ⟨i1, i2, i3, i4, i5, i6, i7⟩ := hI3
        obtain ⟨g1, g2, g3, g4, _⟩ := id hQ.1
        have h138 : M3 13 8 = lo := by rw [i1.1 13 (by decide) (by decide) (by decide) (by decide), e1 13 (by decide) (by decide)]; exact h13
        refine c_tellEnds (D := S.2.1 1) hlo g2 g4 h138 i2 (fun i i0 i1' => (i5 i i0 i1').2.1) (fun M4 z1 z2 z3 => ⟨rfl, rfl, ?_⟩)
        have hFR4 : FR lo dg M1 M4 := ⟨fun x a b' c d' => (z1 x (by omega)).trans (i1.1 x a b' c d'), fun k a => by rw [z1 2 (by decide)]; exact i1.2.1 k a, fun x i a b' c => by
          by_cases hx : x = 15
          · subst hx; rw [z2 i (Or.inl c)]; exact i1.2.2.1 15 i a b' c
          · rw [z1 x hx]; exact i1.2.2.1 x i a b' c, fun i a => by rw [z1 22 (by decide)]; exact i1.2.2.2.1 i a, fun k a b' c => by rw [z1 23 (by decide)]; exact i1.2.2.2.2.1 k a b' c, i1.2.2.2.2.2.e (z1 26 (by decide)) (z1 27 (by decide))⟩
        have e5 : M4 23 5 = M3 23 5 := by rw [z1 23 (by decide)]
        have e35 : M3 23 5 = M' 23 5 := by rw [hA.1 23 (by decide) (by decide) (by decide)]
        refine hKs S hpr M4 (hFP hFR4) hQ (by rw [z1 23 (by decide)]; exact i2) (by omega) (by unfold dgI at hdi; omega) (fun i i0 i1' => ⟨?_, z3 i i0 i1'⟩)
        rw [e5]
        obtain ⟨r1, r2, r3, r4, r5, r6, r7, r8, r9⟩ := i5 i i0 i1'
        unfold rowC
        rw [z1 14 (by decide), z1 16 (by decide), z1 17 (by decide), z1 18 (by decide), z1 19 (by decide), z1 20 (by decide), z1 21 (by decide)]
        refine ⟨r1, r2, r3, r4, r5, r6, r7, fun z => ?_, fun z z' => ?_⟩
        · obtain ⟨p', h1, h2⟩ := r8 z
          exact ⟨p', dgs_congr h1 (fun j _ _ => by rw [z1 22 (by decide)]), h2⟩
        · obtain ⟨p', h1, h2⟩ := r9 z z'
          exact ⟨p', (dsq_congr _ h1 (fun j _ _ => by rw [z1 22 (by decide)])).1, h2⟩
      · rw [if_neg h41] at hpr ⊢
        exact ⟨by decide, fun _ => hKf _ _ hpr M3 (hFP hI3.1) a5, fun z => absurd z (by decide)⟩
end CPARSE2

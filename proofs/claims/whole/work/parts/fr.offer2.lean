/-! THE REFERENCE offers: a case, then all -/
theorem chE_odd {R : Rw} {ls c : Int} {q : Nat} (h : q % 2 = 1) (he : R (8 + q / 2) c = R (12 + q / 2) c) : chE R ls c q = [] := by unfold chE; rw [if_pos ⟨h, he⟩]
theorem chE_od2 {R : Rw} {ls c : Int} {q : Nat} (h : q % 2 = 1) (he : R (8 + q / 2) c ≠ R (12 + q / 2) c) : chE R ls c q = [(29, R 4 c, R 5 c, 0, R (12 + q / 2) c, ls)] := by unfold chE; rw [if_neg (fun z => he z.2), if_neg (by omega)]
theorem chE_ev {R : Rw} {ls c : Int} {q : Nat} (h : q % 2 = 0) : chE R ls c q = [(29, R 4 c, R 5 c, 0, R (8 + q / 2) c, ls)] := by unfold chE; rw [if_neg (by omega), if_pos h]
/-- a choice's bound is passed -/
theorem ofP_ch {R : Rw} {Γ : Env} {ls tm c : Int} {p : Nat} {cs : List Int} (h : R 0 c = 29) (hp : (p : Int) < 2 * R 6 c) : ofP R Γ ls tm p (c :: cs) = chE R ls c p ++ ofP R Γ ls tm (p + 1) (c :: cs) := by
  show caB R Γ ls c p ++ ofK R Γ ls tm cs = chE R ls c p ++ (caB R Γ ls c (p + 1) ++ ofK R Γ ls tm cs)
  unfold caB
  rw [if_pos h, if_pos h, show 2 * (R 6 c).toNat - p = (2 * (R 6 c).toNat - (p + 1)) + 1 by omega, chB, List.append_assoc]
theorem ofP_en {R : Rw} {Γ : Env} {ls tm c : Int} {p : Nat} {cs : List Int} (h : R 0 c = 29) (hp : 2 * R 6 c ≤ (p : Int)) : ofP R Γ ls tm p (c :: cs) = ofP R Γ ls tm 0 cs := by
  rw [ofP_0]
  show caB R Γ ls c p ++ ofK R Γ ls tm cs = _
  unfold caB
  rw [if_pos h, show 2 * (R 6 c).toNat - p = 0 by omega]
  rfl
theorem ofP_no {R : Rw} {Γ : Env} {ls tm c : Int} {p : Nat} {cs : List Int} (h : R 0 c ≠ 29) : ofP R Γ ls tm p (c :: cs) = oneB R Γ ls c ++ ofP R Γ ls tm 0 cs := by
  rw [ofP_0]
  show caB R Γ ls c p ++ ofK R Γ ls tm cs = _
  unfold caB
  rw [if_neg h]
section OFFERC
variable {g : im_g} {d : Nat} {e : im_E} {M : im_M} {K : im_K} {R : Rw} {m : Int} {giv : Bk} {l : Lv} {T e0 : Int} {j : Nat}
/-- what a case's offer leaves -/
def oKt (K : im_K) (e : im_E) (M : im_M) (R : Rw) (m : Int) (giv : Bk) (l : Lv) (T : Int) (j : Nat) (c : Int) (cs : List Int) (p : Nat) : Prop := ∀ M' (b : Bool) (c' : Int) (p' : Nat) (o : List Pe), OF j M M' → M' 6952 7 ≤ M 6952 7 + (if R 0 c = 29 then 0 else 302) → TKL M' R m giv l T → M' 7071 j = M 7071 j → M' 7072 j = c' → M' 7073 j = p' → (c' = c ∧ p' = p + 1 ∧ R 0 c = 29 ∧ (p' : Int) < 2 * R 6 c ∨ c' = R 19 c ∧ p' = 0) → (c' = c ∧ p' = p + 1 → ofP R (l.env giv) l.ls (tmo R giv l.nd) p (c :: cs) = o ++ ofP R (l.env giv) l.ls (tmo R giv l.nd) p' (c :: cs)) → (¬ (c' = c ∧ p' = p + 1) → ofP R (l.env giv) l.ls (tmo R giv l.nd) p (c :: cs) = o ++ ofP R (l.env giv) l.ls (tmo R giv l.nd) 0 cs) → (b = true → ∃ q, o = [q] ∧ rRd M' q) → (b = false → o = [] ∧ M' 6952 46 = M 6952 46 ∧ M' 6952 174 = M 6952 174) → K (.inl (some (vI (if b = true then 1 else 0)))) e M'
theorem c_offerOne {c : Int} {cs : List Int} (hW : WFP R m) (hd : 11 ≤ d) (hj : j < 402) (h : TKL M R m giv l T) (c0 : 0 ≤ c) (c1 : c < m) (hk : R 0 c = 28 ∨ R 0 c = 30) (hE : EB R m e0 c) (h7 : M 6952 7 + 660 * (e0 - c) ≤ 1100000) (h174 : M 6952 174 = l.ls) (h73 : M 7073 j = (0 : Nat)) (hK : oKt K e M R m giv l T j c cs 0) : im_T g d 434 0 [some (.ref 6952), some (vI j), some (vI c), none, none, none] [] e M K := by
  have hm := hW.2.1
  obtain ⟨q1, q2, q3, ⟨q4, q5, q6, q7⟩, _⟩ := h.1 c c0 c1
  have kr : ∀ {N : im_M}, RP N R m → N 6960 c = R 0 c - 20 := fun hN => by
    rw [(hN c c0 c1).1]
    unfold kR
    rw [if_neg (by omega), if_neg (by omega), if_neg (by omega), if_neg (by omega), if_neg (by omega), if_pos (by omega)]
  obtain ⟨⟨g1, _⟩, g3, g4, g5, g6⟩ := kids_k (hW.2.2 c c0 c1).1 (by omega)
  obtain ⟨k1, k2, k3, ⟨k4, k4', k4''⟩, k5, k6⟩ := g1 (by omega)
  clear g1 k4' k4'' g6 q3
  replace k5 : Wr (R 0 c = 28 → vkd (R 0 (c + 1))) := k5
  replace k6 : Wr (R 0 c = 30 → okd (R 0 (c + 1))) := k6
  have hE1 : EB R m e0 (c + 1) := hE.kid (by omega) k2 (fun i a b => (by
    have hi : i = c + 1 := by omega
    rw [hi]; omega))
  obtain ⟨⟨e1, he1, he2⟩, -⟩ := hE1
  have hlt1 := he1.1
  have h7' : M 6952 7 + 660 * (e1 - (c + 1)) ≤ 1100000 := by omega
  have hl7' : M 6952 7 + 302 ≤ 1100000 := by omega
  have hm5 : c < 5100 := by omega
  have hn29 : R 0 c ≠ 29 := by omega
  replace he1 : Wr (ends (R 1) m (c + 1) e1) := he1
  clear hE
  refine b_offerCase_0 (by omega) ⟨⟨c0, hm5⟩, fun z => by rw [kr h.1] at z; omega, fun _ => ⟨⟨by omega, by omega⟩, ?_⟩⟩
  rw [q4, q7, k1]
  have F1 := OF.cur (j := j) M (R 19 c) (x := 7072) (by decide)
  have T1 : TKL (im_u M 7072 j (R 19 c)) R m giv l T := h.of F1 (KN_congr h.2.2.2.1.2.1 (fun x a b => im_u_ne _ _ _ (by omega))) (by rw [im_u_ne _ _ _ (by decide)]; exact h.2.2.2.1.2.2)
  have u71 : im_u M 7072 j (R 19 c) 7071 j = M 7071 j := im_rdn _ _ _ _ (by decide)
  have u72 : im_u M 7072 j (R 19 c) 7072 j = R 19 c := im_rds _ _ _ _
  have u73 : im_u M 7072 j (R 19 c) 7073 j = (0 : Nat) := by rw [im_rdn _ _ _ _ (by decide)]; exact h73
  have uk : ∀ k, im_u M 7072 j (R 19 c) 6952 k = M 6952 k := fun k => im_rdn _ _ _ _ (by decide)
  generalize im_u M 7072 j (R 19 c) = M1 at F1 T1 u71 u72 u73 uk
  have hwv : vkd (R 0 (c + 1)) ∨ okd (R 0 (c + 1)) := by
    rcases hk with z | z
    · exact Or.inl (k5 z)
    · exact Or.inr (k6 z)
  have hof := ofP_no (R := R) (Γ := l.env giv) (ls := l.ls) (tm := tmo R giv l.nd) (p := 0) (cs := cs) hn29
  have h302 : (if R 0 c = 29 then (0 : Int) else 302) = 302 := if_neg hn29
  unfold oKt at hK
  rw [h302] at hK
  have no : ∀ {M' : im_M}, WX M1 M' → M' 6952 7 ≤ M1 6952 7 + 302 → (M' 6952 8 = 0 ∨ M' 6952 8 = 1) → (M' 6952 102 = 0 ∨ (M' 6952 102 = 1 ∧ KN M' R m (l.env giv))) → oneB R (l.env giv) l.ls c = [] → K (.inl (some (vI 0))) e M' := fun {M'} X' t' h8 hkn hnil => by
    have h102 : M' 6952 102 = 1 := (X'.2.1 102 (by decide) (by decide) (by decide) (by decide)).trans T1.2.2.2.1.1
    have hkn : KN M' R m (l.env giv) := by
      rcases hkn with z | z
      · omega
      · exact z.2
    rw [hnil] at hof
    exact hK M' false (R 19 c) 0 [] (F1.trans X'.of) (by rw [uk 7] at t'; exact t') (T1.of (j := j) X'.of hkn h8) (by rw [X'.1 7071 (by decide) (by decide) (by decide)]; exact u71) (by rw [X'.1 7072 (by decide) (by decide) (by decide)]; exact u72) (by rw [X'.1 7073 (by decide) (by decide) (by decide)]; exact u73) (Or.inr ⟨rfl, rfl⟩) (fun z => absurd z.2 (by decide)) (fun _ => hof) (fun z => by cases z) (fun _ => ⟨rfl, (X'.2.1 46 (by decide) (by decide) (by decide) (by decide)).trans (uk 46), (X'.2.1 174 (by decide) (by decide) (by decide) (by decide)).trans (uk 174)⟩)
  refine c_rwork hW (by omega) k2 hwv ⟨T1.1, T1.2.1, T1.2.2.1.2.2, by have := T1.2.2.1; omega, by have := T1.2.2.1; omega⟩ he1 (by rw [uk 7]; exact h7') (Or.inr ⟨T1.2.2.2.1.1, T1.2.2.2.1.2.1⟩) (by omega) (fun M2 r x hev X2 h8 t2 hv ho hkn => ⟨_, rfl, rfl, ?_⟩) (fun M2 hev X2 h8 t2 hkn => ⟨_, rfl, rfl, ?_⟩)
  · have h102 : M2 6952 102 = 1 := (X2.2.1 102 (by decide) (by decide) (by decide) (by decide)).trans T1.2.2.2.1.1
    have hkn' : KN M2 R m (l.env giv) := by
      rcases hkn with z | z
      · omega
      · exact z.2
    have T2 : TKL M2 R m giv l T := T1.of (j := j) X2.of hkn' (Or.inl h8)
    rw [h8, kr T2.1]
    have hone : oneB R (l.env giv) l.ls c = if R 0 c = 28 then [(28, R 4 c, R 5 c, R 6 c, x, l.ls)] else if x = 1 then [(30, 0, 0, 0, 0, l.ls)] else [] := by
      unfold oneB
      rw [k1, hev]
    have hl7 : M2 6952 7 ≤ 1100000 := by rw [uk 7] at t2; omega
    have hi30 : R 0 c = 30 → r = x := fun z => ho (k6 z)
    replace hi30 : Wr (R 0 c = 30 → r = x) := hi30
    replace hv : Wr (vkd (R 0 (c + 1)) → rnp M2 0 (M2 6952 7) r x) := hv
    clear ho hkn
    have hri : im_i32 r := by
      rcases hk with z | z
      · obtain ⟨kk, _, r0, r1, _⟩ := hv (k5 z)
        constructor <;> omega
      · have := hi30 z
        rcases ev_01 hW 101 (c + 1) x (by omega) k2 (k6 z) hev with y | y <;> constructor <;> omega
    refine ⟨fun _ _ => hri, fun hor x102 hx => ?_, fun hor => ?_⟩
    · obtain ⟨q, hq, hq1, hq2, hq3, hq4⟩ : ∃ q : Pe, oneB R (l.env giv) l.ls c = [q] ∧ q.1 = R 0 c ∧ (R 0 c ≠ 30 → q.2.1 = R 4 c ∧ q.2.2.1 = R 5 c ∧ rnp M2 0 (M2 6952 7) x102 q.2.2.2.2.1) ∧ (R 0 c = 28 → q.2.2.2.1 = R 6 c) ∧ q.2.2.2.2.2 = l.ls := by
        rcases hk with z | z
        · have hx' : x102 = r := by omega
          rw [hone, if_pos z, hx']
          exact ⟨_, rfl, z.symm, fun _ => ⟨rfl, rfl, hv (k5 z)⟩, fun _ => rfl, rfl⟩
        · have hr1 : r = 1 := by omega
          have hx1 : x = 1 := by have := hi30 z; omega
          rw [hone, if_neg (by omega), if_pos hx1]
          exact ⟨_, rfl, z.symm, fun w => absurd z w, fun w => by omega, rfl⟩
      refine c_inputR (j := j) (p := q) c0 c1 hm T2.1 (by rcases hx with y | y <;> (rw [y.2]; first | decide | exact hri)) (by omega) hq1 hq2 hq3 ?_ (fun M3 F3 t3 h83 hx3 hrd => ⟨rfl, rfl, ?_⟩)
      · rw [X2.2.1 174 (by decide) (by decide) (by decide) (by decide), uk 174, hq4]; exact h174
      · rw [hq] at hof
        exact hK M3 true (R 19 c) 0 [q] ((F1.trans X2.of).trans F3) (by rw [t3, ← uk 7]; exact t2) (T2.of F3 (KN_congr hkn' (fun x a b => hx3 x (by omega))) (by rw [h83]; exact Or.inl h8)) (by rw [hx3 7071 (by decide), X2.1 7071 (by decide) (by decide) (by decide)]; exact u71) (by rw [hx3 7072 (by decide), X2.1 7072 (by decide) (by decide) (by decide)]; exact u72) (by rw [hx3 7073 (by decide), X2.1 7073 (by decide) (by decide) (by decide)]; exact u73) (Or.inr ⟨rfl, rfl⟩) (fun z => absurd z.2 (by decide)) (fun _ => hof) (fun _ => ⟨q, rfl, hrd⟩) (fun z => by cases z)
    · refine no X2 t2 (Or.inl h8) (Or.inr ⟨h102, hkn'⟩) ?_
      rcases hk with z | z
      · omega
      · have hx1 : ¬ x = 1 := by have := hi30 z; omega
        rw [hone, if_neg (by omega), if_neg hx1]
  · have hone : oneB R (l.env giv) l.ls c = [] := by
      unfold oneB
      rw [k1, hev]
    rw [h8]
    exact ⟨fun z => absurd z (by decide), fun z => by omega, fun _ => no X2 (by rw [t2]; omega) (Or.inr h8) hkn hone⟩
theorem c_offerCh {c : Int} {cs : List Int} {p : Nat} (hW : WFP R m) (hd : 11 ≤ d) (hj : j < 402) (h : TKL M R m giv l T) (c0 : 0 ≤ c) (c1 : c < m) (hk : R 0 c = 29) (h6 : T ≤ 1100000) (h174 : M 6952 174 = l.ls) (h72 : M 7072 j = c) (h73 : M 7073 j = p) (hp : (p : Int) < 2 * R 6 c) (hK : oKt K e M R m giv l T j c cs p) : im_T g d 434 0 [some (.ref 6952), some (vI j), some (vI c), none, none, none] [] e M K := by
  have hm := hW.2.1
  have hpr := (hW.2.2 c c0 c1).2.2.2 hk
  obtain ⟨q1, q2, q3, ⟨q4, q5, q6, q7⟩, _, _, q10⟩ := h.1 c c0 c1
  obtain ⟨q10, q11, q12, q13⟩ := q10 hk
  have h36 := h.2.2.2.2.2.1
  have kr : M 6960 c = 9 := by
    rw [q1, hk]; rfl
  have tm2 : (p : Int).tmod 2 = ((p % 2 : Nat) : Int) := by rw [Int.tmod_eq_emod_of_nonneg (by omega)]; omega
  have td2 : (p : Int).tdiv 2 = ((p / 2 : Nat) : Int) := by rw [Int.tdiv_eq_ediv_of_nonneg (by omega)]; omega
  have hof := ofP_ch (R := R) (Γ := l.env giv) (ls := l.ls) (tm := tmo R giv l.nd) (p := p) (cs := cs) hk hp
  obtain ⟨hlo, hhi⟩ := q13 (p / 2) (by omega)
  have hc6 : M 6952 6 ≤ 1100000 := by have := h.2.2.1; omega
  have rg : ∀ {r v : Int}, rnp M 0 (M 6952 6) r v → im_i32 r := fun {r v} hh => by
    obtain ⟨kk, _, r0, r1, _⟩ := hh
    constructor <;> omega
  have hz0 : (if R 0 c = 29 then (0 : Int) else 302) = 0 := if_pos hk
  unfold oKt at hK
  rw [hz0] at hK
  refine b_offerCase_0 (by omega) ⟨⟨c0, by omega⟩, fun _ => ⟨⟨by omega, by omega⟩, ?_⟩, fun z => absurd kr z⟩
  rw [h73, tm2, td2, q10, q7]
  refine ⟨by constructor <;> omega, fun x11 hx11 => ⟨by constructor <;> omega, by constructor <;> omega, ?_⟩⟩
  -- what is done with the new cursor
  have go : ∀ (N : im_M) (c' : Int) (p' : Nat), OF j M N → (∀ x, x ≠ 7072 → x ≠ 7073 → N x = M x) → N 7072 j = c' → N 7073 j = p' → (c' = c ∧ p' = p + 1 ∧ R 0 c = 29 ∧ (p' : Int) < 2 * R 6 c ∨ c' = R 19 c ∧ p' = 0) → (c' = c ∧ p' = p + 1 → ofP R (l.env giv) l.ls (tmo R giv l.nd) (p + 1) (c :: cs) = ofP R (l.env giv) l.ls (tmo R giv l.nd) p' (c :: cs)) → (¬ (c' = c ∧ p' = p + 1) → ofP R (l.env giv) l.ls (tmo R giv l.nd) (p + 1) (c :: cs) = ofP R (l.env giv) l.ls (tmo R giv l.nd) 0 cs) →
      (∀ x31, (x11 = 0 → x31 = M 6973 (M 6971 c + ((p / 2 : Nat) : Int))) → (¬ x11 = 0 → x31 = M 6974 (M 6971 c + ((p / 2 : Nat) : Int)) ∧ R (8 + p / 2) c ≠ R (12 + p / 2) c) → im_T g (d - 1) 435 0 [some (.ref 6952), some (vI c), some (vI x31)] [] e N (im_r0 (fun e_ M35 => e = e_ ∧ K (.inl (some (vI 1))) e M35))) ∧ (¬ x11 = 0 → R (8 + p / 2) c = R (12 + p / 2) c → K (.inl (some (vI 0))) e N) := by
    intro N c' p' F0 nx n72 n73 hor hsame hnext
    have nk : ∀ k, N 6952 k = M 6952 k := fun k => by rw [nx 6952 (by decide) (by decide)]
    have TN : TKL N R m giv l T := h.of F0 (KN_congr h.2.2.2.1.2.1 (fun x a b => nx x (by omega) (by omega))) (by rw [nk 8]; exact h.2.2.2.1.2.2)
    refine ⟨fun x31 y0 y1 => ?_, fun y0 y1 => ?_⟩
    · obtain ⟨q, hq, hq1, hq2, hq4⟩ : ∃ q : Pe, chE R l.ls c p = [q] ∧ q.1 = R 0 c ∧ (q.2.1 = R 4 c ∧ q.2.2.1 = R 5 c ∧ rnp M 0 (M 6952 6) x31 q.2.2.2.2.1) ∧ q.2.2.2.2.2 = l.ls := by
        by_cases z : x11 = 0
        · rw [chE_ev (by omega), y0 z]
          exact ⟨_, rfl, hk.symm, ⟨rfl, rfl, hlo⟩, rfl⟩
        · rw [chE_od2 (by omega) (y1 z).2, (y1 z).1]
          exact ⟨_, rfl, hk.symm, ⟨rfl, rfl, hhi⟩, rfl⟩
      have hrn : rnp N 0 (N 6952 7) x31 q.2.2.2.2.1 := rnp_congr hq2.2.2 (fun i _ => by rw [nx 6955 (by decide) (by decide)]) (by rw [nk 7]; have := h.2.2.1; omega)
      refine c_inputR (j := j) (p := q) c0 c1 hm TN.1 (rg hq2.2.2) (by omega) hq1 (fun _ => ⟨hq2.1, hq2.2.1, hrn⟩) (fun z => by omega) (by rw [nk 174, hq4]; exact h174) (fun M3 F3 t3 h83 hx3 hrd => ⟨rfl, rfl, ?_⟩)
      rw [hq] at hof
      exact hK M3 true c' p' [q] (F0.trans F3) (by rw [t3, nk 7]; omega) (TN.of F3 (KN_congr TN.2.2.2.1.2.1 (fun x a b => hx3 x (by omega))) (by rw [h83]; exact TN.2.2.2.1.2.2)) (by rw [hx3 7071 (by decide), nx 7071 (by decide) (by decide)]) (by rw [hx3 7072 (by decide)]; exact n72) (by rw [hx3 7073 (by decide)]; exact n73) hor (fun z => by rw [hof, hsame z]) (fun z => by rw [hof, hnext z]) (fun _ => ⟨q, rfl, hrd⟩) (fun z => by cases z)
    · rw [chE_odd (by omega) y1] at hof
      exact hK N false c' p' [] F0 (by rw [nk 7]; omega) TN (by rw [nx 7071 (by decide) (by decide)]) n72 n73 hor (fun z => by rw [hof, hsame z]) (fun z => by rw [hof, hnext z]) (fun z => by cases z) (fun _ => ⟨rfl, nk 46, nk 174⟩)
  have ord : ∀ (N : im_M) (Q : im_K), (∀ x, x ≠ 7072 → x ≠ 7073 → N x = M x) → (R (8 + p / 2) c ≠ R (12 + p / 2) c → ∀ z, z ≠ 0 → im_i32 z → Q (.inl (some (vI z))) e N) → (R (8 + p / 2) c = R (12 + p / 2) c → Q (.inl (some (vI 0))) e N) → im_T g (d - 1) 302 0 [some (.ref 6952), some (vI (M 6973 (M 6971 c + ((p / 2 : Nat) : Int)))), some (vI (M 6974 (M 6971 c + ((p / 2 : Nat) : Int))))] [] e N Q := by
    intro N Q nx k1 k2
    obtain ⟨ka, a1, a2, a3, a4⟩ := hlo
    obtain ⟨kb, b1, b2, b3, b4⟩ := hhi
    refine c_order (by rw [nx 6955 (by decide) (by decide)]; exact a1) (by rw [nx 6955 (by decide) (by decide)]; exact b1) a2 b2 (by omega) (by omega) (by omega) (by omega) (by omega) ?_
    by_cases z : R (8 + p / 2) c = R (12 + p / 2) c
    · have : cmpI (R (8 + p / 2) c) (R (12 + p / 2) c) = 0 := by unfold cmpI; rw [if_neg (by omega), if_pos z]
      rw [this]; exact k2 z
    · refine k1 z _ ?_ ?_
      · unfold cmpI; (repeat' split) <;> omega
      · unfold cmpI; (repeat' split) <;> decide
  refine ⟨fun hne => ?_, fun heq => ?_⟩
  · obtain ⟨gA, gB⟩ := go (im_u M 7073 j ((p : Int) + 1)) c (p + 1) (OF.cur M _ (by decide)) (fun x a b => im_u_ne _ _ _ b) (by rw [im_rdn _ _ _ _ (by decide)]; exact h72) (by rw [im_rds]; omega) (Or.inl ⟨rfl, rfl, hk, by omega⟩) (fun _ => rfl) (fun z => absurd ⟨rfl, rfl⟩ z)
    refine ⟨fun z0 => ⟨⟨fun _ => by constructor <;> omega, fun z => absurd z0 z⟩, fun x31 hx31 => gA x31 (fun _ => by omega) (fun z => absurd z0 z)⟩, fun z0 => ⟨by constructor <;> omega, ord _ _ (fun x a b => im_u_ne _ _ _ b) (fun hne z z1 z2 => ⟨_, rfl, rfl, z2, fun w => absurd w z1, fun _ x46 hx46 => gA x46 (fun w => absurd w z0) (fun _ => ⟨?_, hne⟩)⟩) (fun he => ⟨_, rfl, rfl, by decide, fun _ => gB z0 he, fun w => absurd rfl w⟩)⟩⟩
    rw [im_rdn _ _ _ _ (by decide), im_rdn _ _ _ _ (by decide)] at hx46
    rcases hx46 with y | y
    · exact absurd y.1 z0
    · exact y.2
  · have e1 : ∀ x, x ≠ 7072 → x ≠ 7073 → im_u (im_u (im_u M 7073 j ((p : Int) + 1)) 7073 j 0) 7072 j (R 19 c) x = M x := fun x a b => by rw [im_u_ne _ _ _ a, im_u_ne _ _ _ b, im_u_ne _ _ _ b]
    obtain ⟨gA, gB⟩ := go (im_u (im_u (im_u M 7073 j ((p : Int) + 1)) 7073 j 0) 7072 j (R 19 c)) (R 19 c) 0 ((OF.cur M _ (by decide)).trans ((OF.cur _ _ (by decide)).trans (OF.cur _ _ (by decide)))) e1 (im_rds _ _ _ _) (by rw [im_rdn _ _ _ _ (by decide), im_rds]; rfl) (Or.inr ⟨rfl, rfl⟩) (fun z => absurd z.2 (by omega)) (fun _ => ofP_en hk (by omega))
    refine ⟨fun z0 => ⟨⟨fun _ => by constructor <;> omega, fun z => absurd z0 z⟩, fun x31 hx31 => gA x31 (fun _ => by omega) (fun z => absurd z0 z)⟩, fun z0 => ⟨by constructor <;> omega, ord _ _ e1 (fun hne z z1 z2 => ⟨_, rfl, rfl, z2, fun w => absurd w z1, fun _ x46 hx46 => gA x46 (fun w => absurd w z0) (fun _ => ⟨?_, hne⟩)⟩) (fun he => ⟨_, rfl, rfl, by decide, fun _ => gB z0 he, fun w => absurd rfl w⟩)⟩⟩
    rw [e1 6973 (by decide) (by decide), e1 6974 (by decide) (by decide)] at hx46
    rcases hx46 with y | y
    · exact absurd y.1 z0
    · exact y.2
end OFFERC

/-! THE CLASS's levels -/
def cLs (M : im_M) (j : Nat) (l : Lv) : Prop := ∃ b : Nat, M 1794 j = (b : Int) ∧ (cb M (b + 1) 40 l.ac ∧ cb M (b + 87) 40 l.ch ∧ cb M (b + 173) 40 l.lt) ∧ M b 5 = l.nd ∧ M b 4 = l.ls
def cStk (M : im_M) (R : Rw) (m e0 : Int) (giv : Bk) (P : Nat → Pe) : List (Lv × List Pe) → Prop
  | [] => True
  | x :: S => cLs M S.length x.1 ∧ cCu M R m giv S.length x.1 x.2 ∧ lvO R m e0 x.1 x.2 ∧ mu R x.1 + S.length ≤ 103 ∧ (∀ i : Nat, S.length = i + 1 → cPe M i (P i) ∧ peO (P i)) ∧ cStk M R m e0 giv P S
/-- the first n levels stay -/
def QF (n : Nat) (M M' : im_M) : Prop := (∀ i : Nat, i < n → M' 1794 i = M 1794 i ∧ M' 2058 i = M 2058 i ∧ M' 2059 i = M 2059 i ∧ ∀ b : Nat, M 1794 i = (b : Int) → ∀ x, b ≤ x → x < b + 259 → M' x = M x) ∧ (∀ i : Nat, i + 1 < n → (M' 1796 i = M 1796 i ∧ M' 1797 i = M 1797 i ∧ M' 1798 i = M 1798 i ∧ M' 1799 i = M 1799 i ∧ M' 1800 i = M 1800 i ∧ M' 2057 i = M 2057 i) ∧ M' (1801 + 2 * i) = M (1801 + 2 * i) ∧ M' (1801 + 2 * i + 1) = M (1801 + 2 * i + 1))
theorem QF.trans {n : Nat} {M M1 M2 : im_M} (h : QF n M M1) (h' : QF n M1 M2) : QF n M M2 := by
  refine ⟨fun i hi => ?_, fun i hi => ?_⟩
  · obtain ⟨a1, a2, a3, a4⟩ := h.1 i hi
    obtain ⟨b1, b2, b3, b4⟩ := h'.1 i hi
    exact ⟨b1.trans a1, b2.trans a2, b3.trans a3, fun b hb x x1 x2 => (b4 b (a1.trans hb) x x1 x2).trans (a4 b hb x x1 x2)⟩
  · obtain ⟨⟨a1, a2, a3, a4, a5, a6⟩, a7, a8⟩ := h.2 i hi
    obtain ⟨⟨b1, b2, b3, b4, b5, b6⟩, b7, b8⟩ := h'.2 i hi
    exact ⟨⟨b1.trans a1, b2.trans a2, b3.trans a3, b4.trans a4, b5.trans a5, b6.trans a6⟩, b7.trans a7, b8.trans a8⟩
theorem QF.wk {n n' : Nat} {M M' : im_M} (h : QF n M M') (hn : n' ≤ n) : QF n' M M' := ⟨fun i hi => h.1 i (by omega), fun i hi => h.2 i (by omega)⟩
theorem cPe.cg {M M' : im_M} {j : Nat} {p : Pe} (h : cPe M j p) (hs : M' 1796 j = M 1796 j ∧ M' 1797 j = M 1797 j ∧ M' 1798 j = M 1798 j ∧ M' 1799 j = M 1799 j ∧ M' 1800 j = M 1800 j ∧ M' 2057 j = M 2057 j) (h1 : M' (1801 + 2 * j) = M (1801 + 2 * j)) (h2 : M' (1801 + 2 * j + 1) = M (1801 + 2 * j + 1)) : cPe M' j p := by
  obtain ⟨s1, s2, s3, s4, s5, s6⟩ := hs
  obtain ⟨p1, p2, p3, p4⟩ := h
  unfold cPe
  rw [s1, s2, s3, s4, s5, s6]
  exact ⟨p1, fun z => ⟨(p2 z).1, (p2 z).2.1, (p2 z).2.2.1, cn_congr (p2 z).2.2.2 h1 h2⟩, p3, p4⟩
theorem cLs.cg {M M' : im_M} {j : Nat} {l : Lv} (h : cLs M j l) (h1 : M' 1794 j = M 1794 j) (h2 : ∀ b : Nat, M 1794 j = (b : Int) → ∀ x, b ≤ x → x < b + 259 → M' x = M x) : cLs M' j l := by
  obtain ⟨b, b1, ⟨b2, b3, b4⟩, b5, b6⟩ := h
  have hx := h2 b b1
  exact ⟨b, h1.trans b1, ⟨cb_congr b2 (fun x x1 x2 => hx x (by omega) (by omega)), cb_congr b3 (fun x x1 x2 => hx x (by omega) (by omega)), cb_congr b4 (fun x x1 x2 => hx x (by omega) (by omega))⟩, by rw [hx b (by omega) (by omega)]; exact b5, by rw [hx b (by omega) (by omega)]; exact b6⟩
theorem cStk.fr {M M' : im_M} {R : Rw} {m e0 : Int} {giv : Bk} {P P' : Nat → Pe} : ∀ (S : List (Lv × List Pe)), cStk M R m e0 giv P S → QF S.length M M' → (∀ i, i < S.length → P' i = P i) → cStk M' R m e0 giv P' S := by
  intro S
  induction S with
  | nil => intro _ _ _; trivial
  | cons x S ih =>
    intro h hF hP
    have hlen : (x :: S).length = S.length + 1 := rfl
    rw [hlen] at hF hP
    obtain ⟨h1, h2, h3, h4, h5, h6⟩ := h
    obtain ⟨f1, f2, f3, f4⟩ := hF.1 S.length (by omega)
    refine ⟨h1.cg f1 f4, h2.cg f2 f3, h3, h4, fun i hi => ?_, ih h6 (hF.wk (by omega)) (fun i hi => hP i (by omega))⟩
    obtain ⟨g1, g2, g3⟩ := hF.2 i (by omega)
    rw [hP i (by omega)]
    exact ⟨(h5 i hi).1.cg g1 g2 g3, (h5 i hi).2⟩
theorem cStk.pa {M : im_M} {R : Rw} {m e0 : Int} {giv : Bk} {P : Nat → Pe} : ∀ (S : List (Lv × List Pe)), cStk M R m e0 giv P S → ∀ i : Nat, i + 1 < S.length → cPe M i (P i) ∧ peO (P i) := by
  intro S
  induction S with
  | nil => intro _ i hi; exact absurd hi (Nat.not_lt_zero _)
  | cons x S ih =>
    intro h i hi
    obtain ⟨h1, h2, h3, h4, h5, h6⟩ := h
    have hlen : (x :: S).length = S.length + 1 := rfl
    rw [hlen] at hi
    by_cases z : S.length = i + 1
    · exact h5 i z
    · exact ih h6 i (by omega)
/-- levels that stand -/
theorem cLv.at {M : im_M} {e : im_E} {j b : Nat} (h : cLv M e) (hj : j < 128) (hb : M 1794 j = (b : Int)) : 7082 ≤ b ∧ stN e b 0 ∧ cbx M (b + 1) 40 ∧ cbx M (b + 87) 40 ∧ cbx M (b + 173) 40 := by
  rcases h.1 j hj with z | ⟨c, c1, c2⟩
  · omega
  · have : c = b := by omega
    rw [← this]; exact c2
theorem cLv.fr {M M' : im_M} {e : im_E} {j b : Nat} (h : cLv M e) (hj : j < 128) (hb : M 1794 j = (b : Int)) (h94 : M' 1794 = M 1794) (x1 : cbx M' (b + 1) 40) (x2 : cbx M' (b + 87) 40) (x3 : cbx M' (b + 173) 40) (hs : ∀ x, 7082 ≤ x → (x < b ∨ b + 259 ≤ x) → M' x = M x) : cLv M' e := by
  obtain ⟨h1, h2, h3⟩ := h
  refine ⟨fun i hi => ?_, by rw [h94]; exact h2, RB_congr h3 h94⟩
  rw [h94]
  rcases h1 i hi with z | ⟨c, c1, c2, c3, c4, c5, c6⟩
  · exact Or.inl z
  · refine Or.inr ⟨c, c1, c2, c3, ?_⟩
    by_cases z : i = j
    · subst z
      have : c = b := by omega
      subst this
      exact ⟨x1, x2, x3⟩
    · have hd := h2 i j c b hi hj z c1 hb
      exact ⟨cbx_congr c4 (fun x a d => hs x (by omega) (by omega)), cbx_congr c5 (fun x a d => hs x (by omega) (by omega)), cbx_congr c6 (fun x a d => hs x (by omega) (by omega))⟩
theorem cLv.cg {M M' : im_M} {e : im_E} (h : cLv M e) (h94 : M' 1794 = M 1794) (hs : ∀ x, 7082 ≤ x → M' x = M x) : cLv M' e := by
  obtain ⟨h1, h2, h3⟩ := h
  refine ⟨fun i hi => ?_, by rw [h94]; exact h2, RB_congr h3 h94⟩
  rw [h94]
  rcases h1 i hi with z | ⟨c, c1, c2, c3, c4, c5, c6⟩
  · exact Or.inl z
  · exact Or.inr ⟨c, c1, c2, c3, cbx_congr c4 (fun x a d => hs x (by omega)), cbx_congr c5 (fun x a d => hs x (by omega)), cbx_congr c6 (fun x a d => hs x (by omega))⟩
/-- what a search has all the while -/
def CSW (M : im_M) (e : im_E) (R : Rw) (m E : Int) (giv : Bk) (bp : Nat) : Prop := (CP M R m E ∧ NP M ∧ cbx M 1207 60 ∧ (∃ ρ, rw6 M 1333 ρ) ∧ (∃ ρ, rw6 M 1459 ρ) ∧ (∃ w, cn M 934 w)) ∧ ((0 ≤ M 931 10 ∧ M 931 10 ≤ 1000000000000000) ∧ (0 ≤ M 931 11 ∧ M 931 11 ≤ 1000000000000000)) ∧ (bkN e bp 20 ∧ cb M bp 20 giv ∧ M 1793 8 = (bp : Int)) ∧ cLv M e ∧ pN M
theorem CT.csw {M : im_M} {e : im_E} {R : Rw} {m E : Int} {giv : Bk} {st en fl : Int} {s : TS} {b bp : Nat} (h : CT M e R m E giv st en 1 fl s b bp 20) (h8 : M 1793 8 = (bp : Int)) (hl : cLv M e) (hp : pN M) : CSW M e R m E giv bp := by
  obtain ⟨⟨a1, a2, a3, a4, ⟨b1, b2, b3, b4⟩, ⟨a6, a6'⟩, a7, a8⟩, c2, c3, _, c8, c9, c10, c11, _⟩ := h
  exact ⟨⟨c2, c3, c8.2, ⟨_, c9⟩, ⟨_, c10⟩, c11⟩, ⟨by rw [a6]; exact a7, by rw [a6']; exact a8⟩, ⟨a2.2.2.2.2, b4, h8⟩, hl, hp⟩
/-- the machine is aimed at a level -/
theorem CSW.aim {M : im_M} {e : im_E} {R : Rw} {m E : Int} {giv : Bk} {l : Lv} {j b bp : Nat} (h : CSW M e R m E giv bp) (hj : j < 128) (hbp : bpO bp) (hb : M 1794 j = (b : Int)) (hs : (cb M (b + 1) 40 l.ac ∧ cb M (b + 87) 40 l.ch ∧ cb M (b + 173) 40 l.lt) ∧ M b 5 = l.nd ∧ M b 4 = l.ls) : aimd (im_u (im_u (im_u M 931 4 (b : Int)) 931 5 (bp : Int)) 931 6 1) e R m E giv l b bp := by
  obtain ⟨⟨c1, c2, c3, ⟨ρ, c4⟩, ⟨ρ', c5⟩, c6⟩, ⟨r1, r2⟩, ⟨g1, g2, g3⟩, hl, hp⟩ := h
  obtain ⟨b1, ⟨s1, s2, s3, s4, s5⟩, _⟩ := hl.at hj hb
  obtain ⟨⟨d1, d2, d3⟩, d4, d5⟩ := hs
  have ux : ∀ x, x ≠ 931 → im_u (im_u (im_u M 931 4 (b : Int)) 931 5 (bp : Int)) 931 6 1 x = M x := fun x a => by rw [im_u_ne _ _ _ a, im_u_ne _ _ _ a, im_u_ne _ _ _ a]
  have uk : ∀ k, k ≠ 4 → k ≠ 5 → k ≠ 6 → im_u (im_u (im_u M 931 4 (b : Int)) 931 5 (bp : Int)) 931 6 1 931 k = M 931 k := fun k a b c => by rw [im_rdk _ _ _ c, im_rdk _ _ _ b, im_rdk _ _ _ a]
  have u4 : im_u (im_u (im_u M 931 4 (b : Int)) 931 5 (bp : Int)) 931 6 1 931 4 = (b : Int) := by rw [im_rdk _ _ _ (by decide), im_rdk _ _ _ (by decide), im_rds]
  have u5 : im_u (im_u (im_u M 931 4 (b : Int)) 931 5 (bp : Int)) 931 6 1 931 5 = (bp : Int) := by rw [im_rdk _ _ _ (by decide), im_rds]
  have u6 : im_u (im_u (im_u M 931 4 (b : Int)) 931 5 (bp : Int)) 931 6 1 931 6 = 1 := im_rds _ _ _ _
  generalize im_u (im_u (im_u M 931 4 (b : Int)) 931 5 (bp : Int)) 931 6 1 = N at ux uk u4 u5 u6
  refine ⟨by rw [ux b (by omega)]; exact d5, M 931 10, M 931 11, M 931 12, ρ, ρ', M 931 13, ⟨⟨u4, u5⟩, ⟨s1, s2, s3, s4, g1⟩, Or.inr (by omega), by omega, ⟨cb_congr d1 (fun x a d => ux x (by omega)), cb_congr d2 (fun x a d => ux x (by omega)), cb_congr d3 (fun x a d => ux x (by omega)), cb_congr g2 (fun x a d => ux x (by omega))⟩, ⟨uk 10 (by decide) (by decide) (by decide), uk 11 (by decide) (by decide) (by decide)⟩, r1, r2⟩, CP_congr c1 (fun x a d => ux x (by omega)), c2.congr (ux 932 (by decide)) (fun x a d => ux x (by omega)), ⟨uk 12 (by decide) (by decide) (by decide), u6, uk 13 (by decide) (by decide) (by decide), by rw [ux b (by omega)]; exact d4⟩, ⟨fun z => absurd z (by decide), cbx_congr c3 (fun x a d => ux x (by omega))⟩, rw6_congr c4 (fun x a d => ux x (by omega)), rw6_congr c5 (fun x a d => ux x (by omega)), ?_, ⟨by omega, Or.inr rfl, by omega⟩⟩
  obtain ⟨w, c6⟩ := c6
  exact ⟨w, cn_congr c6 (ux _ (by decide)) (ux _ (by decide))⟩
/-- a proposal keeps the levels below -/
theorem PFr.qf {j : Nat} {M M' : im_M} {e : im_E} (h : PFr j M M') (hl : cLv M e) (hj : j < 128) : QF j M M' := by
  refine ⟨fun i hi => ⟨by rw [h.1 1794 (by omega) (by omega) (by omega) (by omega) (by omega) (by omega)], h.2 2058 (by omega) i (by omega), h.2 2059 (by omega) i (by omega), fun b hb x x1 x2 => ?_⟩, fun i hi => ⟨⟨h.2 1796 (by omega) i (by omega), h.2 1797 (by omega) i (by omega), h.2 1798 (by omega) i (by omega), h.2 1799 (by omega) i (by omega), by rw [h.1 1800 (by omega) (by omega) (by omega) (by omega) (by omega) (by omega)], h.2 2057 (by omega) i (by omega)⟩, h.1 _ (by omega) (by omega) (by omega) (by omega) (by omega) (by omega), h.1 _ (by omega) (by omega) (by omega) (by omega) (by omega) (by omega)⟩⟩
  obtain ⟨b1, _⟩ := hl.at (j := i) (by omega) hb
  exact h.1 x (by omega) (by omega) (by omega) (by omega) (by omega) (by omega)
section CPROPO
variable {g : im_g} {d : Nat} {e : im_E} {M : im_M} {K : im_K} {R : Rw} {m E : Int} {giv : Bk} {l : Lv} {j bp : Nat}
theorem c_propose {L : List Pe} (hW : WFP R m) (hj : j < 128) (hbp : bpO bp) (hls : 0 ≤ l.ls ∧ l.ls ≤ 1000000000000000) (n0 : 0 ≤ l.nd) (n1 : l.nd < m) (hd : 109 ≤ d) (hS : CSW M e R m E giv bp) (hl : cLs M j l) (hc : cCu M R m giv j l L)
    (hK1 : ∀ (ex : im_E) M' q L', xcn ex = 0 → L = q :: L' → PFr j M M' → CSW M' (e ++ ex) R m E giv bp → cLs M' j l → cRy M' j q → cCu M' R m giv j l L' → K (.inl (some (vI 1))) (e ++ ex) M') (hK0 : L = [] → ∀ (ex : im_E) M', xcn ex = 0 → PFr j M M' → CSW M' (e ++ ex) R m E giv bp → K (.inl (some (vI 0))) (e ++ ex) M') : im_T g d 240 0 [some (.ref 1793), some (vI j), none, none, none, none] [] e M K := by
  refine k_Search_propose_0 (by omega) (c_level hj hS.2.2.2.1 (by omega) (fun a ex M1 hx0 h1 h2 h3 h4 h5 => ⟨_, rfl, ex, rfl, ?_⟩))
  obtain ⟨b, b1, b2⟩ := hl
  have hM : M1 = M := h5 (by omega)
  subst hM
  have hab : a = b := by omega
  subst hab
  obtain ⟨c1, c2, c3⟩ := h4.at hj h1
  obtain ⟨⟨p1, p2, p3, p4, p5, p6⟩, p7, ⟨p8, p9, p10⟩, p11, p12⟩ := id hS
  have hS' : CSW M1 (e ++ ex) R m E giv bp := ⟨⟨p1, p2, p3, p4, p5, p6⟩, p7, ⟨bkN_app p8, p9, p10⟩, h4, p12⟩
  refine ⟨c2.1, bp, p10, 20, (bkN_app p8).1, k_Machine_aim_0 c2.1 (bkN_app p8).1 ⟨by decide, rfl, rfl, ⟨by omega, by omega⟩, ?_⟩⟩
  have A1 := hS'.aim hj hbp b1 b2
  have ux : ∀ x, x ≠ 931 → im_u (im_u (im_u M1 931 4 (a : Int)) 931 5 (bp : Int)) 931 6 1 x = M1 x := fun x a => by rw [im_u_ne _ _ _ a, im_u_ne _ _ _ a, im_u_ne _ _ _ a]
  generalize im_u (im_u (im_u M1 931 4 (a : Int)) 931 5 (bp : Int)) 931 6 1 = N at A1 ux
  have F1 : PFr j M1 N := ⟨fun x a b c d f i => ux x (by omega), fun x hx q hq => by rw [ux x (by omega)]⟩
  have PN : pN N := p12.cg (fun x hx => ux x (by omega))
  -- what is left of it all
  have bk : ∀ {N' : im_M}, PFr j M1 N' → aimd N' (e ++ ex) R m E giv l a bp → pN N' → CSW N' (e ++ ex) R m E giv bp ∧ cLs N' j l := fun {N'} F' A' P' => by
    obtain ⟨q4, st, en, fl, ρ, ρ', cp, q⟩ := A'
    have f94 : N' 1794 = M1 1794 := F'.1 1794 (by omega) (by omega) (by omega) (by omega) (by omega) (by omega)
    refine ⟨q.csw ?_ ?_ P', a, by rw [f94]; exact b1, ⟨q.1.2.2.2.2.1.1, q.1.2.2.2.2.1.2.1, q.1.2.2.2.2.1.2.2.1⟩, q.2.2.2.1.2.2.2, q4⟩
    · rw [F'.1 1793 (by omega) (by omega) (by omega) (by omega) (by omega) (by omega)]; exact p10
    · exact h4.cg f94 (fun x hx => F'.1 x (by omega) (by omega) (by omega) (by omega) (by omega) (by omega))
  exact c_propAt (M0 := M1) (L := L) hW hj c1 hbp hls n0 n1 (by omega) A1 PN F1 (hc.cg (by rw [ux 2058 (by decide)]) (by rw [ux 2059 (by decide)])) (fun M' q L' hL F' A' P' rd cu => hK1 ex M' q L' hx0 hL F' (bk F' A' P').1 (bk F' A' P').2 rd cu) (fun hL M' F' A' P' => hK0 hL ex M' hx0 F' (bk F' A' P').1)
end CPROPO

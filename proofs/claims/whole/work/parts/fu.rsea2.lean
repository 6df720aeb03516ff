/-! THE REFERENCE keeps a level; it runs a try -/
section KEEPV
variable {g : im_g} {d : Nat} {e : im_E} {M : im_M} {K : im_K} {R : Rw} {m : Int} {giv : Bk} {l : Lv} {T e0 : Int} {j : Nat}
/-- the state that is to be kept -/
def KPL (M : im_M) (R : Rw) (m : Int) (giv : Bk) (l : Lv) (T : Int) : Prop := RP M R m ∧ (∃ st en, RE M (l.ac, l.ch, l.lt, giv, st, en) T) ∧ (0 ≤ T ∧ M 6952 7 = T) ∧ (M 6952 83 = l.nd ∧ M 6952 84 = l.ls)
theorem c_keepLevel (hW : WFP R m) (hd : 4 ≤ d) (hj : j < 402) (h : KPL M R m giv l T) (h7 : T + 22 ≤ 1100000) (n0 : 0 ≤ l.nd) (n1 : l.nd < m) (hkd : 0 ≤ R 0 l.nd ∧ R 0 l.nd ≤ 5) (hT : R 0 l.nd = 3 → R 5 l.nd ≠ 0 → 0 ≤ hld giv (R 5 l.nd) 0 ∧ hld giv (R 5 l.nd) 0 ≤ 1000000000000000)
    (hK : ∀ N, (∀ x, x ≠ 6952 → (x < 6955 ∨ 6958 < x) → (x < 7057 ∨ 7073 < x) → N x = M x) → (∀ k, k ≠ 7 → k ≠ 8 → k ≠ 122 → k ≠ 124 → N 6952 k = M 6952 k) → (N 6952 7 = T ∧ N 6952 8 = M 6952 8) → STp j T M N → rLv N j l.nd l.ls T l.ac l.ch l.lt → rCu N R m giv j l (ofs R giv l) → K (.inl none) e N) : im_T g d 431 0 [some (.ref 6952), some (vI j), none, none] [] e M K := by
  obtain ⟨h1, ⟨st, en, h2⟩, ⟨hT0, h77⟩, h83, h84⟩ := h
  have hm := hW.2.1
  refine c_keepBooks (ac := l.ac) (ch := l.ch) (lt := l.lt) hj (by omega) h83 h84 h77 h2.1 h2.2.1 h2.2.2.1 (fun N hN hlw hrl => ?_)
  have hk5 := kR_5 (k := R 0 l.nd) (a := R 3 l.nd) (by unfold knd; omega) (hW.2.2 l.nd n0 n1).2.1.2.2.2
  have hk1 := kR_1 (k := R 0 l.nd) (a := R 3 l.nd) hkd (hW.2.2 l.nd n0 n1).2.1.2.2.2
  have n52 : N 6952 = M 6952 := hN 6952 (by decide)
  have kk : N 6960 l.nd = kR (R 0 l.nd) (R 3 l.nd) := by rw [hN 6960 (by decide)]; exact (h1 l.nd n0 n1).1
  have h85 : M 6952 85 = (l.ac.1 : Int) := h2.1.1
  have h93 : M 6952 93 = (l.lt.1 : Int) := h2.2.2.1.1
  have hl40 : l.lt.1 ≤ 40 := h2.2.2.1.2.1
  have RPN : RP N R m := RP_congr h1 (by rw [n52]) (by rw [n52]) (fun x a b => hN x (by omega)) (fun i _ => by rw [hN 6955 (by decide)])
  have REN : RE N (l.ac, l.ch, l.lt, giv, st, en) T := RE_congr h2 (fun k _ _ => by rw [n52]) (fun x a b => hN x (by omega)) (fun i _ => by rw [hN 6955 (by decide)]) (Int.le_refl _)
  -- what stands in the end
  have fin : ∀ (Q : im_M) (s c : Int), WX N Q → Q 6952 7 = N 6952 7 → Q 6952 8 = N 6952 8 → (∀ x, 7034 ≤ x → Q x = N x) → (∀ F : im_M, F 7071 j = s → F 7072 j = c → F 7073 j = (0 : Nat) → rCu F R m giv j l (ofs R giv l)) → K (.inl none) e (im_u (im_u (im_u Q 7071 j s) 7072 j c) 7073 j 0) := by
    intro Q s c X1 t1 t8 hx hcu
    generalize hF : im_u (im_u (im_u Q 7071 j s) 7072 j c) 7073 j 0 = F
    have fx : ∀ x, x ≠ 7071 → x ≠ 7072 → x ≠ 7073 → F x = Q x := fun x a b c => by rw [← hF, im_u_ne _ _ _ c, im_u_ne _ _ _ b, im_u_ne _ _ _ a]
    have up : ∀ (N : im_M) (a : Nat) (v : Int) (x : Nat) (q : Int), q ≠ (j : Int) → im_u N a j v x q = N x q := fun N a v x q hq => by
      by_cases z : x = a
      · rw [z, im_rdk _ _ _ hq]
      · rw [im_rdn _ _ _ _ z]
    have fq : ∀ x q, q ≠ (j : Int) → F x q = Q x q := fun x q a => by rw [← hF, up _ _ _ _ _ a, up _ _ _ _ _ a, up _ _ _ _ _ a]
    have f71 : F 7071 j = s := by rw [← hF, im_rdn _ _ _ _ (by decide), im_rdn _ _ _ _ (by decide), im_rds]
    have f72 : F 7072 j = c := by rw [← hF, im_rdn _ _ _ _ (by decide), im_rds]
    have f73 : F 7073 j = (0 : Nat) := by rw [← hF, im_rds]; rfl
    clear hF
    have fk : ∀ k, F 6952 k = Q 6952 k := fun k => by rw [fx 6952 (by decide) (by decide) (by decide)]
    have p5 : ∀ i, i < T → F 6955 i = N 6955 i := fun i hi => by rw [fx 6955 (by decide) (by decide) (by decide)]; exact X1.2.2.1 i (by rw [n52, h77]; exact hi)
    have fr : ∀ x, x ≠ 6952 → (x < 6955 ∨ 6958 < x) → (x < 7034 ∨ 7070 < x) → x ≠ 7071 → x ≠ 7072 → x ≠ 7073 → F x = M x := fun x a b c d f i => by
      rw [fx x d f i]
      by_cases z : x < 7034 ∨ 7041 < x
      · rw [X1.1 x a b z, hN x (by omega)]
      · rw [hx x (by omega), hN x (by omega)]
    have frg : ∀ x, x ≠ 6952 → (x < 6955 ∨ 6958 < x) → (x < 7057 ∨ 7073 < x) → F x = M x := fun x a b c => by
      rw [fx x (by omega) (by omega) (by omega)]
      by_cases z : x < 7034 ∨ 7041 < x
      · rw [X1.1 x a b z, hN x (by omega)]
      · rw [hx x (by omega), hN x (by omega)]
    have lo : ∀ x, 7057 ≤ x → x ≤ 7073 → ∀ q, q ≠ (j : Int) → F x q = N x q := fun x a b q hq => by rw [fq x q hq, hx x (by omega)]
    have lb : ∀ x, 7057 ≤ x → x ≤ 7070 → F x = N x := fun x a b => by rw [fx x (by omega) (by omega) (by omega), hx x (by omega)]
    refine hK F frg (fun k a b c d => by rw [fk k, X1.2.1 k a b c d, n52]) ⟨by rw [fk 7, t1, n52, h77], by rw [fk 8, t8, n52]⟩ ⟨fun x a b c d f i => frg x a b (by omega), fun k a => by rw [fk k, X1.2.1 k a.1 a.2.1 a.2.2.2.2.2.2.2.2.2.2.2.2.2.2.2.1 a.2.2.2.2.2.2.2.2.2.2.2.2.2.2.2.2.1, n52], fun i hi => by rw [p5 i hi, hN 6955 (by decide)], fun x a b q hq => ?_, fun x a q hq => by rw [lb x (by omega) (by omega)]; exact hlw.2 x a q hq⟩ ?_ (hcu F f71 f72 f73)
    · by_cases z : x ≤ 7073
      · rw [lo x a z q (by omega)]
        exact hlw.1 x a z q hq
      · rw [frg x (by omega) (by omega) (by omega)]
    · obtain ⟨⟨e1, e2, e3⟩, ⟨a1, a2, a3⟩, ⟨b1, b2, b3⟩, ⟨c1, c2, c3, c4⟩⟩ := hrl
      refine ⟨⟨by rw [lb _ (by decide) (by decide)]; exact e1, by rw [lb _ (by decide) (by decide)]; exact e2, by rw [lb _ (by decide) (by decide)]; exact e3⟩, ⟨by rw [lb _ (by decide) (by decide)]; exact a1, a2, fun i hi => ?_⟩, ⟨by rw [lb _ (by decide) (by decide)]; exact b1, b2, fun i hi => ?_⟩, ⟨by rw [lb _ (by decide) (by decide)]; exact c1, c2, c3, fun i hi => ?_⟩⟩
      · rw [lb 7061 (by decide) (by decide), lb 7062 (by decide) (by decide), lb 7063 (by decide) (by decide)]
        exact ⟨(a3 i hi).1, rnp_congr (a3 i hi).2 p5 (Int.le_refl _)⟩
      · rw [lb 7065 (by decide) (by decide), lb 7066 (by decide) (by decide), lb 7067 (by decide) (by decide)]
        exact ⟨(b3 i hi).1, rnp_congr (b3 i hi).2 p5 (Int.le_refl _)⟩
      · rw [lb 7069 (by decide) (by decide), lb 7070 (by decide) (by decide)]
        exact ⟨(c4 i hi).1, rnp_congr (c4 i hi).2 p5 (Int.le_refl _)⟩
  have e83 : N 6952 83 = l.nd := by rw [n52]; exact h83
  have e84 : N 6952 84 = l.ls := by rw [n52]; exact h84
  have e85 : N 6952 85 = (l.ac.1 : Int) := by rw [n52]; exact h85
  have e93 : N 6952 93 = (l.lt.1 : Int) := by rw [n52]; exact h93
  refine b_keepLevel_196 (by omega) ?_
  rw [e83, e84, e85, e93, kk]
  refine ⟨by constructor <;> omega, fun _ => ⟨⟨by omega, by omega⟩, fun hn5 => ⟨fun hc1 hz => ⟨⟨by omega, by omega⟩, fin N 3 (-1) (WX.rf N) rfl rfl (fun _ _ => rfl) (fun F f1 f2 f3 => Or.inr (Or.inl ⟨f1, ?_⟩))⟩, fun hor => ⟨⟨by omega, by omega⟩, fin N 0 (-1) (WX.rf N) rfl rfl (fun _ _ => rfl) (fun F f1 f2 f3 => Or.inl ⟨f1, ?_⟩)⟩⟩, fun h5 => ?_⟩, fun z => by omega⟩
  · unfold ofs
    rw [if_pos ⟨hk1.mp hc1, by omega⟩]
  · unfold ofs
    rw [if_neg (fun w => ?_), if_neg (fun w => hn5 (hk5.1.mpr w.1))]
    have := hk1.mpr w.1
    rcases hor with y | y
    · exact y this
    · exact y.2 (by omega)
  · have h3 := hk5.1.mp h5
    have h4 := (hW.2.2 l.nd n0 n1).2.1.2.2.1 h3
    have h0 := (hW.2.2 l.nd n0 n1).2.1.1
    refine c_timeE (giv := giv) RPN REN rfl (by rw [n52, h77]; exact Int.le_refl _) (by rw [n52, h77]; exact hT0) hm n0 n1 h3 (hT h3) (by rw [n52, h77]; exact h7) (by omega) (fun Q X1 t1 t8 hx => ⟨_, rfl, rfl, ?_, ?_⟩)
    · unfold tmo
      split
      · constructor <;> omega
      · exact asT_i64 _
    · have q83 : Q 6952 83 = l.nd := (X1.2.1 83 (by decide) (by decide) (by decide) (by decide)).trans e83
      have q85 : Q 6952 85 = (l.ac.1 : Int) := (X1.2.1 85 (by decide) (by decide) (by decide) (by decide)).trans e85
      have q64 : Q 6964 l.nd = R 16 l.nd := by rw [X1.1 6964 (by decide) (by decide) (by decide)]; exact (RPN l.nd n0 n1).2.2.2.1.1
      rw [q83, q85, q64]
      have hn1 : ¬ kR (R 0 l.nd) (R 3 l.nd) = 1 := fun w => by have := hk1.mp w; omega
      have hn0 : ¬ (R 0 l.nd = 0 ∧ l.ac.1 = 0) := fun w => by omega
      refine ⟨fun hle => ⟨fun w => absurd w hn1, fun _ => ⟨⟨by omega, by omega⟩, fin Q 0 (-1) X1 t1 t8 hx (fun F f1 f2 f3 => Or.inl ⟨f1, ?_⟩)⟩⟩, fun hlt => ⟨fun w => absurd w hn1, fun _ => ⟨⟨by omega, by omega⟩, ⟨n0, by omega⟩, fin Q 1 (R 16 l.nd) X1 t1 t8 hx (fun F f1 f2 f3 => ?_)⟩⟩⟩
      · unfold ofs
        rw [if_neg hn0, if_neg (fun w => by omega)]
      · obtain ⟨cs, q0, c1, c2, c3, c4, c5, c6, c7⟩ := kids_w (hW.2.2 _ n0 n1).1 h3
        have hofs : ofs R giv l = ofP R (l.env giv) l.ls (tmo R giv l.nd) 0 cs := by
          unfold ofs
          rw [if_neg hn0, if_pos ⟨h3, hlt⟩, csO_chc cs l.nd (R 16 l.nd) 9 n0 (Int.le_refl _) c1 (by omega), ofP_0]
        rw [hofs]
        refine cuO.cu (pp := l.nd) ⟨⟨q0, by rw [f2]; exact c1⟩, Int.le_refl _, fun q a b => by omega, c2, fun c cs' hc => ⟨fun h29 => ?_, fun _ => rfl⟩⟩ h3 f1 f3
        rw [hc] at c1
        obtain ⟨b1, b2, b3, b4, b5, b6⟩ := c1
        have hlt2 := nxt_lt b2
        have := (hW.2.2 c (by omega) b5).2.2.2 h29
        omega
/-- a try stands ready to be run -/
theorem TKL.rt {ρ ρ' : Rl} {cp : Int} (h : TKL M R m giv l T) : RT (rs0 M) R m giv l.ls l.ls 1 (l.ts ρ ρ' cp).fresh := by
  obtain ⟨c1, ⟨r1, r2, r3, ⟨r4, r5, r6⟩, r7, r8, r9⟩, ⟨c3, c4, c5⟩, ⟨c6, c7, c8⟩, c9, c10, c11, c12⟩ := h
  have sx : ∀ x, x ≠ 6952 → rs0 M x = M x := fun x a => by unfold rs0; rw [im_u_ne _ _ _ a, im_u_ne _ _ _ a, im_u_ne _ _ _ a, im_u_ne _ _ _ a]
  have sk : ∀ k, k ≠ 101 → k ≠ 104 → k ≠ 110 → k ≠ 103 → rs0 M 6952 k = M 6952 k := fun k a b c d => by unfold rs0; rw [im_rdk _ _ _ d, im_rdk _ _ _ c, im_rdk _ _ _ b, im_rdk _ _ _ a]
  have s103 : rs0 M 6952 103 = 0 := im_rds _ _ _ _
  have s110 : rs0 M 6952 110 = 0 := by unfold rs0; rw [im_rdk _ _ _ (by decide), im_rds]
  have s104 : rs0 M 6952 104 = 0 := by unfold rs0; rw [im_rdk _ _ _ (by decide), im_rdk _ _ _ (by decide), im_rds]
  have s101 : rs0 M 6952 101 = 0 := by unfold rs0; rw [im_rdk _ _ _ (by decide), im_rdk _ _ _ (by decide), im_rdk _ _ _ (by decide), im_rds]
  have p5 : ∀ i, rs0 M 6955 i = M 6955 i := fun i => by rw [sx 6955 (by decide)]
  have e7 := sk 7 (by decide) (by decide) (by decide) (by decide)
  refine ⟨RP_congr c1 (sk 6 (by decide) (by decide) (by decide) (by decide)) (sk 36 (by decide) (by decide) (by decide) (by decide)) (fun x a b => sx x (by omega)) (fun i _ => p5 i), ⟨?_, ?_, ?_, ⟨?_, r5, r6⟩, ?_, r8, r9⟩, ?_, ⟨?_, s101, s103⟩, ⟨?_, Or.inr ⟨rfl, ?_⟩, ?_⟩, ⟨?_, ?_, fun z => absurd z (by decide)⟩, ?_, ?_⟩
  · exact rb2_congr r1 (sk 85 (by decide) (by decide) (by decide) (by decide)) (sx _ (by decide)) (sx _ (by decide)) (sx _ (by decide)) (fun i _ => p5 i) (by rw [e7]; exact c5)
  · exact rb2_congr r2 (sk 89 (by decide) (by decide) (by decide) (by decide)) (sx _ (by decide)) (sx _ (by decide)) (sx _ (by decide)) (fun i _ => p5 i) (by rw [e7]; exact c5)
  · exact rb1_congr r3 (sk 93 (by decide) (by decide) (by decide) (by decide)) (sx _ (by decide)) (sx _ (by decide)) (fun i _ => p5 i) (by rw [e7]; exact c5)
  · exact rb1_congr r4 (sk 96 (by decide) (by decide) (by decide) (by decide)) (sx _ (by decide)) (sx _ (by decide)) (fun i _ => p5 i) (by rw [e7]; exact c5)
  · rw [sk 99 (by decide) (by decide) (by decide) (by decide), sk 100 (by decide) (by decide) (by decide) (by decide)]; exact r7
  · rw [sk 6 (by decide) (by decide) (by decide) (by decide), e7]; exact ⟨by omega, by omega⟩
  · rw [sk 83 (by decide) (by decide) (by decide) (by decide)]; exact c11
  · rw [sk 102 (by decide) (by decide) (by decide) (by decide)]; exact c6
  · exact KN_congr c7 (fun x a b => sx x (by omega))
  · rw [sk 8 (by decide) (by decide) (by decide) (by decide)]; exact c8
  · rw [sk 116 (by decide) (by decide) (by decide) (by decide)]; exact c9.1
  · rw [sk 116 (by decide) (by decide) (by decide) (by decide)]; exact c9.2
  · exact ⟨s104, Nat.zero_le _, fun i hi => absurd hi (Nat.not_lt_zero i)⟩
  · exact ⟨s110, Nat.zero_le _, fun i hi => absurd hi (Nat.not_lt_zero i)⟩
end KEEPV

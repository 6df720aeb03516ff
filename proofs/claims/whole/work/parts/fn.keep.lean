/-! A LEVEL of the reference's search: kept -/
def kp3 (M N : im_M) (cA cB cN sA sB sN : Nat) (o : Int) (k : Nat) : Prop := (∀ x, x ≠ cA → x ≠ cB → x ≠ cN → N x = M x) ∧ (∀ i : Nat, i < k → N cA (o + i) = M sA i ∧ N cB (o + i) = M sB i ∧ N cN (o + i) = M sN i) ∧ ∀ q, q < o → N cA q = M cA q ∧ N cB q = M cB q ∧ N cN q = M cN q
def kp2 (M N : im_M) (cA cN sA sN : Nat) (o : Int) (k : Nat) : Prop := (∀ x, x ≠ cA → x ≠ cN → N x = M x) ∧ (∀ i : Nat, i < k → N cA (o + i) = M sA i ∧ N cN (o + i) = M sN i) ∧ ∀ q, q < o → N cA q = M cA q ∧ N cN q = M cN q
theorem kp3.st {M N : im_M} {cA cB cN sA sB sN : Nat} {o : Int} {k : Nat} (h : kp3 M N cA cB cN sA sB sN o k) (hd : cA ≠ cB ∧ cA ≠ cN ∧ cB ≠ cN) (hA : sA ≠ cA ∧ sA ≠ cB ∧ sA ≠ cN) (hB : sB ≠ cA ∧ sB ≠ cB ∧ sB ≠ cN) (hN : sN ≠ cA ∧ sN ≠ cB ∧ sN ≠ cN) : kp3 M (im_u (im_u (im_u N cA (o + k) (N sA k)) cB (o + k) (N sB k)) cN (o + k) (N sN k)) cA cB cN sA sB sN o (k + 1) := by
  obtain ⟨h1, h2, h3⟩ := h
  refine ⟨fun x a b c => by rw [im_u_ne _ _ _ c, im_u_ne _ _ _ b, im_u_ne _ _ _ a]; exact h1 x a b c, fun i hi => ?_, fun q hq => ?_⟩
  all_goals
    rw [im_u_ne _ _ _ hd.2.1, im_u_ne _ _ _ hd.1, im_u_ne _ _ _ hd.2.2, im_rdx, im_rdx, im_rdx, im_u_ne _ _ _ (Ne.symm hd.1), im_u_ne _ _ _ (Ne.symm hd.2.2), im_u_ne _ _ _ (Ne.symm hd.2.1)]
  · rw [h1 sA hA.1 hA.2.1 hA.2.2, h1 sB hB.1 hB.2.1 hB.2.2, h1 sN hN.1 hN.2.1 hN.2.2]
    by_cases z : i = k
    · subst z
      rw [if_pos rfl, if_pos rfl, if_pos rfl]
      exact ⟨rfl, rfl, rfl⟩
    · have z' : ¬ o + (i : Int) = o + (k : Int) := fun q => z (by omega)
      rw [if_neg z', if_neg z', if_neg z']
      exact h2 i (by omega)
  · have z' : ¬ q = o + (k : Int) := by omega
    rw [if_neg z', if_neg z', if_neg z']
    exact h3 q hq
theorem kp2.st {M N : im_M} {cA cN sA sN : Nat} {o : Int} {k : Nat} (h : kp2 M N cA cN sA sN o k) (hd : cA ≠ cN) (hA : sA ≠ cA ∧ sA ≠ cN) (hN : sN ≠ cA ∧ sN ≠ cN) : kp2 M (im_u (im_u N cA (o + k) (N sA k)) cN (o + k) (N sN k)) cA cN sA sN o (k + 1) := by
  obtain ⟨h1, h2, h3⟩ := h
  refine ⟨fun x a c => by rw [im_u_ne _ _ _ c, im_u_ne _ _ _ a]; exact h1 x a c, fun i hi => ?_, fun q hq => ?_⟩
  all_goals
    rw [im_u_ne _ _ _ hd, im_rdx, im_rdx, im_u_ne _ _ _ (Ne.symm hd)]
  · rw [h1 sA hA.1 hA.2, h1 sN hN.1 hN.2]
    by_cases z : i = k
    · subst z
      rw [if_pos rfl, if_pos rfl]
      exact ⟨rfl, rfl⟩
    · have z' : ¬ o + (i : Int) = o + (k : Int) := fun q => z (by omega)
      rw [if_neg z', if_neg z']
      exact h2 i (by omega)
  · have z' : ¬ q = o + (k : Int) := by omega
    rw [if_neg z', if_neg z']
    exact h3 q hq
theorem RT.lv {M M' : im_M} {R : Rw} {m : Int} {giv : Bk} {st en lk : Int} {s : TS} (h : RT M R m giv st en lk s) (hs : ∀ x, x < 7057 → M' x = M x) : RT M' R m giv st en lk s := by
  obtain ⟨c1, ⟨r1, r2, r3, ⟨r4, r5, r6⟩, r7, r8, r9⟩, c3, c4, ⟨c5, ck, c6⟩, ⟨c7, c8, c9⟩, d1, d2⟩ := h
  have hf : ∀ k, M' 6952 k = M 6952 k := fun k => by rw [hs 6952 (by decide)]
  have e7 := hf 7
  have hp : ∀ T i, i < T → M' 6955 i = M 6955 i := fun _ i _ => by rw [hs 6955 (by decide)]
  refine ⟨RP_congr c1 (hf 6) (hf 36) (fun x a b => hs x (by omega)) (fun i _ => by rw [hs 6955 (by decide)]), ⟨?_, ?_, ?_, ⟨?_, r5, r6⟩, ?_, r8, r9⟩, ?_, ?_, ⟨?_, ck.imp id (fun z => ⟨z.1, KN_congr z.2 (fun x a b => hs x (by omega))⟩), ?_⟩, ⟨?_, ?_, fun z => ?_⟩, ?_, ?_⟩
  · rw [e7]; exact rb2_congr r1 (hf _) (hs _ (by decide)) (hs _ (by decide)) (hs _ (by decide)) (hp _) (Int.le_refl _)
  · rw [e7]; exact rb2_congr r2 (hf _) (hs _ (by decide)) (hs _ (by decide)) (hs _ (by decide)) (hp _) (Int.le_refl _)
  · rw [e7]; exact rb1_congr r3 (hf _) (hs _ (by decide)) (hs _ (by decide)) (hp _) (Int.le_refl _)
  · rw [e7]; exact rb1_congr r4 (hf _) (hs _ (by decide)) (hs _ (by decide)) (hp _) (Int.le_refl _)
  · rw [hf 99, hf 100]; exact r7
  · rw [e7, hf 6]; exact c3
  · rw [hf 83, hf 101, hf 103]; exact c4
  · rw [hf 102]; exact c5
  · rw [hf 8]; exact c6
  · rw [hf 116]; exact c7
  · rw [hf 116]; exact c8
  · rw [e7]; exact rwl_congr (c9 z) (hf _) (hs _ (by decide)) (hs _ (by decide)) (hs _ (by decide)) (hp _) (Int.le_refl _)
  · rw [e7]; exact rr5_congr d1 (hf _) (hs _ (by decide)) (hs _ (by decide)) (hs _ (by decide)) (hs _ (by decide)) (hs _ (by decide)) (hp _) (Int.le_refl _)
  · rw [e7]; exact rr5_congr d2 (hf _) (hs _ (by decide)) (hs _ (by decide)) (hs _ (by decide)) (hs _ (by decide)) (hs _ (by decide)) (hp _) (Int.le_refl _)
/-- the levels below stay -/
def lwF (M N : im_M) (j : Int) : Prop := (∀ x, 7057 ≤ x → x ≤ 7073 → ∀ q, q < j → N x q = M x q) ∧ ∀ x, (x = 7061 ∨ x = 7062 ∨ x = 7063 ∨ x = 7065 ∨ x = 7066 ∨ x = 7067 ∨ x = 7069 ∨ x = 7070) → ∀ q, q < 40 * j → N x q = M x q
theorem rLv.lw {M N : im_M} {j j' nd ls T : Int} {ac ch lt : Bk} (h : rLv M j' nd ls T ac ch lt) (hF : lwF M N j) (hj : j' < j) (hp : ∀ i, i < T → N 6955 i = M 6955 i) : rLv N j' nd ls T ac ch lt := by
  obtain ⟨⟨e1, e2, e3⟩, ⟨a1, a2, a3⟩, ⟨b1, b2, b3⟩, ⟨c1, c2, c3, c4⟩⟩ := h
  obtain ⟨f1, f2⟩ := hF
  refine ⟨⟨by rw [f1 7057 (by decide) (by decide) j' hj]; exact e1, by rw [f1 7058 (by decide) (by decide) j' hj]; exact e2, by rw [f1 7059 (by decide) (by decide) j' hj]; exact e3⟩, ⟨by rw [f1 7060 (by decide) (by decide) j' hj]; exact a1, a2, fun i hi => ?_⟩, ⟨by rw [f1 7064 (by decide) (by decide) j' hj]; exact b1, b2, fun i hi => ?_⟩, ⟨by rw [f1 7068 (by decide) (by decide) j' hj]; exact c1, c2, c3, fun i hi => ?_⟩⟩
  · rw [f2 7061 (by decide) _ (by omega), f2 7062 (by decide) _ (by omega), f2 7063 (by decide) _ (by omega)]
    exact ⟨(a3 i hi).1, rnp_congr (a3 i hi).2 hp (Int.le_refl _)⟩
  · rw [f2 7065 (by decide) _ (by omega), f2 7066 (by decide) _ (by omega), f2 7067 (by decide) _ (by omega)]
    exact ⟨(b3 i hi).1, rnp_congr (b3 i hi).2 hp (Int.le_refl _)⟩
  · rw [f2 7069 (by decide) _ (by omega), f2 7070 (by decide) _ (by omega)]
    exact ⟨(c4 i hi).1, rnp_congr (c4 i hi).2 hp (Int.le_refl _)⟩
section KEEPL
variable {g : im_g} {d : Nat} {e : im_E} {M : im_M} {K : im_K}
/-- the state is put to the level; what its end asks stands for itself -/
theorem c_keepBooks {j : Nat} {nd ls T : Int} {ac ch lt : Bk} (hj : j < 402) (hd : 1 ≤ d) (h83 : M 6952 83 = nd) (h84 : M 6952 84 = ls) (h7 : M 6952 7 = T) (ha : rb2 M 85 7011 7012 7013 ac T) (hc : rb2 M 89 7014 7015 7016 ch T) (hl : rb1 M 93 7017 7018 lt T)
    (hK : ∀ N, (∀ x, x < 7057 ∨ 7070 < x → N x = M x) → lwF M N j → rLv N j nd ls T ac ch lt → im_T g d 431 196 [some (.ref 6952), some (vI j), some (vI lt.1), none] [] e N K) : im_T g d 431 0 [some (.ref 6952), some (vI j), none, none] [] e M K := by
  obtain ⟨a1, a2, a3, a4⟩ := ha
  obtain ⟨b1, b2, b3, b4⟩ := hc
  obtain ⟨c1, c2, c3, c4, c5⟩ := hl
  refine b_keepLevel_0 ⟨⟨by omega, by omega⟩, ?_⟩
  rw [h83, h84, h7, a1, b1, c1]
  generalize hB : im_u (im_u (im_u (im_u (im_u (im_u M 7057 j nd) 7058 j ls) 7059 j T) 7060 j ac.1) 7064 j ch.1) 7068 j lt.1 = B
  have bx : ∀ x, (x < 7057 ∨ 7060 < x) → x ≠ 7064 → x ≠ 7068 → B x = M x := fun x a b c => by rw [← hB, im_u_ne _ _ _ c, im_u_ne _ _ _ b, im_u_ne _ _ _ (by omega), im_u_ne _ _ _ (by omega), im_u_ne _ _ _ (by omega), im_u_ne _ _ _ (by omega)]
  have b68 : ∀ q, B 7068 q = if q = (j : Int) then (lt.1 : Int) else M 7068 q := fun q => by rw [← hB, im_rdx]; iterate 5 rw [im_u_ne _ _ _ (by decide)]
  have b64 : ∀ q, B 7064 q = if q = (j : Int) then (ch.1 : Int) else M 7064 q := fun q => by rw [← hB, im_u_ne _ _ _ (by decide), im_rdx]; iterate 4 rw [im_u_ne _ _ _ (by decide)]
  have b60 : ∀ q, B 7060 q = if q = (j : Int) then (ac.1 : Int) else M 7060 q := fun q => by rw [← hB, im_u_ne _ _ _ (by decide), im_u_ne _ _ _ (by decide), im_rdx]; iterate 3 rw [im_u_ne _ _ _ (by decide)]
  have b59 : ∀ q, B 7059 q = if q = (j : Int) then T else M 7059 q := fun q => by rw [← hB, im_u_ne _ _ _ (by decide), im_u_ne _ _ _ (by decide), im_u_ne _ _ _ (by decide), im_rdx]; iterate 2 rw [im_u_ne _ _ _ (by decide)]
  have b58 : ∀ q, B 7058 q = if q = (j : Int) then ls else M 7058 q := fun q => by rw [← hB, im_u_ne _ _ _ (by decide), im_u_ne _ _ _ (by decide), im_u_ne _ _ _ (by decide), im_u_ne _ _ _ (by decide), im_rdx, im_u_ne _ _ _ (by decide)]
  have b57 : ∀ q, B 7057 q = if q = (j : Int) then nd else M 7057 q := fun q => by rw [← hB, im_u_ne _ _ _ (by decide), im_u_ne _ _ _ (by decide), im_u_ne _ _ _ (by decide), im_u_ne _ _ _ (by decide), im_u_ne _ _ _ (by decide), im_rdx]
  clear hB
  have bF : lwF M B j := by
    refine ⟨fun x a b q hq => ?_, fun x hx q hq => by rw [bx x (by omega) (by omega) (by omega)]⟩
    have hne : ¬ q = (j : Int) := by omega
    by_cases z : (x < 7057 ∨ 7060 < x) ∧ x ≠ 7064 ∧ x ≠ 7068
    · rw [bx x z.1 z.2.1 z.2.2]
    · have hc : x = 7057 ∨ x = 7058 ∨ x = 7059 ∨ x = 7060 ∨ x = 7064 ∨ x = 7068 := by omega
      rcases hc with z | z | z | z | z | z <;> subst z
      · rw [b57, if_neg hne]
      · rw [b58, if_neg hne]
      · rw [b59, if_neg hne]
      · rw [b60, if_neg hne]
      · rw [b64, if_neg hne]
      · rw [b68, if_neg hne]
  have l62 : ∀ (q k : Nat) (N : im_M), k + q = ac.1 → kp3 B N 7061 7062 7063 7011 7012 7013 (40 * j) k → im_T g d 431 62 [some (.ref 6952), some (vI j), some (vI k), none] [] e N K := by
    intro q
    induction q with
    | succ q ih =>
      intro k N hk hc
      have n85 : N 6952 85 = ac.1 := by rw [hc.1 6952 (by decide) (by decide) (by decide), bx 6952 (by decide) (by decide) (by decide)]; exact a1
      refine b_keepLevel_62 ⟨by constructor <;> omega, fun z => by omega, fun _ => ⟨⟨by omega, by omega⟩, ⟨by omega, by omega⟩, ?_⟩⟩
      exact ih (k + 1) _ (by omega) (hc.st (by decide) (by decide) (by decide) (by decide))
    | zero =>
      intro k N hk hcA
      have n85 : N 6952 85 = ac.1 := by rw [hcA.1 6952 (by decide) (by decide) (by decide), bx 6952 (by decide) (by decide) (by decide)]; exact a1
      refine b_keepLevel_62 ⟨by constructor <;> omega, fun _ => ?_, fun z => by omega⟩
      have l129 : ∀ (q k : Nat) (N2 : im_M), k + q = ch.1 → kp3 N N2 7065 7066 7067 7014 7015 7016 (40 * j) k → im_T g d 431 129 [some (.ref 6952), some (vI j), some (vI k), none] [] e N2 K := by
        intro q
        induction q with
        | succ q ih =>
          intro k N2 hk hc
          have n89 : N2 6952 89 = ch.1 := by rw [hc.1 6952 (by decide) (by decide) (by decide), hcA.1 6952 (by decide) (by decide) (by decide), bx 6952 (by decide) (by decide) (by decide)]; exact b1
          refine b_keepLevel_129 ⟨by constructor <;> omega, fun z => by omega, fun _ => ⟨⟨by omega, by omega⟩, ⟨by omega, by omega⟩, ?_⟩⟩
          exact ih (k + 1) _ (by omega) (hc.st (by decide) (by decide) (by decide) (by decide))
        | zero =>
          intro k N2 hk2 hcB
          have n89 : N2 6952 89 = ch.1 := by rw [hcB.1 6952 (by decide) (by decide) (by decide), hcA.1 6952 (by decide) (by decide) (by decide), bx 6952 (by decide) (by decide) (by decide)]; exact b1
          refine b_keepLevel_129 ⟨by constructor <;> omega, fun _ => ?_, fun z => by omega⟩
          have n2x : ∀ x, (x < 7061 ∨ 7063 < x) → (x < 7065 ∨ 7067 < x) → N2 x = B x := fun x a b => (hcB.1 x (by omega) (by omega) (by omega)).trans (hcA.1 x (by omega) (by omega) (by omega))
          have n2A : ∀ x, (7061 ≤ x ∧ x ≤ 7063) → N2 x = N x := fun x a => hcB.1 x (by omega) (by omega) (by omega)
          have l196 : ∀ (q k : Nat) (N3 : im_M), k + q = lt.1 → kp2 N2 N3 7069 7070 7017 7018 (40 * j) k → im_T g d 431 196 [some (.ref 6952), some (vI j), some (vI k), none] [] e N3 K := by
            intro q
            induction q with
            | succ q ih =>
              intro k N3 hk hc
              have n93 : N3 6952 93 = lt.1 := by rw [hc.1 6952 (by decide) (by decide), n2x 6952 (by decide) (by decide), bx 6952 (by decide) (by decide) (by decide)]; exact c1
              refine b_keepLevel_196 hd ⟨by constructor <;> omega, fun z => by omega, fun _ => ⟨⟨by omega, by omega⟩, ⟨by omega, by omega⟩, ?_⟩⟩
              exact ih (k + 1) _ (by omega) (hc.st (by decide) (by decide) (by decide))
            | zero =>
              intro k N3 hk3 hcC
              have hkn : k = lt.1 := by omega
              subst hkn
              have n3x : ∀ x, (x < 7061 ∨ 7063 < x) → (x < 7065 ∨ 7067 < x) → x ≠ 7069 → x ≠ 7070 → N3 x = B x := fun x a b c f => (hcC.1 x c f).trans (n2x x a b)
              have n3A : ∀ x, (7061 ≤ x ∧ x ≤ 7063) → N3 x = N x := fun x a => (hcC.1 x (by omega) (by omega)).trans (n2A x a)
              have n3B : ∀ x, (7065 ≤ x ∧ x ≤ 7067) → N3 x = N2 x := fun x a => hcC.1 x (by omega) (by omega)
              have p5 : ∀ i, N3 6955 i = M 6955 i := fun i => by rw [n3x 6955 (by decide) (by decide) (by decide) (by decide), bx 6955 (by decide) (by decide) (by decide)]
              refine hK N3 (fun x hx => by rw [n3x x (by omega) (by omega) (by omega) (by omega), bx x (by omega) (by omega) (by omega)]) ?_ ⟨⟨?_, ?_, ?_⟩, ⟨?_, a2, fun i hi => ?_⟩, ⟨?_, b2, fun i hi => ?_⟩, ⟨?_, c2, c3, fun i hi => ?_⟩⟩
              · have low : ∀ x, (x = 7061 ∨ x = 7062 ∨ x = 7063 ∨ x = 7065 ∨ x = 7066 ∨ x = 7067 ∨ x = 7069 ∨ x = 7070) → ∀ q, q < 40 * (j : Int) → N3 x q = M x q := by
                  intro x hx q hq
                  obtain ⟨y1, y2, y3⟩ := hcA.2.2 q hq
                  obtain ⟨y4, y5, y6⟩ := hcB.2.2 q hq
                  obtain ⟨y7, y8⟩ := hcC.2.2 q hq
                  rcases hx with z | z | z | z | z | z | z | z <;> subst z
                  · rw [n3A 7061 (by decide), y1, bx 7061 (by decide) (by decide) (by decide)]
                  · rw [n3A 7062 (by decide), y2, bx 7062 (by decide) (by decide) (by decide)]
                  · rw [n3A 7063 (by decide), y3, bx 7063 (by decide) (by decide) (by decide)]
                  · rw [n3B 7065 (by decide), y4, hcA.1 7065 (by decide) (by decide) (by decide), bx 7065 (by decide) (by decide) (by decide)]
                  · rw [n3B 7066 (by decide), y5, hcA.1 7066 (by decide) (by decide) (by decide), bx 7066 (by decide) (by decide) (by decide)]
                  · rw [n3B 7067 (by decide), y6, hcA.1 7067 (by decide) (by decide) (by decide), bx 7067 (by decide) (by decide) (by decide)]
                  · rw [y7, n2x 7069 (by decide) (by decide), bx 7069 (by decide) (by decide) (by decide)]
                  · rw [y8, n2x 7070 (by decide) (by decide), bx 7070 (by decide) (by decide) (by decide)]
                refine ⟨fun x a b q hq => ?_, low⟩
                by_cases z : x = 7061 ∨ x = 7062 ∨ x = 7063 ∨ x = 7065 ∨ x = 7066 ∨ x = 7067 ∨ x = 7069 ∨ x = 7070
                · exact low x z q (by omega)
                · rw [n3x x (by omega) (by omega) (by omega) (by omega)]
                  exact bF.1 x a b q hq
              · rw [n3x 7057 (by decide) (by decide) (by decide) (by decide), b57, if_pos rfl]
              · rw [n3x 7058 (by decide) (by decide) (by decide) (by decide), b58, if_pos rfl]
              · rw [n3x 7059 (by decide) (by decide) (by decide) (by decide), b59, if_pos rfl]
              · rw [n3x 7060 (by decide) (by decide) (by decide) (by decide), b60, if_pos rfl]
              · obtain ⟨y1, y2, y3⟩ := hcA.2.1 i (by omega)
                rw [n3A 7061 (by decide), n3A 7062 (by decide), n3A 7063 (by decide), y1, y2, y3, bx 7011 (by decide) (by decide) (by decide), bx 7012 (by decide) (by decide) (by decide), bx 7013 (by decide) (by decide) (by decide)]
                exact ⟨a3 i hi, rnp_congr (a4 i hi) (fun i _ => p5 i) (Int.le_refl _)⟩
              · rw [n3x 7064 (by decide) (by decide) (by decide) (by decide), b64, if_pos rfl]
              · obtain ⟨y1, y2, y3⟩ := hcB.2.1 i (by omega)
                rw [n3B 7065 (by decide), n3B 7066 (by decide), n3B 7067 (by decide), y1, y2, y3, hcA.1 7014 (by decide) (by decide) (by decide), hcA.1 7015 (by decide) (by decide) (by decide), hcA.1 7016 (by decide) (by decide) (by decide), bx 7014 (by decide) (by decide) (by decide), bx 7015 (by decide) (by decide) (by decide), bx 7016 (by decide) (by decide) (by decide)]
                exact ⟨b3 i hi, rnp_congr (b4 i hi) (fun i _ => p5 i) (Int.le_refl _)⟩
              · rw [n3x 7068 (by decide) (by decide) (by decide) (by decide), b68, if_pos rfl]
              · obtain ⟨y1, y2⟩ := hcC.2.1 i (by omega)
                rw [y1, y2, n2x 7017 (by decide) (by decide), n2x 7018 (by decide) (by decide), bx 7017 (by decide) (by decide) (by decide), bx 7018 (by decide) (by decide) (by decide)]
                exact ⟨c4 i hi, rnp_congr (c5 i hi) (fun i _ => p5 i) (Int.le_refl _)⟩
          exact l196 lt.1 0 N2 (by omega) ⟨fun _ _ _ => rfl, fun i hi => absurd hi (Nat.not_lt_zero i), fun _ _ => ⟨rfl, rfl⟩⟩
      exact l129 ch.1 0 N (by omega) ⟨fun _ _ _ _ => rfl, fun i hi => absurd hi (Nat.not_lt_zero i), fun _ _ => ⟨rfl, rfl, rfl⟩⟩
  exact l62 ac.1 0 B (by omega) ⟨fun _ _ _ _ => rfl, fun i hi => absurd hi (Nat.not_lt_zero i), fun _ _ => ⟨rfl, rfl, rfl⟩⟩
end KEEPL

/-! A LEVEL of the reference's search: taken -/
def cp3 (M N : im_M) (cA cB cN sA sB sN : Nat) (o : Int) (k : Nat) : Prop := (∀ x, x ≠ cA → x ≠ cB → x ≠ cN → N x = M x) ∧ ∀ i : Nat, i < k → N cA i = M sA (o + i) ∧ N cB i = M sB (o + i) ∧ N cN i = M sN (o + i)
def cp2 (M N : im_M) (cA cN sA sN : Nat) (o : Int) (k : Nat) : Prop := (∀ x, x ≠ cA → x ≠ cN → N x = M x) ∧ ∀ i : Nat, i < k → N cA i = M sA (o + i) ∧ N cN i = M sN (o + i)
theorem cp3.st {M N : im_M} {cA cB cN sA sB sN : Nat} {o : Int} {k : Nat} (h : cp3 M N cA cB cN sA sB sN o k) (hd : cA ≠ cB ∧ cA ≠ cN ∧ cB ≠ cN) (hA : sA ≠ cA ∧ sA ≠ cB ∧ sA ≠ cN) (hB : sB ≠ cA ∧ sB ≠ cB ∧ sB ≠ cN) (hN : sN ≠ cA ∧ sN ≠ cB ∧ sN ≠ cN) : cp3 M (im_u (im_u (im_u N cA k (N sA (o + k))) cB k (N sB (o + k))) cN k (N sN (o + k))) cA cB cN sA sB sN o (k + 1) := by
  obtain ⟨h1, h2⟩ := h
  refine ⟨fun x a b c => by rw [im_u_ne _ _ _ c, im_u_ne _ _ _ b, im_u_ne _ _ _ a]; exact h1 x a b c, fun i hi => ?_⟩
  rw [im_u_ne _ _ _ hd.2.1, im_u_ne _ _ _ hd.1, im_u_ne _ _ _ hd.2.2, im_rdx, im_rdx, im_rdx, im_u_ne _ _ _ (Ne.symm hd.1), im_u_ne _ _ _ (Ne.symm hd.2.2), im_u_ne _ _ _ (Ne.symm hd.2.1)]
  rw [h1 sA hA.1 hA.2.1 hA.2.2, h1 sB hB.1 hB.2.1 hB.2.2, h1 sN hN.1 hN.2.1 hN.2.2]
  by_cases z : i = k
  · subst z
    rw [if_pos rfl, if_pos rfl, if_pos rfl]
    exact ⟨rfl, rfl, rfl⟩
  · have z' : ¬ (i : Int) = (k : Int) := fun q => z (by omega)
    rw [if_neg z', if_neg z', if_neg z']
    exact h2 i (by omega)
theorem cp2.st {M N : im_M} {cA cN sA sN : Nat} {o : Int} {k : Nat} (h : cp2 M N cA cN sA sN o k) (hd : cA ≠ cN) (hA : sA ≠ cA ∧ sA ≠ cN) (hN : sN ≠ cA ∧ sN ≠ cN) : cp2 M (im_u (im_u N cA k (N sA (o + k))) cN k (N sN (o + k))) cA cN sA sN o (k + 1) := by
  obtain ⟨h1, h2⟩ := h
  refine ⟨fun x a c => by rw [im_u_ne _ _ _ c, im_u_ne _ _ _ a]; exact h1 x a c, fun i hi => ?_⟩
  rw [im_u_ne _ _ _ hd, im_rdx, im_rdx, im_u_ne _ _ _ (Ne.symm hd)]
  rw [h1 sA hA.1 hA.2, h1 sN hN.1 hN.2]
  by_cases z : i = k
  · subst z
    rw [if_pos rfl, if_pos rfl]
    exact ⟨rfl, rfl⟩
  · have z' : ¬ (i : Int) = (k : Int) := fun q => z (by omega)
    rw [if_neg z', if_neg z']
    exact h2 i (by omega)
/-- a book at a level -/
def lb2 (M : im_M) (cc cA cB cN : Nat) (j : Int) (β : Bk) (T : Int) : Prop := M cc j = β.1 ∧ β.1 ≤ 40 ∧ ∀ i : Nat, i < β.1 → (M cA (40 * j + i) = β.2.1 i ∧ M cB (40 * j + i) = β.2.2.1 i) ∧ rnp M 0 T (M cN (40 * j + i)) (β.2.2.2 i)
def lb1 (M : im_M) (cc cA cN : Nat) (j : Int) (β : Bk) (T : Int) : Prop := M cc j = β.1 ∧ β.1 ≤ 40 ∧ β.2.2.1 = z0 ∧ ∀ i : Nat, i < β.1 → M cA (40 * j + i) = β.2.1 i ∧ rnp M 0 T (M cN (40 * j + i)) (β.2.2.2 i)
/-- a level: node, least time, room that is used, three books -/
def rLv (M : im_M) (j nd ls T : Int) (ac ch lt : Bk) : Prop := (M 7057 j = nd ∧ M 7058 j = ls ∧ M 7059 j = T) ∧ lb2 M 7060 7061 7062 7063 j ac T ∧ lb2 M 7064 7065 7066 7067 j ch T ∧ lb1 M 7068 7069 7070 j lt T
/-- what taking a level changes -/
def tkL (M N : im_M) : Prop := (∀ x, x ≠ 6952 → (x < 7011 ∨ 7018 < x) → N x = M x) ∧ ∀ k, k ≠ 7 → k ≠ 46 → k ≠ 83 → k ≠ 84 → k ≠ 85 → k ≠ 89 → k ≠ 93 → k ≠ 99 → k ≠ 100 → k ≠ 174 → N 6952 k = M 6952 k
section LEVEL
variable {g : im_g} {d : Nat} {e : im_E} {M : im_M} {K : im_K}
theorem c_takeLevel {j : Nat} {nd ls T : Int} {ac ch lt : Bk} (hj : j < 402) (h : rLv M j nd ls T ac ch lt)
    (hK : ∀ N, tkL M N → (N 6952 83 = nd ∧ N 6952 84 = ls ∧ N 6952 7 = T ∧ N 6952 99 = ls ∧ N 6952 100 = ls ∧ N 6952 46 = 0 ∧ N 6952 174 = ls) → rb2 N 85 7011 7012 7013 ac T → rb2 N 89 7014 7015 7016 ch T → rb1 N 93 7017 7018 lt T → K (.inl none) e N) : im_T g d 432 0 [some (.ref 6952), some (vI j), none] [] e M K := by
  obtain ⟨⟨e1, e2, e3⟩, ⟨a1, a2, a3⟩, ⟨b1, b2, b3⟩, ⟨c1, c2, c3, c4⟩⟩ := h
  refine b_takeLevel_0 ⟨⟨by omega, by omega⟩, ?_⟩
  rw [e1, e2, e3, a1, b1, c1]
  generalize hB : im_u (im_u (im_u (im_u (im_u (im_u M 6952 83 nd) 6952 84 ls) 6952 7 T) 6952 85 ac.1) 6952 89 ch.1) 6952 93 lt.1 = B
  have bx : ∀ x, x ≠ 6952 → B x = M x := fun x a => by rw [← hB]; iterate 6 rw [im_u_ne _ _ _ a]
  have bk : ∀ k, k ≠ 7 → k ≠ 83 → k ≠ 84 → k ≠ 85 → k ≠ 89 → k ≠ 93 → B 6952 k = M 6952 k := fun k a b c d f g => by rw [← hB, im_rdk _ _ _ g, im_rdk _ _ _ f, im_rdk _ _ _ d, im_rdk _ _ _ a, im_rdk _ _ _ c, im_rdk _ _ _ b]
  have b93 : B 6952 93 = lt.1 := by rw [← hB]; exact im_rds _ _ _ _
  have b89 : B 6952 89 = ch.1 := by rw [← hB, im_rdk _ _ _ (by decide)]; exact im_rds _ _ _ _
  have b85 : B 6952 85 = ac.1 := by rw [← hB, im_rdk _ _ _ (by decide), im_rdk _ _ _ (by decide)]; exact im_rds _ _ _ _
  have b7 : B 6952 7 = T := by rw [← hB, im_rdk _ _ _ (by decide), im_rdk _ _ _ (by decide), im_rdk _ _ _ (by decide)]; exact im_rds _ _ _ _
  have b84 : B 6952 84 = ls := by rw [← hB, im_rdk _ _ _ (by decide), im_rdk _ _ _ (by decide), im_rdk _ _ _ (by decide), im_rdk _ _ _ (by decide)]; exact im_rds _ _ _ _
  have b83 : B 6952 83 = nd := by rw [← hB, im_rdk _ _ _ (by decide), im_rdk _ _ _ (by decide), im_rdk _ _ _ (by decide), im_rdk _ _ _ (by decide), im_rdk _ _ _ (by decide)]; exact im_rds _ _ _ _
  clear hB
  have l196 : ∀ (B2 : im_M), (∀ x, (x < 7011 ∨ 7016 < x) → B2 x = B x) → rb2 B2 85 7011 7012 7013 ac T → rb2 B2 89 7014 7015 7016 ch T → ∀ (q k : Nat) (N : im_M), k + q = lt.1 → cp2 B2 N 7017 7018 7069 7070 (40 * j) k → im_T g d 432 196 [some (.ref 6952), some (vI j), some (vI k)] [] e N K := by
    intro B2 hB2 r1 r2 q
    induction q with
    | zero =>
      intro k N hk hc
      have hkn : k = lt.1 := by omega
      have n52 : N 6952 = B 6952 := (hc.1 6952 (by decide) (by decide)).trans (hB2 6952 (by decide))
      refine b_takeLevel_196 ?_
      rw [n52, b93, b84]
      refine ⟨by constructor <;> omega, fun _ => ?_, fun z => by omega⟩
      generalize hF : im_u (im_u (im_u (im_u N 6952 99 ls) 6952 100 ls) 6952 46 0) 6952 174 ls = F
      have fx : ∀ x, x ≠ 6952 → F x = N x := fun x a => by rw [← hF]; iterate 4 rw [im_u_ne _ _ _ a]
      have fk : ∀ k, k ≠ 46 → k ≠ 99 → k ≠ 100 → k ≠ 174 → F 6952 k = B 6952 k := fun k a b c f => by rw [← hF, im_rdk _ _ _ f, im_rdk _ _ _ a, im_rdk _ _ _ c, im_rdk _ _ _ b, n52]
      have f174 : F 6952 174 = ls := by rw [← hF]; exact im_rds _ _ _ _
      have f46 : F 6952 46 = 0 := by rw [← hF, im_rdk _ _ _ (by decide)]; exact im_rds _ _ _ _
      have f100 : F 6952 100 = ls := by rw [← hF, im_rdk _ _ _ (by decide), im_rdk _ _ _ (by decide)]; exact im_rds _ _ _ _
      have f99 : F 6952 99 = ls := by rw [← hF, im_rdk _ _ _ (by decide), im_rdk _ _ _ (by decide), im_rdk _ _ _ (by decide)]; exact im_rds _ _ _ _
      clear hF
      have fB : ∀ x, x ≠ 6952 → x ≠ 7017 → x ≠ 7018 → F x = B2 x := fun x a b c => (fx x a).trans (hc.1 x b c)
      have f5 : ∀ i, F 6955 i = M 6955 i := fun i => by rw [fB 6955 (by decide) (by decide) (by decide), hB2 6955 (by decide), bx 6955 (by decide)]
      have fk2 : ∀ k, k ≠ 46 → k ≠ 99 → k ≠ 100 → k ≠ 174 → F 6952 k = B2 6952 k := fun k a b c f => by rw [fk k a b c f, hB2 6952 (by decide)]
      have g5 : ∀ i, F 6955 i = B2 6955 i := fun i => by rw [fB 6955 (by decide) (by decide) (by decide)]
      refine hK F ⟨fun x a b => ?_, fun k a1 a2 a3 a4 a5 a6 a7 a8 a9 a10 => (fk k a2 a8 a9 a10).trans (bk k a1 a3 a4 a5 a6 a7)⟩ ⟨(fk 83 (by decide) (by decide) (by decide) (by decide)).trans b83, (fk 84 (by decide) (by decide) (by decide) (by decide)).trans b84, (fk 7 (by decide) (by decide) (by decide) (by decide)).trans b7, f99, f100, f46, f174⟩ ?_ ?_ ?_
      · rw [fB x a (by omega) (by omega), hB2 x (by omega), bx x a]
      · exact rb2_congr r1 (fk2 85 (by decide) (by decide) (by decide) (by decide)) (fB _ (by decide) (by decide) (by decide)) (fB _ (by decide) (by decide) (by decide)) (fB _ (by decide) (by decide) (by decide)) (fun i _ => g5 i) (Int.le_refl _)
      · exact rb2_congr r2 (fk2 89 (by decide) (by decide) (by decide) (by decide)) (fB _ (by decide) (by decide) (by decide)) (fB _ (by decide) (by decide) (by decide)) (fB _ (by decide) (by decide) (by decide)) (fun i _ => g5 i) (Int.le_refl _)
      · refine ⟨(fk 93 (by decide) (by decide) (by decide) (by decide)).trans b93, c2, c3, fun i hi => ?_, fun i hi => ?_⟩
        · rw [fx 7017 (by decide), (hc.2 i (by omega)).1, hB2 7069 (by decide), bx 7069 (by decide)]
          exact (c4 i hi).1
        · rw [fx 7018 (by decide), (hc.2 i (by omega)).2, hB2 7070 (by decide), bx 7070 (by decide)]
          exact rnp_congr (c4 i hi).2 (fun i _ => f5 i) (Int.le_refl _)
    | succ q ih =>
      intro k N hk hc
      have n52 : N 6952 = B 6952 := (hc.1 6952 (by decide) (by decide)).trans (hB2 6952 (by decide))
      have n93 : N 6952 93 = lt.1 := by rw [n52]; exact b93
      refine b_takeLevel_196 ⟨by constructor <;> omega, fun z => by omega, fun _ => ⟨⟨by omega, by omega⟩, ⟨by omega, by omega⟩, ?_⟩⟩
      exact ih (k + 1) _ (by omega) (hc.st (by decide) (by decide) (by decide))
  have l129 : ∀ (B1 : im_M), (∀ x, (x < 7011 ∨ 7013 < x) → B1 x = B x) → rb2 B1 85 7011 7012 7013 ac T → ∀ (q k : Nat) (N : im_M), k + q = ch.1 → cp3 B1 N 7014 7015 7016 7065 7066 7067 (40 * j) k → im_T g d 432 129 [some (.ref 6952), some (vI j), some (vI k)] [] e N K := by
    intro B1 hB1 r1 q
    induction q with
    | zero =>
      intro k N hk hc
      have n52 : N 6952 = B 6952 := (hc.1 6952 (by decide) (by decide) (by decide)).trans (hB1 6952 (by decide))
      have n89 : N 6952 89 = ch.1 := by rw [n52]; exact b89
      have n5 : ∀ i, N 6955 i = B1 6955 i := fun i => by rw [hc.1 6955 (by decide) (by decide) (by decide)]
      refine b_takeLevel_129 ⟨by constructor <;> omega, fun _ => ?_, fun z => by omega⟩
      refine l196 N (fun x hx => (hc.1 x (by omega) (by omega) (by omega)).trans (hB1 x (by omega))) ?_ ⟨n89, b2, fun i hi => ?_, fun i hi => ?_⟩ lt.1 0 N (by omega) ⟨fun _ _ _ => rfl, fun i hi => absurd hi (Nat.not_lt_zero i)⟩
      · exact rb2_congr r1 (by rw [hc.1 6952 (by decide) (by decide) (by decide)]) (hc.1 _ (by decide) (by decide) (by decide)) (hc.1 _ (by decide) (by decide) (by decide)) (hc.1 _ (by decide) (by decide) (by decide)) (fun i _ => n5 i) (Int.le_refl _)
      · obtain ⟨u1, u2, u3⟩ := hc.2 i (by omega)
        rw [u1, u2, hB1 7065 (by decide), bx 7065 (by decide), hB1 7066 (by decide), bx 7066 (by decide)]
        exact (b3 i hi).1
      · obtain ⟨u1, u2, u3⟩ := hc.2 i (by omega)
        rw [u3, hB1 7067 (by decide), bx 7067 (by decide)]
        exact rnp_congr (b3 i hi).2 (fun i _ => by rw [n5 i, hB1 6955 (by decide), bx 6955 (by decide)]) (Int.le_refl _)
    | succ q ih =>
      intro k N hk hc
      have n52 : N 6952 = B 6952 := (hc.1 6952 (by decide) (by decide) (by decide)).trans (hB1 6952 (by decide))
      have n89 : N 6952 89 = ch.1 := by rw [n52]; exact b89
      refine b_takeLevel_129 ⟨by constructor <;> omega, fun z => by omega, fun _ => ⟨⟨by omega, by omega⟩, ⟨by omega, by omega⟩, ?_⟩⟩
      exact ih (k + 1) _ (by omega) (hc.st (by decide) (by decide) (by decide) (by decide))
  have l62 : ∀ (q k : Nat) (N : im_M), k + q = ac.1 → cp3 B N 7011 7012 7013 7061 7062 7063 (40 * j) k → im_T g d 432 62 [some (.ref 6952), some (vI j), some (vI k)] [] e N K := by
    intro q
    induction q with
    | zero =>
      intro k N hk hc
      have n52 : N 6952 = B 6952 := hc.1 6952 (by decide) (by decide) (by decide)
      have n85 : N 6952 85 = ac.1 := by rw [n52]; exact b85
      have n5 : ∀ i, N 6955 i = B 6955 i := fun i => by rw [hc.1 6955 (by decide) (by decide) (by decide)]
      refine b_takeLevel_62 ⟨by constructor <;> omega, fun _ => ?_, fun z => by omega⟩
      refine l129 N (fun x hx => hc.1 x (by omega) (by omega) (by omega)) ⟨n85, a2, fun i hi => ?_, fun i hi => ?_⟩ ch.1 0 N (by omega) ⟨fun _ _ _ _ => rfl, fun i hi => absurd hi (Nat.not_lt_zero i)⟩
      · obtain ⟨u1, u2, u3⟩ := hc.2 i (by omega)
        rw [u1, u2, bx 7061 (by decide), bx 7062 (by decide)]
        exact (a3 i hi).1
      · obtain ⟨u1, u2, u3⟩ := hc.2 i (by omega)
        rw [u3, bx 7063 (by decide)]
        exact rnp_congr (a3 i hi).2 (fun i _ => by rw [n5 i, bx 6955 (by decide)]) (Int.le_refl _)
    | succ q ih =>
      intro k N hk hc
      have n52 : N 6952 = B 6952 := hc.1 6952 (by decide) (by decide) (by decide)
      have n85 : N 6952 85 = ac.1 := by rw [n52]; exact b85
      refine b_takeLevel_62 ⟨by constructor <;> omega, fun z => by omega, fun _ => ⟨⟨by omega, by omega⟩, ⟨by omega, by omega⟩, ?_⟩⟩
      exact ih (k + 1) _ (by omega) (hc.st (by decide) (by decide) (by decide) (by decide))
  exact l62 ac.1 0 B (by omega) ⟨fun _ _ _ _ => rfl, fun i hi => absurd hi (Nat.not_lt_zero i)⟩
end LEVEL

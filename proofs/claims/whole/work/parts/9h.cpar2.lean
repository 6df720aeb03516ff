/-! the class's parser keeps step with the abstract machine -/
def bl (R : Rw) (i : Int) : Nat → List Int
  | 0 => []
  | c + 1 => bl R i c ++ [R (8 + c) i, R (12 + c) i]
theorem bl_congr {R R' : Rw} {i : Int} : ∀ (c : Nat), c ≤ 4 → (∀ f : Nat, 8 ≤ f → f < 8 + c → R' f i = R f i) → (∀ f : Nat, 12 ≤ f → f < 12 + c → R' f i = R f i) → bl R' i c = bl R i c := by
  intro c
  induction c with
  | zero => intro _ _ _; rfl
  | succ c ih =>
    intro hc h h'
    show bl R' i c ++ [R' (8 + c) i, R' (12 + c) i] = bl R i c ++ [R (8 + c) i, R (12 + c) i]
    rw [ih (by omega) (fun f a b => h f a (by omega)) (fun f a b => h' f a (by omega)), h _ (by omega) (by omega), h' _ (by omega) (by omega)]
def rowC (M : im_M) (R : Rw) (E i : Int) : Prop := M 14 i = R 0 i ∧ M 16 i = R 1 i ∧ M 17 i = R 2 i ∧ M 19 i = R 4 i ∧ M 20 i = R 5 i ∧ M 21 i = R 6 i ∧ (R 0 i = 1 ∨ R 0 i = 3 → M 18 i = R 3 i) ∧ (R 0 i = 34 → ∃ p', dgs M (M 18 i) (R 7 i) p' ∧ p' ≤ E) ∧ (R 0 i = 29 → 0 < R 6 i → ∃ p', dsq M (M 18 i) (bl R i (R 6 i).toNat) p' ∧ p' ≤ E)
def cnx (M M' : im_M) : Prop := (∃ w, cn M 26 w) → ∃ w, cn M' 26 w
theorem cnx.e {M M1 M' : im_M} (h : cnx M M1) (h1 : M' 26 = M1 26) (h2 : M' 27 = M1 27) : cnx M M' := fun z => let ⟨w, hw⟩ := h z; ⟨w, cn_congr hw h1 h2⟩
/-- what a parse leaves as it was -/
def FR (lo dg : Int) (M M' : im_M) : Prop := (∀ x, x ≠ 2 → x ≠ 5 → x ≠ 6 → (x < 14 ∨ 27 < x) → M' x = M x) ∧ (∀ k, k < 3 ∨ 6 < k → M' 2 k = M 2 k) ∧ (∀ (x : Nat) (i : Int), 14 ≤ x → x ≤ 21 → i < lo → M' x i = M x i) ∧ (∀ i, i < dg → M' 22 i = M 22 i) ∧ (∀ k, k ≠ 4 → k ≠ 5 → k ≠ 7 → M' 23 k = M 23 k) ∧ cnx M M'
theorem FR.rf (lo dg : Int) (M : im_M) : FR lo dg M M := ⟨fun _ _ _ _ _ => rfl, fun _ _ => rfl, fun _ _ _ _ _ => rfl, fun _ _ => rfl, fun _ _ _ _ => rfl, id⟩
theorem FR.trans {lo dg : Int} {M M1 M2 : im_M} (h : FR lo dg M M1) (h' : FR lo dg M1 M2) : FR lo dg M M2 :=
  ⟨fun x a b c d => (h'.1 x a b c d).trans (h.1 x a b c d), fun k a => (h'.2.1 k a).trans (h.2.1 k a), fun x i a b c => (h'.2.2.1 x i a b c).trans (h.2.2.1 x i a b c), fun i a => (h'.2.2.2.1 i a).trans (h.2.2.2.1 i a), fun k a b c => (h'.2.2.2.2.1 k a b c).trans (h.2.2.2.2.1 k a b c), fun z => h'.2.2.2.2.2 (h.2.2.2.2.2 z)⟩
theorem FR.sf {lo dg : Int} {M M1 : im_M} (h : SF M M1) : FR lo dg M M1 := ⟨fun x _ _ _ d => h.1 x (by omega) (by omega) (by omega), fun k _ => by rw [h.1 2 (by decide) (by decide) (by decide)], fun x i a b _ => by rw [h.1 x (by omega) (by omega) (by omega)], fun i _ => by rw [h.1 22 (by decide) (by decide) (by decide)], fun k a _ _ => h.2 k a, cnx.e id (h.1 26 (by decide) (by decide) (by decide)) (h.1 27 (by decide) (by decide) (by decide))⟩
theorem FR.p {lo dg : Int} {M M1 : im_M} (h : FR lo dg M M1) {k : Int} (hk : k = 4 ∨ k = 5 ∨ k = 7) (v : Int) : FR lo dg M (im_u M1 23 k v) :=
  ⟨fun x a b c d => (im_u_ne _ _ _ (by omega)).trans (h.1 x a b c d), fun k a => (im_rdn _ _ _ _ (by decide)).trans (h.2.1 k a), fun x i a b c => (im_rdn _ _ _ _ (by omega)).trans (h.2.2.1 x i a b c), fun i a => (im_rdn _ _ _ _ (by decide)).trans (h.2.2.2.1 i a), fun j a b c => (im_rdk _ _ _ (by omega)).trans (h.2.2.2.2.1 j a b c), h.2.2.2.2.2.e (im_u_ne _ _ _ (by decide)) (im_u_ne _ _ _ (by decide))⟩
theorem FR.r {lo dg : Int} {M M1 : im_M} (h : FR lo dg M M1) {x : Nat} (h1 : 14 ≤ x) (h2 : x ≤ 21) {i : Int} (hi : lo ≤ i) (v : Int) : FR lo dg M (im_u M1 x i v) :=
  ⟨fun y a b c d => (im_u_ne _ _ _ (by omega)).trans (h.1 y a b c d), fun k a => (im_rdn _ _ _ _ (by omega)).trans (h.2.1 k a), fun y j a b c => by
    by_cases hy : y = x
    · subst hy; exact (im_rdk _ _ _ (by omega)).trans (h.2.2.1 y j a b c)
    · exact (im_rdn _ _ _ _ hy).trans (h.2.2.1 y j a b c), fun j a => (im_rdn _ _ _ _ (by omega)).trans (h.2.2.2.1 j a), fun j a b c => (im_rdn _ _ _ _ (by omega)).trans (h.2.2.2.2.1 j a b c), h.2.2.2.2.2.e (im_u_ne _ _ _ (by omega)) (im_u_ne _ _ _ (by omega))⟩
def topC (M : im_M) (R : Rw) (E lw : Int) : List en → Prop
  | [] => True
  | x :: _ => (x.1 = 98 → 0 < R 6 x.2.1 → dsq M (M 18 x.2.1) (bl R x.2.1 (R 6 x.2.1).toNat) E) ∧ (x.1 = 104 → R (8 + (R 6 x.2.1).toNat) x.2.1 = lw ∧ dsq M (M 18 x.2.1) (bl R x.2.1 (R 6 x.2.1).toNat ++ [lw]) E)
def PI (M0 M : im_M) (lo dg : Int) (S : pS) : Prop := FR lo dg M0 M ∧ M 23 7 = S.2.2.1 - lo ∧ 0 ≤ M 23 5 ∧ stC M (cmp S.1) ∧ (∀ i, lo ≤ i → i < S.2.2.1 → rowC M S.2.1 (dg + M 23 5) i) ∧ cn M 26 S.2.2.2 ∧ topC M S.2.1 (dg + M 23 5) S.2.2.2 S.1
theorem rowC_congr {M M' : im_M} {R R' : Rw} {E E' i : Int} (h : rowC M R E i) (hM : ∀ x : Nat, 14 ≤ x → x ≤ 21 → M' x i = M x i) (h22 : ∀ j, j < E → M' 22 j = M 22 j) (hR : ∀ f : Nat, f < 16 → R' f i = R f i) (hE : E ≤ E') (h6 : R 0 i = 29 → R 6 i ≤ 4) : rowC M' R' E' i := by
  obtain ⟨a1, a2, a3, a4, a5, a6, a7, a8, a9⟩ := h
  unfold rowC
  rw [hM 14 (by decide) (by decide), hM 16 (by decide) (by decide), hM 17 (by decide) (by decide), hM 18 (by decide) (by decide), hM 19 (by decide) (by decide), hM 20 (by decide) (by decide), hM 21 (by decide) (by decide), hR 0 (by decide), hR 1 (by decide), hR 2 (by decide), hR 3 (by decide), hR 4 (by decide), hR 5 (by decide), hR 6 (by decide), hR 7 (by decide)]
  refine ⟨a1, a2, a3, a4, a5, a6, a7, fun z => ?_, fun z z2 => ?_⟩
  · obtain ⟨p', h1, h2⟩ := a8 z
    exact ⟨p', dgs_congr h1 (fun j _ j1 => h22 j (by omega)), by omega⟩
  · obtain ⟨p', h1, h2⟩ := a9 z z2
    have := h6 z
    rw [bl_congr (R := R) (R' := R') _ (by omega) (fun f f0 f1 => hR f (by omega)) (fun f f0 f1 => hR f (by omega))]
    exact ⟨p', (dsq_congr _ h1 (fun j _ j1 => h22 j (by omega))).1, by omega⟩
theorem cmp_ne {x : en} {r : List en} (h : x.1 ≠ 41) : cmp (x :: r) = (x.1, x.2.1) :: cmp r := by
  show (if x.1 = 41 then _ else _) = _
  rw [if_neg h]
/-- the top goes -/
theorem stC_pop {M : im_M} {y : Int × Int} {L : List (Int × Int)} (h : stC M (y :: L)) : stC (im_u M 23 4 (M 23 4 - 1)) L := by
  obtain ⟨h1, _, _, h4⟩ := h
  refine ⟨?_, stk_congr L h4 (fun i _ _ => ⟨im_rdn _ _ _ _ (by decide), im_rdn _ _ _ _ (by decide)⟩)⟩
  rw [im_rds, h1]
  show ((L.length + 1 : Nat) : Int) - 1 = _
  omega
/-- the top goes, and one row changes at its owner -/
theorem PI_pop {M0 M : im_M} {lo dg m lw lw' : Int} {x : en} {r : List en} {R R' : Rw} (h : PI M0 M lo dg (x :: r, R, m, lw)) (h41 : x.1 ≠ 41) (hlo : lo ≤ x.2.1) (hm : x.2.1 < m) (h29 : c29 R lo m)
    {c : Nat} {v : Int} (hc1 : 14 ≤ c) (hc2 : c ≤ 21) (hR : ∀ i, i ≠ x.2.1 → ∀ f, R' f i = R f i) (hrow : rowC (im_u M c x.2.1 v) R' (dg + M 23 5) x.2.1) (h6' : R' 0 x.2.1 = 29 → R' 6 x.2.1 ≤ 4) (hlw : cn M 26 lw') (htop : topC (im_u M c x.2.1 v) R' (dg + M 23 5) lw' r) : PI M0 (im_u (im_u M 23 4 (M 23 4 - 1)) c x.2.1 v) lo dg (r, R', m, lw') := by
  obtain ⟨p1, p2, p3, p4, p5, p6, p7⟩ := h
  rw [cmp_ne h41] at p4
  have e5 : im_u (im_u M 23 4 (M 23 4 - 1)) c x.2.1 v 23 5 = M 23 5 := by rw [im_rdn _ _ _ _ (by omega), im_rdk _ _ _ (by decide)]
  have e22 : ∀ j, im_u (im_u M 23 4 (M 23 4 - 1)) c x.2.1 v 22 j = M 22 j := fun j => by rw [im_rdn _ _ _ _ (by omega), im_rdn _ _ _ _ (by decide)]
  have esw : ∀ (y : Nat) (j : Int), y ≠ 23 → im_u (im_u M 23 4 (M 23 4 - 1)) c x.2.1 v y j = im_u M c x.2.1 v y j := fun y j hy => by
    by_cases hyc : y = c
    · subst hyc
      by_cases hj : j = x.2.1
      · subst hj; rw [im_rds, im_rds]
      · rw [im_rdk _ _ _ hj, im_rdk _ _ _ hj, im_rdn _ _ _ _ hy]
    · rw [im_rdn _ _ _ _ hyc, im_rdn _ _ _ _ hyc, im_rdn _ _ _ _ hy]
  refine ⟨(p1.p (Or.inl rfl) _).r hc1 hc2 hlo _, ?_, by rw [e5]; exact p3, ?_, fun i i0 i1 => ?_, ?_, ?_⟩
  · rw [im_rdn _ _ _ _ (by omega), im_rdk _ _ _ (by decide)]; exact p2
  · obtain ⟨q1, q2⟩ := stC_pop p4
    exact ⟨by rw [im_rdn _ _ _ _ (by omega)]; exact q1, stk_congr _ q2 (fun i _ _ => ⟨im_rdn _ _ _ _ (by omega), im_rdn _ _ _ _ (by omega)⟩)⟩
  · rw [e5]
    by_cases hi : i = x.2.1
    · subst hi
      refine rowC_congr (R := R') (M := im_u M c x.2.1 v) hrow (fun y y1 y2 => esw y _ (by omega)) (fun j _ => by rw [e22, im_rdn _ _ _ _ (by omega)]) (fun _ _ => rfl) (Int.le_refl _) h6'
    · refine rowC_congr (p5 i i0 i1) (fun y y1 y2 => ?_) (fun j _ => e22 j) (fun f _ => hR i hi f) (Int.le_refl _) (fun z => (h29 i i0 i1 z).2)
      rw [esw y i (by omega)]
      by_cases hyc : y = c
      · subst hyc; rw [im_rdk _ _ _ hi]
      · rw [im_rdn _ _ _ _ hyc]
  · exact cn_congr hlw (by rw [im_u_ne _ _ _ (by omega), im_u_ne _ _ _ (by decide)]) (by rw [im_u_ne _ _ _ (by omega), im_u_ne _ _ _ (by decide)])
  · rw [e5]
    cases r with
    | nil => trivial
    | cons y r =>
      obtain ⟨t1, t2⟩ := htop
      refine ⟨fun z z2 => ?_, fun z => ?_⟩
      · rw [esw 18 _ (by decide)]
        exact (dsq_congr _ (t1 z z2) (fun j _ _ => by rw [e22, im_rdn _ _ _ _ (by omega)])).1
      · rw [esw 18 _ (by decide)]
        exact ⟨(t2 z).1, (dsq_congr _ (t2 z).2 (fun j _ _ => by rw [e22, im_rdn _ _ _ _ (by omega)])).1⟩

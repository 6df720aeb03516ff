/-! THE REFERENCE reads all inputs -/
theorem kw3 {ty : Int} (h0 : 0 ≤ ty) (h1 : ty ≤ 33) : (kwv ty = 28259031251642740 ↔ ty = 28) ∧ (kwv ty = 109300196926309 ↔ ty = 29) ∧ (kwv ty = 121424973489785 ↔ ty = 30) := by
  have a : kwv 28 = 28259031251642740 := by decide
  have b : kwv 29 = 109300196926309 := by decide
  have c : kwv 30 = 121424973489785 := by decide
  have hu : ∀ j, 0 ≤ j → j < 34 → kwv ty = kwv j → ty = j := fun j j0 j1 hj => kwr_uniq (v := kwv ty) (Or.inr ⟨h0, by omega, rfl⟩) (Or.inr ⟨j0, j1, hj.symm⟩)
  refine ⟨⟨fun h => hu 28 (by decide) (by decide) (h.trans a.symm), fun h => by rw [h]; exact a⟩, ⟨fun h => hu 29 (by decide) (by decide) (h.trans b.symm), fun h => by rw [h]; exact b⟩, ⟨fun h => hu 30 (by decide) (by decide) (h.trans c.symm), fun h => by rw [h]; exact c⟩⟩
theorem tkn_p {t : Int → Int} {n a p q ty nm v : Int} (h : tkn t n a p q ty nm v) : tkn t n p p q ty nm v := ⟨Int.le_refl _, h.2.1, fun i a b => by omega, h.2.2.2⟩
/-- what reading inputs leaves as it was -/
def JX (M0 M : im_M) : Prop := (∀ x, x ≠ 6952 → x ≠ 6955 → (x < 6979 ∨ 6983 < x) → M x = M0 x) ∧ (∀ k, k ≠ 7 → k ≠ 46 → (k < 14 ∨ 20 < k) → M 6952 k = M0 6952 k) ∧ (∀ j, j < M0 6952 6 → M 6955 j = M0 6955 j) ∧ M0 6952 6 ≤ M 6952 7
theorem JX.tx {M0 M M' : im_M} (h : JX M0 M) (hs : ∀ x, x ≠ 6952 → M' x = M x) (hk : ∀ k, k ≠ 46 → (k < 14 ∨ 20 < k) → M' 6952 k = M 6952 k) : JX M0 M' := ⟨fun x a b c => (hs x a).trans (h.1 x a b c), fun k a b c => (hk k b c).trans (h.2.1 k a b c), fun j hj => by rw [hs 6955 (by decide)]; exact h.2.2.1 j hj, by rw [hk 7 (by decide) (by decide)]; exact h.2.2.2⟩
theorem JX.ix {M0 M M' : im_M} {i : Int} (h : JX M0 M) (hx : IX i M M') : JX M0 M' := ⟨fun x a b c => (hx.1 x a b c).trans (h.1 x a b c), fun k a b c => (hx.2.1 k a c).trans (h.2.1 k a b c), fun j hj => by rw [hx.2.2.1 j (by have := h.2.2.2; omega)]; exact h.2.2.1 j hj, by have := h.2.2.2; have := hx.2.2.2.1; omega⟩
def IRi (M : im_M) (I : Ip) (T j : Int) : Prop := IR M j (I.2.1 j) (I.2.2.1 j) (I.2.2.2.1 j) (I.2.2.2.2.1 j) (I.2.2.2.2.2 j) T
theorem IRi.of {M : im_M} {I I' : Ip} {T j : Int} (h : IRi M I T j) (he : ipI I' j = ipI I j) : IRi M I' T j := by
  have e1 : I'.2.1 j = I.2.1 j := congrArg Prod.fst he
  have e2 : I'.2.2.1 j = I.2.2.1 j := congrArg (fun x => x.2.1) he
  have e3 : I'.2.2.2.1 j = I.2.2.2.1 j := congrArg (fun x => x.2.2.1) he
  have e4 : I'.2.2.2.2.1 j = I.2.2.2.2.1 j := congrArg (fun x => x.2.2.2.1) he
  have e5 : I'.2.2.2.2.2 j = I.2.2.2.2.2 j := congrArg (fun x => x.2.2.2.2) he
  unfold IRi
  rw [e1, e2, e3, e4, e5]; exact h
theorem IR.ix {M M' : im_M} {i j t a b c v T T' : Int} (h : IR M j t a b c v T) (hx : IX i M M') (hj : j ≠ i) (hT : T ≤ M 6952 7) (hT' : T ≤ T') : IR M' j t a b c v T' := by
  obtain ⟨_, _, x3, _, x5⟩ := hx
  obtain ⟨h1, h2, h3, h4, h5⟩ := h
  refine ⟨h1, h2, ?_, fun z => ⟨?_, ?_, ?_⟩, fun z => ?_⟩
  · rw [x5 6979 j (by decide) (by decide) hj]; exact h3
  · rw [x5 6980 j (by decide) (by decide) hj]; exact (h4 z).1
  · rw [x5 6981 j (by decide) (by decide) hj]; exact (h4 z).2.1
  · rw [x5 6983 j (by decide) (by decide) hj]; exact rnp_congr (h4 z).2.2 (fun k hk => x3 k (by omega)) hT'
  · rw [x5 6982 j (by decide) (by decide) hj]; exact h5 z
theorem IR.tx {M M' : im_M} {j t a b c v T : Int} (h : IR M j t a b c v T) (hs : ∀ x, x ≠ 6952 → M' x = M x) : IR M' j t a b c v T := by
  obtain ⟨h1, h2, h3, h4, h5⟩ := h
  refine ⟨h1, h2, ?_, fun z => ⟨?_, ?_, ?_⟩, fun z => ?_⟩
  · rw [hs 6979 (by decide)]; exact h3
  · rw [hs 6980 (by decide)]; exact (h4 z).1
  · rw [hs 6981 (by decide)]; exact (h4 z).2.1
  · rw [hs 6983 (by decide)]; exact rnp_congr (h4 z).2.2 (fun k hk => by rw [hs 6955 (by decide)]) (Int.le_refl _)
  · rw [hs 6982 (by decide)]; exact h5 z
/-- the inputs read so far -/
def LI (M0 M : im_M) (I : Ip) : Prop := JX M0 M ∧ M 6952 46 = I.1 ∧ (0 ≤ I.1 ∧ I.1 ≤ 40) ∧ (∀ j, 0 ≤ j → j < I.1 → IRi M I (M 6952 7) j) ∧ M 6952 7 ≤ M0 6952 6 + 302 * I.1
section RINP3
variable {g : im_g} {d : Nat} {e : im_E} {M M0 : im_M} {K : im_K} {t : Int → Int} {n : Int}
theorem l_rif (h19 : M 6952 19 ≠ 0) (hd : 1 ≤ d) (hK : K (.inl none) e M) : im_T g d 358 13 [some (.ref 6952), none] [] e M K :=
  b_readInputs_13 hd ⟨fun h => by omega, fun h => by omega, fun _ => hK⟩
theorem l_readInputs (hrt : rtx M0 t n) (h8 : M0 6952 8 = 0 ∨ M0 6952 8 = 1) (h60 : 0 ≤ M0 6952 6) (h6 : M0 6952 6 + 12382 ≤ 1100000) (hd : 7 ≤ d) :
    ∀ (N f : Nat) (a : Int) (I : Ip) (M : im_M), f ≤ N → (n - a).toNat + 2 ≤ f → 0 ≤ a → a ≤ n → TK M (tk t n a).1 (tk t n a).2.1 (tk t n a).2.2.1 (tk t n a).2.2.2.1 → M 6952 20 = -1 → LI M0 M I →
      (∀ c pp, inp t n f a [] I = .inl (c, pp) → ∀ M', JX M0 M' → M' 6952 19 = c → 0 < c → M' 6952 20 = pp → K (.inl none) e M') →
      (∀ I', inp t n f a [] I = .inr I' → ∀ M', LI M0 M' I' → M' 6952 19 = 0 → M' 6952 20 = -1 → K (.inl none) e M') →
      im_T g d 358 13 [some (.ref 6952), none] [] e M K := by
  intro N
  induction N with
  | zero => intro f a I M hN hf; omega
  | succ N ih =>
    intro f a I M hN hf ha0 han hT h20 hL hKf hKs
    obtain ⟨f, rfl⟩ : ∃ g, f = g + 1 := ⟨f - 1, by omega⟩
    have hk := tk_ok (t := t) han
    have e1 : inp t n (f + 1) a [] I = if (tk t n a).2.2.1 = 41 then .inr I else if ¬ (28 ≤ (tk t n a).2.2.1 ∧ (tk t n a).2.2.1 ≤ 30) then .inl (ftk (tk t n a).2.2.1, (tk t n a).1) else if I.1 = 40 then .inl (9, (tk t n a).1) else inp t n f (tk t n a).2.1 (shI (tk t n a).2.2.1) (ipB I (tk t n a).2.2.1) := rfl
    rw [e1] at hKf hKs
    generalize (tk t n a).1 = p at hk hKf hKs hT
    generalize (tk t n a).2.1 = q at hk hKf hKs hT
    generalize (tk t n a).2.2.1 = ty at hk hKf hKs hT
    generalize (tk t n a).2.2.2.1 = nm at hk hT
    generalize (tk t n a).2.2.2.2 = v at hk
    clear e1
    have hT' := hT
    obtain ⟨h14, h15, h16, h17, h18, h19⟩ := hT
    obtain ⟨hJ, h46, hI, hE, h7⟩ := id hL
    have hkp := tkn_p hk
    have hap := hk.1
    have r0 := (rk_vals ty).2.2.1
    by_cases h41 : ty = 41
    · rw [if_pos h41] at hKs
      have hr : rk ty = 0 := r0.mpr h41
      refine b_readInputs_13 (by omega) ?_
      rw [h15, hr]
      exact ⟨fun h => by omega, fun h => by omega, fun _ => hKs I rfl M hL h19 h20⟩
    rw [if_neg h41] at hKf hKs
    have hq := tkn_q hk h41
    obtain ⟨q1, q2, q3, q4, q5, -⟩ := hq
    have hr0 : rk ty ≠ 0 := fun z => h41 (r0.mp z)
    have hr2 := rk_2 q4 (show ty ≤ 41 by omega)
    by_cases h28 : ¬ (28 ≤ ty ∧ ty ≤ 30)
    · rw [if_pos h28] at hKf
      refine b_readInputs_13 (by omega) ?_
      have hno : ¬ (rk ty = 2 ∧ (M 6952 18 = 28259031251642740 ∨ M 6952 18 = 109300196926309 ∨ M 6952 18 = 121424973489785)) := by
        intro ⟨z1, z2⟩
        have z3 := hr2.mp z1
        rw [h18 (Or.inl z3), tkn_kw hk z3.1 z3.2] at z2
        obtain ⟨k1, k2, k3⟩ := kw3 z3.1 z3.2
        rw [k1, k2, k3] at z2
        omega
      rw [h15, h19]
      refine ⟨fun h => absurd ?_ hno, fun _ => ?_, fun h => by omega⟩
      · rcases h with ⟨_, _, u, w⟩ | ⟨_, _, u, _, w⟩ | ⟨_, _, u, _, _, w⟩
        · exact ⟨u, Or.inl w⟩
        · exact ⟨u, Or.inr (Or.inl w)⟩
        · exact ⟨u, Or.inr (Or.inr w)⟩
      · refine c_failTok hT' (by omega) (fun M2 b1 b2 b3 b4 => ⟨rfl, rfl, ?_⟩)
        have hp := ftk_pos ty
        exact l_rif (by omega) (by omega) (hKf _ _ rfl M2 (hJ.tx b1 (fun k a b => b2 k (by omega) (by omega))) b3 hp.1 b4)
    · rw [if_neg h28] at hKf hKs
      have h28 : 28 ≤ ty ∧ ty ≤ 30 := Decidable.not_not.mp h28
      have hr : rk ty = 2 := hr2.mpr ⟨by omega, by omega⟩
      have h18k : M 6952 18 = kwv ty := by rw [h18 (by omega)]; exact tkn_kw hk (by omega) (by omega)
      obtain ⟨k1, k2, k3⟩ := kw3 (ty := ty) (by omega) (by omega)
      refine b_readInputs_13 (by omega) ?_
      rw [h15, h19, hr, h18k, h46]
      refine ⟨fun _ => ⟨fun h40 => ?_, fun h40 => ?_⟩, fun h => ?_, fun h => by omega⟩
      · rw [if_neg h40] at hKf hKs
        have h1 : im_i32 (I.1 + 1) := by constructor <;> omega
        have x8 : M 6952 8 = M0 6952 8 := hJ.2.1 8 (by decide) (by decide) (by decide)
        have x6 := hJ.2.2.2
        refine c_readInput (i := I.1) (hrt.tx (hJ.2.1 13 (by decide) (by decide) (by decide)) (hJ.1 6959 (by decide) (by decide) (by decide))) hT' hkp h20 (by omega) h28 (by rw [x8]; exact h8) (by omega) (by omega) ⟨by omega, by omega⟩ (by omega) (fun M1 X1 R1 E1 => ⟨rfl, rfl, ?_⟩)
        obtain ⟨y1, y2⟩ := inp_in1 (t := t) (n := n) (ty := ty) (q := q) (I := I) (f := f) (by omega) (by omega)
        have x46 : M1 6952 46 = I.1 := by rw [X1.2.1 46 (by decide) (by decide)]; exact h46
        rw [x46]
        have hJ1 := hJ.ix X1
        have hJ2 : JX M0 (im_u M1 6952 46 (I.1 + 1)) := hJ1.tx (fun x hx => im_u_ne _ _ _ hx) (fun k a _ => im_rdk _ _ _ a)
        refine ⟨h1, fun hne => ?_, fun heq => ?_⟩
        · cases hs : (in1 t n ty q).1 with
          | inl z =>
            rw [hs] at R1
            obtain ⟨c1, c2, c3⟩ := R1
            exact l_rif (by rw [im_rdk _ _ _ (by decide)]; exact hne) (by omega) (hKf z.1 z.2 (y1 z hs) _ hJ2 (by rw [im_rdk _ _ _ (by decide)]; exact c1) c2 (by rw [im_rdk _ _ _ (by decide)]; exact c3))
          | inr a' => rw [hs] at R1; exact absurd R1.1 hne
        · cases hs : (in1 t n ty q).1 with
          | inl z =>
            rw [hs] at R1
            obtain ⟨c1, c2, c3⟩ := R1
            omega
          | inr a' =>
            rw [hs] at R1
            obtain ⟨c1, c2, c3, c4, c5⟩ := R1
            obtain ⟨w1, w2, f', w0, w3, w4⟩ := y2 a' hs
            have hk2 := tk_ok (t := t) w2
            refine c_look (M := im_u M1 6952 46 (I.1 + 1)) (t := t) (n := n) (hrt.tx (hJ2.2.1 13 (by decide) (by decide) (by decide)) (hJ2.1 6959 (by decide) (by decide) (by decide))) (by rw [im_rdk _ _ _ (by decide)]; exact c3) c4 hk2 (by omega) (fun M2 L2 => ⟨rfl, rfl, ?_⟩)
            obtain ⟨l1, l2, l3, l4, l5, l6, l7⟩ := L2
            have l1' : ∀ x, x ≠ 6952 → M2 x = M1 x := fun x hx => (l1 x hx).trans (im_u_ne _ _ _ hx)
            have l2' : ∀ k, k ≠ 46 → (k < 14 ∨ 18 < k) → M2 6952 k = M1 6952 k := fun k a b => (l2 k b).trans (im_rdk _ _ _ a)
            have z7 : M2 6952 7 = M1 6952 7 := l2' 7 (by decide) (by decide)
            have X7 := X1.2.2.2.1
            have hfu : f' ≤ N := by omega
            refine ih f' a' (ipF I ty (in1 t n ty q).2) M2 hfu w3 c4 w2 ⟨l3, l4, l5, l6, l7, (l2' 19 (by decide) (by decide)).trans c1⟩ ((l2' 20 (by decide) (by decide)).trans c2) ⟨hJ1.tx l1' (fun k a b => l2' k a (by omega)), ?_, ?_, fun j j0 j1 => ?_, ?_⟩ (fun c pp hc => hKf c pp (w4.trans hc)) (fun I' hI' => hKs I' (w4.trans hI'))
            · rw [l2 46 (by decide), im_rds, ipF_n]
            · rw [ipF_n]; constructor <;> omega
            · rw [ipF_n] at j1
              rw [z7]
              by_cases hj : j = I.1
              · subst hj
                have E1 := E1 a' hs
                have o := ipF_s (I := I) (ty := ty) (x := (in1 t n ty q).2)
                obtain ⟨o1, o2, o3⟩ := o
                refine IR.tx (M := M1) ?_ l1'
                by_cases h30 : ty = 30
                · obtain ⟨g1, g2, g3, g4, g5⟩ := E1
                  rw [o1]
                  exact ⟨g1, g2, g3, fun z => absurd h30 z, fun z => absurd z (by omega)⟩
                · by_cases h29 : ty = 29
                  · have o3 := o3 h29
                    have f2 : (ipF I ty (in1 t n ty q).2).2.2.1 I.1 = (in1 t n ty q).2.1 := congrArg (fun x => x.2.1) o3
                    have f3 : (ipF I ty (in1 t n ty q).2).2.2.2.1 I.1 = (in1 t n ty q).2.2.1 := congrArg (fun x => x.2.2.1) o3
                    have f5 : (ipF I ty (in1 t n ty q).2).2.2.2.2.2 I.1 = (in1 t n ty q).2.2.2.2 := congrArg (fun x => x.2.2.2.2) o3
                    obtain ⟨g1, g2, g3, g4, g5⟩ := E1
                    rw [o1, f2, f3, f5]
                    exact ⟨g1, g2, g3, g4, fun z => absurd z (by omega)⟩
                  · have o2 := o2 (by omega)
                    have f2 : (ipF I ty (in1 t n ty q).2).2.2.1 I.1 = (in1 t n ty q).2.1 := congrArg (fun x => x.2.1) o2
                    have f3 : (ipF I ty (in1 t n ty q).2).2.2.2.1 I.1 = (in1 t n ty q).2.2.1 := congrArg (fun x => x.2.2.1) o2
                    have f4 : (ipF I ty (in1 t n ty q).2).2.2.2.2.1 I.1 = (in1 t n ty q).2.2.2.1 := congrArg (fun x => x.2.2.2.1) o2
                    have f5 : (ipF I ty (in1 t n ty q).2).2.2.2.2.2 I.1 = (in1 t n ty q).2.2.2.2 := congrArg (fun x => x.2.2.2.2) o2
                    rw [o1, f2, f3, f4, f5]
                    exact E1
              · refine IRi.of (I := I) ?_ (ipF_o hj)
                exact IR.tx (IR.ix (hE j j0 (by omega)) X1 hj (Int.le_refl _) X7.1) l1'
            · rw [z7, ipF_n]; omega
      · rw [if_pos h40] at hKf
        refine c_failR h19 h16 (by decide) (fun M2 b1 b2 b3 b4 => ⟨rfl, rfl, ?_⟩)
        exact l_rif (by omega) (by omega) (hKf _ _ rfl M2 (hJ.tx b1 (fun k a b => b2 k (by omega) (by omega))) b3 (by decide) b4)
      · exfalso
        rcases h with ⟨_, _, u⟩ | ⟨_, _, _, u, v, w⟩
        · exact u rfl
        · rw [k1] at u; rw [k2] at v; rw [k3] at w
          omega
theorem c_readInputs {I0 : Ip} (hrt : rtx M t n) (h8 : M 6952 8 = 0 ∨ M 6952 8 = 1) (h60 : 0 ≤ M 6952 6) (h6 : M 6952 6 + 12382 ≤ 1100000) (hd : 7 ≤ d)
    (hKf : ∀ c pp, inpT t n I0 = .inl (c, pp) → ∀ M', JX M M' → M' 6952 19 = c → 0 < c → M' 6952 20 = pp → K (.inl none) e M')
    (hKs : ∀ I', inpT t n I0 = .inr I' → ∀ M', LI M M' I' → M' 6952 19 = 0 → M' 6952 20 = -1 → K (.inl none) e M') :
    im_T g d 358 0 [some (.ref 6952), none] [] e M K := by
  refine b_readInputs_0 (by omega) (b_beginText_0 ⟨rfl, rfl, ?_⟩)
  generalize hM0 : im_u (im_u (im_u (im_u (im_u M 6952 14 0) 6952 19 0) 6952 20 (-1)) 6952 7 (M 6952 6)) 6952 46 0 = N
  have m1 : ∀ x, x ≠ 6952 → N x = M x := fun x hx => by rw [← hM0, im_u_ne _ _ _ hx, im_u_ne _ _ _ hx, im_u_ne _ _ _ hx, im_u_ne _ _ _ hx, im_u_ne _ _ _ hx]
  have m2 : ∀ k, k ≠ 7 → k ≠ 46 → (k < 14 ∨ 20 < k) → N 6952 k = M 6952 k := fun k k1 k3 k2 => by rw [← hM0, im_rdk _ _ _ k3, im_rdk _ _ _ k1, im_rdk _ _ _ (by omega), im_rdk _ _ _ (by omega), im_rdk _ _ _ (by omega)]
  have v46 : N 6952 46 = 0 := by rw [← hM0, im_rds]
  have v7 : N 6952 7 = M 6952 6 := by rw [← hM0, im_rdk _ _ _ (by decide), im_rds]
  have v20 : N 6952 20 = -1 := by rw [← hM0, im_rdk _ _ _ (by decide), im_rdk _ _ _ (by decide), im_rds]
  have v19 : N 6952 19 = 0 := by rw [← hM0, im_rdk _ _ _ (by decide), im_rdk _ _ _ (by decide), im_rdk _ _ _ (by decide), im_rds]
  have v14 : N 6952 14 = 0 := by rw [← hM0, im_rdk _ _ _ (by decide), im_rdk _ _ _ (by decide), im_rdk _ _ _ (by decide), im_rdk _ _ _ (by decide), im_rds]
  clear hM0
  have hn0 : 0 ≤ n := hrt.2.1
  have hJ : JX M N := ⟨fun x a _ _ => m1 x a, m2, fun j _ => by rw [m1 6955 (by decide)], by omega⟩
  refine c_look (hrt.tx (m2 13 (by decide) (by decide) (by decide)) (m1 6959 (by decide))) v14 (Int.le_refl _) (tk_ok hn0) (by omega) (fun M2 L2 => ⟨rfl, rfl, ?_⟩)
  obtain ⟨l1, l2, l3, l4, l5, l6, l7⟩ := L2
  exact l_readInputs (M0 := M) hrt h8 h60 h6 hd (n.toNat + 2) (n.toNat + 2) 0 (0, I0.2) M2 (Nat.le_refl _) (by omega) (Int.le_refl _) hn0 ⟨l3, l4, l5, l6, l7, (l2 19 (by decide)).trans v19⟩ ((l2 20 (by decide)).trans v20) ⟨hJ.tx l1 (fun k a b => l2 k (by omega)), (l2 46 (by decide)).trans v46, ⟨Int.le_refl _, show (0 : Int) ≤ 40 by decide⟩, fun j j0 j1 => by have j1 : j < 0 := j1; omega, by rw [l2 7 (by decide), v7]; show _ ≤ _ + 302 * 0; omega⟩ hKf hKs
end RINP3

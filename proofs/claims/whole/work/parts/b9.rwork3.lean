theorem ends_ex (D : Int → Int) {m i : Int} (hi : i < m) : ∃ e, ends D m i e := by
  have : ∀ (j : Nat) (a : Int), a + j = m → i < a → (∀ x, i < x → x < a → D i < D x) → ∃ e, ends D m i e := by
    intro j
    induction j with
    | zero => intro a ha h1 h2; exact ⟨a, h1, by omega, h2, fun z => by omega⟩
    | succ j ih =>
      intro a ha h1 h2
      by_cases h : D i < D a
      · refine ih (a + 1) (by omega) (by omega) (fun x x0 x1 => ?_)
        by_cases hx : x = a
        · rw [hx]; exact h
        · exact h2 x x0 (by omega)
      · exact ⟨a, h1, by omega, h2, fun _ => by omega⟩
  exact this (m - i - 1).toNat (i + 1) (by omega) (by omega) (fun x x0 x1 => by omega)
theorem ends_in {D : Int → Int} {m n e c ec : Int} (h : ends D m n e) (hc : c < e) (hd : D n < D c) (h2 : ends D m c ec) : ec ≤ e := by
  obtain ⟨a1, a2, a3, a4⟩ := h
  obtain ⟨b1, b2, b3, b4⟩ := h2
  apply Decidable.byContradiction
  intro hn
  have := b3 e hc (by omega)
  have := a4 (by omega)
  omega
theorem ends_lt {D : Int → Int} {m n e c : Int} (h : ends D m n e) (hc : n < c) (hm : c < m) (hd : ∀ j, n < j → j ≤ c → D n < D j) : c < e := by
  obtain ⟨a1, a2, a3, a4⟩ := h
  apply Decidable.byContradiction
  intro hn
  have := hd e a1 (by omega)
  have := a4 (by omega)
  omega
def EH (M : im_M) (R : Rw) (m : Int) (Γ : Env) (T : Int) : Prop := RP M R m ∧ RE M Γ T ∧ T ≤ M 6952 7 ∧ M 6952 6 ≤ M 6952 7 ∧ 0 ≤ M 6952 7
theorem EF.eh {p q : Int} {M M' : im_M} {R : Rw} {m : Int} {Γ : Env} {T : Int} (h : EF p q M M') (hE : EH M R m Γ T) : EH M' R m Γ T := by
  obtain ⟨a1, a2, a3, a4, a5⟩ := hE
  have := h.2.2.2.2.2
  exact ⟨h.rp a1 a4, h.re a2 a3, by omega, by rw [h.2.1 6 (by decide) (by decide) (by decide) (by decide)]; omega, by omega⟩
section RWORK3
variable {g : im_g} {d : Nat} {e : im_E} {K : im_K} {R : Rw} {m T : Int} {Γ : Env} {n9 mk : Int}
theorem l_ev {B : Int} (hW : WFP R m) (hd : 8 ≤ d) (hTB : T ≤ B) : ∀ (f : Nat) (n e' p q : Int) (M : im_M), 0 ≤ n → n < m → (vkd (R 0 n) ∨ okd (R 0 n)) → ends (R 1) m n e' → EH M R m Γ T → M 6952 6 ≤ B → B ≤ M 6952 7 → M 6952 7 + 660 * (e' - n) ≤ 1100000 → 101 ≤ R 1 n + f → 0 ≤ p → p ≤ R 1 n → 0 ≤ q → q ≤ R 1 n → ES M n p q 0 →
    (∀ M' x, ev R Γ f n = some x → EF p q M M' → M' 6952 122 = p → M' 6952 124 = q + 1 → M' 6952 8 = 0 → M' 6952 7 ≤ M 6952 7 + 660 * (e' - n) → (vkd (R 0 n) → rnp M' 0 (M' 6952 7) (M' 7036 q) x ∧ (M' 7036 q < B → rnp M' 0 B (M' 7036 q) x)) → (okd (R 0 n) → M' 7036 q = x) → im_T g d 379 66 [some (.ref 6952), some (vI n9), some (vI mk), none, none, none] [] e M' K) →
    (∀ M', ev R Γ f n = none → EF 0 0 M M' → M' 6952 8 = 1 → im_T g d 379 66 [some (.ref 6952), some (vI n9), some (vI mk), none, none, none] [] e M' K) →
    im_T g d 379 66 [some (.ref 6952), some (vI n9), some (vI mk), none, none, none] [] e M K := by
  intro f
  induction f with
  | zero =>
    intro n e' p q M n0 n1 _ _ _ _ _ _ hf
    have := (hW.2.2 n n0 n1).2.2.1
    omega
  | succ f ih =>
    intro n e' p q M n0 n1 hk hen hE h6B hBM h7 hf p0 p1 q0 q1 hS hKs hKl
    obtain ⟨tr, nv, ⟨D0, D1⟩, _⟩ := hW.2.2 n n0 n1
    have hm := hW.2.1
    obtain ⟨hP, hRE, hT, h6, h70⟩ := id hE
    have hene := hen.1
    replace hk : Wr (vkd (R 0 n) ∨ okd (R 0 n)) := hk
    by_cases hl : lfk (R 0 n)
    · replace hl : Wr (lfk (R 0 n)) := hl
      have hev : ev R Γ (f + 1) n = some (lfv R Γ n) := by
        show (if _ then _ else _) = _
        rw [if_pos (show lfk (R 0 n) from hl)]
      exact w_leaf hP hRE hTB h6B hBM h70 (by omega) n0 n1 hm hk hl hS (by omega) (by omega) (by omega) (fun M' a b c d' f' h1 h2 => hKs M' _ hev a b c d' (by omega) h1 h2)
    obtain ⟨⟨k1, k2, k3, k4⟩, k5, k6⟩ := kids_v tr hk hl
    replace hl : Wr (¬ lfk (R 0 n)) := hl
    replace k5 : Wr (R 0 n ≠ 7 → R 0 n ≠ 19 → nx R (n + 1) (R 17 n) ∧ n + 1 < R 17 n ∧ R 17 n < m ∧ R 1 (R 17 n) = R 1 n + 1 ∧ bgn (srt2 (R 0 n)) (R 0 (R 17 n))) := k5
    replace k6 : Wr (R 0 n = 16 → nx R (R 17 n) (R 18 n) ∧ R 17 n < R 18 n ∧ R 18 n < m ∧ R 1 (R 18 n) = R 1 n + 1 ∧ bgn 118 (R 0 (R 18 n))) := k6
    replace k4 : Wr (bgn (srt1 (R 0 n)) (R 0 (n + 1))) := k4
    have hev : ev R Γ (f + 1) n = (ev R Γ f (n + 1)).bind (fun x => if R 0 n = 7 then some (-x) else if R 0 n = 19 then some (1 - x) else if R 0 n = 16 then (if x = 1 then ev R Γ f (R 17 n) else ev R Γ f (R 18 n)) else (ev R Γ f (R 17 n)).bind (fun y => opv (R 0 n) x y)) := by
      show (if _ then _ else _) = _
      rw [if_neg (show ¬ lfk (R 0 n) from hl), k1]
    rw [hev] at hKs hKl
    obtain ⟨e1, he1⟩ := ends_ex (R 1) (m := m) (i := n + 1) k2
    have hlt1 : n + 1 < e' := ends_lt hen (by omega) k2 (fun j j1 j2 => by rw [show j = n + 1 by omega]; omega)
    have hle1 : e1 ≤ e' := ends_in hen hlt1 (by omega) he1
    have he1n := he1.1
    refine w_push (c := n + 1) hP n0 n1 hm hk hl hS (Or.inl ⟨rfl, k1.symm⟩) (by omega) (by omega) (by omega) (fun M1 X1 a1 a2 a3 a4 a5 => ?_)
    refine ih (n + 1) e1 (p + 1) q M1 (by omega) k2 (bgn_s (show bgn (srt1 (R 0 n)) (R 0 (n + 1)) from k4) (srt1_2 _)) he1 (X1.eh hE) (by rw [X1.2.1 6 (by decide) (by decide) (by decide) (by decide)]; exact h6B) (by omega) (by omega) (by omega) (by omega) (by omega) (by omega) (by omega) a3 (fun M2 x hx X2 b1 b2 b3 b4 b5 b6 => ?_) (fun M2 hx X2 b1 => ?_)
    · -- the first part is there
      rw [hx] at hKs hKl
      have X12 : EF p q M M2 := X1.trans X2 (by omega) (Int.le_refl _)
      have h712 := X12.2.2.2.2.2
      have hE2 := X12.eh hE
      obtain ⟨hP2, hRE2, hT2, h62, h702⟩ := id hE2
      have s34 : M2 7034 p = n := (X2.2.2.2.1 p (by omega)).1.trans a1
      have s35 : M2 7035 p = 1 := (X2.2.2.2.1 p (by omega)).2.trans a2
      replace b5 : Wr (vkd (R 0 (n + 1)) → rnp M2 0 (M2 6952 7) (M2 7036 q) x ∧ (M2 7036 q < B → rnp M2 0 B (M2 7036 q) x)) := b5
      replace b6 : Wr (okd (R 0 (n + 1)) → M2 7036 q = x) := b6
      have hS2 : ES M2 n p (q + 1) 1 := ⟨by omega, s34, s35, b2, b3⟩
      have V1 : Wr (srt1 (R 0 n) = 118 → rnp M2 0 (M2 6952 7) (M2 7036 q) x) := fun hs => by
        have k4 : bgn (srt1 (R 0 n)) (R 0 (n + 1)) := k4
        rw [hs] at k4; exact (b5 (bgn_v k4)).1
      have U1 : Wr (srt1 (R 0 n) = 111 → M2 7036 q = x ∧ (x = 0 ∨ x = 1)) := fun hs => by
        have k4 : bgn (srt1 (R 0 n)) (R 0 (n + 1)) := k4
        rw [hs] at k4
        exact ⟨b6 (bgn_o k4), ev_01 hW f (n + 1) x (by omega) k2 (bgn_o k4) hx⟩
      by_cases c1 : R 0 n = 7 ∨ R 0 n = 19
      · have hss : Wr ((R 0 n = 7 → srt1 (R 0 n) = 118) ∧ (R 0 n = 19 → srt1 (R 0 n) = 111)) := ⟨fun z => by rw [z]; rfl, fun z => by rw [z]; rfl⟩
        have hss1 := (show (R 0 n = 7 → srt1 (R 0 n) = 118) ∧ (R 0 n = 19 → srt1 (R 0 n) = 111) from hss)
        replace hss1 : Wr _ := hss1
        replace c1 : Wr (R 0 n = 7 ∨ R 0 n = 19) := c1
        refine w_un (x := x) hP2 n0 n1 hm c1 hS2 h702 (by omega) (fun z => V1 ((show (R 0 n = 7 → srt1 (R 0 n) = 118) ∧ (R 0 n = 19 → srt1 (R 0 n) = 111) from hss).1 z)) (fun z => U1 ((show (R 0 n = 7 → srt1 (R 0 n) = 118) ∧ (R 0 n = 19 → srt1 (R 0 n) = 111) from hss).2 z)) (by omega) (by omega) (by omega) (fun M3 X3 d1 d2 d3 d4 d5 d6 => ?_)
        have hX := X12.trans X3 (Int.le_refl _) (Int.le_refl _)
        replace d5 : Wr (R 0 n = 7 → rnp M3 0 (M3 6952 7) (M3 7036 q) (-x) ∧ M2 6952 7 ≤ M3 7036 q) := d5
        replace d6 : Wr (R 0 n = 19 → M3 7036 q = 1 - x) := d6
        have h72 := X12.2.2.2.2.2
        by_cases c7 : R 0 n = 7
        · have d57 := d5 c7
          exact hKs M3 (-x) (by show (if R 0 n = 7 then _ else _) = _; rw [if_pos c7]) hX d1 d2 d3 (by omega) (fun _ => ⟨d57.1, fun z => by have := d57.2; omega⟩) (fun z => by rw [c7] at z; unfold okd at z; omega)
        · have c19 : R 0 n = 19 := by
            rcases c1 with z | z
            · exact absurd z c7
            · exact z
          exact hKs M3 (1 - x) (by show (if R 0 n = 7 then _ else _) = _; rw [if_neg c7, if_pos c19]) hX d1 d2 d3 (by omega) (fun z => by rw [c19] at z; unfold vkd at z; omega) (fun _ => d6 c19)
      have c7 : R 0 n ≠ 7 := fun z => c1 (Or.inl z)
      have c19 : R 0 n ≠ 19 := fun z => c1 (Or.inr z)
      clear c1
      obtain ⟨j1, j2, j3, j4, j5⟩ := k5 c7 c19
      replace j5 : Wr (bgn (srt2 (R 0 n)) (R 0 (R 17 n))) := j5
      have he17 : e1 = R 17 n := ends_nx j1 j3 he1
      have hd17 : ∀ j, n < j → j ≤ R 17 n → R 1 n < R 1 j := fun j z1 z2 => by
        by_cases hj : j = n + 1
        · rw [hj]; omega
        · by_cases hj2 : j = R 17 n
          · rw [hj2]; omega
          · have := j1.2.1 j (by omega) (by omega); omega
      have hlt17 : R 17 n < e' := ends_lt hen (by omega) j3 hd17
      by_cases c16 : R 0 n = 16
      · obtain ⟨i1, i2, i3, i4, i5⟩ := k6 c16
        obtain ⟨hu1, _⟩ := U1 (by rw [c16]; rfl)
        have s2 : srt2 (R 0 n) = 118 := by rw [c16]; rfl
        have j5 : bgn (srt2 (R 0 n)) (R 0 (R 17 n)) := j5
        rw [s2] at j5
        replace j5 : Wr (bgn 118 (R 0 (R 17 n))) := j5
        replace i5 : Wr (bgn 118 (R 0 (R 18 n))) := i5
        have hd18 : ∀ j, n < j → j ≤ R 18 n → R 1 n < R 1 j := fun j z1 z2 => by
          by_cases hj : j ≤ R 17 n
          · exact hd17 j z1 hj
          · by_cases hj2 : j = R 18 n
            · rw [hj2]; omega
            · have := i1.2.1 j (by omega) (by omega); omega
        have hlt18 : R 18 n < e' := ends_lt hen (by omega) i3 hd18
        generalize hcc : (if M2 7036 q = 1 then R 17 n else R 18 n) = c
        have hcb : Wr ((x = 1 ∧ c = R 17 n) ∨ (x ≠ 1 ∧ c = R 18 n)) := by
          show _ ∨ _
          rw [hu1] at hcc
          by_cases hx1 : x = 1
          · rw [if_pos hx1] at hcc; exact Or.inl ⟨hx1, hcc.symm⟩
          · rw [if_neg hx1] at hcc; exact Or.inr ⟨hx1, hcc.symm⟩
        have hce : Wr (bgn 118 (R 0 c)) ∧ R 17 n ≤ c ∧ c < m ∧ c < e' ∧ R 1 c = R 1 n + 1 := by
          rcases hcb with ⟨_, z⟩ | ⟨_, z⟩
          · rw [z]; exact ⟨j5, Int.le_refl _, j3, hlt17, j4⟩
          · rw [z]; exact ⟨i5, by omega, i3, hlt18, i4⟩
        have hec : (if R 0 n = 7 then some (-x) else if R 0 n = 19 then some (1 - x) else if R 0 n = 16 then (if x = 1 then ev R Γ f (R 17 n) else ev R Γ f (R 18 n)) else (ev R Γ f (R 17 n)).bind (fun y => opv (R 0 n) x y)) = ev R Γ f c := by
          rw [if_neg c7, if_neg c19, if_pos c16]
          rcases hcb with ⟨z, z'⟩ | ⟨z, z'⟩
          · rw [if_pos z, z']
          · rw [if_neg z, z']
        obtain ⟨e2, he2⟩ := ends_ex (R 1) (m := m) (i := c) hce.2.2.1
        have hle2 : e2 ≤ e' := ends_in hen hce.2.2.2.1 (by omega) he2
        have he2n := he2.1
        refine w_cond (c := c) hP2 n0 n1 hm c16 hS2 hcc.symm (by omega) (by omega) (by omega) (by omega) (fun M3 X3 d1 d2 => ?_)
        have hX := X12.trans X3 (Int.le_refl _) (Int.le_refl _)
        refine ih c e2 p q M3 (by omega) hce.2.2.1 (Or.inl (bgn_v (show bgn 118 (R 0 c) from hce.1))) he2 (hX.eh hE) (by rw [hX.2.1 6 (by decide) (by decide) (by decide) (by decide)]; exact h6B) (by omega) (by omega) (by omega) p0 (by omega) q0 (by omega) d1 (fun M4 y hy X4 f1 f2 f3 f4 f5 f6 => ?_) (fun M4 hy X4 f1 => ?_)
        · exact hKs M4 y (hec.trans hy) (hX.trans X4 (Int.le_refl _) (Int.le_refl _)) f1 f2 f3 (by omega) (fun _ => f5 (bgn_v (show bgn 118 (R 0 c) from hce.1))) (fun z => by rw [c16] at z; unfold okd at z; omega)
        · exact hKl M4 (hec.trans hy) ((hX.mono p0 q0).trans X4 (Int.le_refl _) (Int.le_refl _)) f1
      · have hec : (if R 0 n = 7 then some (-x) else if R 0 n = 19 then some (1 - x) else if R 0 n = 16 then (if x = 1 then ev R Γ f (R 17 n) else ev R Γ f (R 18 n)) else (ev R Γ f (R 17 n)).bind (fun y => opv (R 0 n) x y)) = (ev R Γ f (R 17 n)).bind (fun y => opv (R 0 n) x y) := by
          rw [if_neg c7, if_neg c19, if_neg c16]
        obtain ⟨e2, he2⟩ := ends_ex (R 1) (m := m) (i := R 17 n) j3
        have hle2 : e2 ≤ e' := ends_in hen hlt17 (by omega) he2
        have he2n := he2.1
        refine w_push (c := R 17 n) hP2 n0 n1 hm hk hl hS2 (Or.inr ⟨rfl, rfl, c16, c7, c19⟩) (by omega) (by omega) (by omega) (fun M3 X3 d1 d2 d3 d4 d5 => ?_)
        have hX3 : EF p q M M3 := X12.trans X3 (Int.le_refl _) (by omega)
        refine ih (R 17 n) e2 (p + 1) (q + 1) M3 (by omega) j3 (bgn_s (show bgn (srt2 (R 0 n)) (R 0 (R 17 n)) from j5) (srt2_2 _)) he2 (hX3.eh hE) (by rw [hX3.2.1 6 (by decide) (by decide) (by decide) (by decide)]; exact h6B) (by have := hX3.2.2.2.2.2; omega) (by omega) (by omega) (by omega) (by omega) (by omega) (by omega) d3 (fun M4 y hy X4 f1 f2 f3 f4 f5 f6 => ?_) (fun M4 hy X4 f1 => ?_)
        · have hX4 : EF p q M M4 := hX3.trans X4 (by omega) (by omega)
          obtain ⟨hP4, hRE4, hT4, h64, h704⟩ := hX4.eh hE
          have g34 : M4 7034 p = n := (X4.2.2.2.1 p (by omega)).1.trans d1
          have g35 : M4 7035 p = 2 := (X4.2.2.2.1 p (by omega)).2.trans d2
          have g36 : M4 7036 q = M2 7036 q := (X4.2.2.2.2.1 q (by omega)).trans (d5 q)
          have hX24 : EF p (q + 1) M2 M4 := X3.trans X4 (by omega) (Int.le_refl _)
          have h724 := hX24.2.2.2.2.2
          replace f5 : Wr (vkd (R 0 (R 17 n)) → rnp M4 0 (M4 6952 7) (M4 7036 (q + 1)) y ∧ (M4 7036 (q + 1) < B → rnp M4 0 B (M4 7036 (q + 1)) y)) := f5
          replace f6 : Wr (okd (R 0 (R 17 n)) → M4 7036 (q + 1) = y) := f6
          have j5 : bgn (srt2 (R 0 n)) (R 0 (R 17 n)) := j5
          have hec2 : (ev R Γ f (R 17 n)).bind (fun y => opv (R 0 n) x y) = opv (R 0 n) x y := by rw [hy]; rfl
          have h714 := hX4.2.2.2.2.2
          refine w_join (x := x) (y := y) hP4 n0 n1 hm hk hl ⟨c16, c7, c19⟩ ⟨by omega, g34, g35, f2, f3⟩ h704 (by omega) (fun z17 z18 => ⟨?_, ?_⟩) (fun z => ⟨⟨?_, ?_⟩, ?_, ?_⟩) (by omega) (by omega) (by omega) (fun M5 X5 l1 l2 l3 l4 l5 => ?_)
          · rw [g36]
            exact rnp_congr (V1 (srt1_118 c16 z17 z18 c19)) (fun i hi => hX24.2.2.1 i hi) h724
          · have s2 : srt2 (R 0 n) = 118 := srt2_118 z17 z18
            rw [s2] at j5
            exact (f5 (bgn_v j5)).1
          · rw [g36]; exact (U1 (by rcases z with z | z <;> rw [z] <;> rfl)).1
          · have s2 : srt2 (R 0 n) = 111 := by rcases z with z | z <;> rw [z] <;> rfl
            rw [s2] at j5
            exact f6 (bgn_o j5)
          · exact (U1 (by rcases z with z | z <;> rw [z] <;> rfl)).2
          · have s2 : srt2 (R 0 n) = 111 := by rcases z with z | z <;> rw [z] <;> rfl
            rw [s2] at j5
            exact ev_01 hW f (R 17 n) y (by omega) j3 (bgn_o j5) hy
          · have hX5 := hX4.trans X5 (Int.le_refl _) (Int.le_refl _)
            cases ho : opv (R 0 n) x y with
            | none => exact hKl M5 (hec.trans (hec2.trans ho)) (hX5.mono p0 q0) (l5 ho)
            | some w =>
              obtain ⟨m1, m2, m3⟩ := l4 w ho
              exact hKs M5 w (hec.trans (hec2.trans ho)) hX5 l1 l2 m1 (by omega) (fun z => ⟨(m2 z).1, fun z' => by have := (m2 z).2; omega⟩) m3
        · exact hKl M4 (hec.trans (by rw [hy]; rfl)) ((hX3.mono p0 q0).trans X4 (Int.le_refl _) (Int.le_refl _)) f1
    · rw [hx] at hKl
      exact hKl M2 rfl ((X1.mono p0 q0).trans X2 (Int.le_refl _) (Int.le_refl _)) b1
end RWORK3

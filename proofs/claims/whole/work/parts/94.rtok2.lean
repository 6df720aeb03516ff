section RTOK2
variable {g : im_g} {d : Nat} {e : im_E} {M M0 : im_M} {K : im_K}
theorem l_cl93 {t : Int → Int} {n p q z : Int} (ht : rtx M t n) (h16 : M 6952 16 = p) (h17 : M 6952 17 = q) (hp0 : 0 ≤ p) (hq : q ≤ n) (hz : zrT t (sgn t p) q z) (hs0 : 0 ≤ sgn t p)
    (hK : K (.inl none) e (im_u M 6952 15 (if q - z ≤ 300 then 1 else 10))) :
    ∀ (j : Nat) (i : Int), i + j = z → sgn t p ≤ i → im_T g d 279 93 [some (.ref 6952), none, none, some (vI i), none] [] e M K := by
  obtain ⟨ht1, ht2, ht3, ht4⟩ := ht
  obtain ⟨z1, z2, z3, z4⟩ := hz
  intro j
  induction j with
  | zero =>
    intro i hi hsi
    obtain rfl : i = z := by omega
    refine b_classify_93 ?_
    rw [h17]
    refine ⟨by constructor <;> omega, fun c => ⟨by constructor <;> omega, fun c2 => ?_⟩, fun c => ⟨by constructor <;> omega, fun x hx => ?_⟩⟩
    · have := ht4 i (by omega) (by omega)
      have h5 := z4 c
      omega
    · have : x = if q - i ≤ 300 then 1 else 10 := by split <;> omega
      rw [this]; exact hK
  | succ j ih =>
    intro i hi hsi
    have h5 := z3 i hsi (by omega)
    have h6 := ht4 i (by omega) (by omega)
    refine b_classify_93 ?_
    rw [h17]
    refine ⟨by constructor <;> omega, fun c => ⟨by constructor <;> omega, fun c2 => ih (i + 1) (by omega) (by omega)⟩, fun c => ?_⟩
    omega
theorem l_cl44 {t : Int → Int} {n p q ty nm v : Int} (ht : rtx M t n) (h16 : M 6952 16 = p) (h17 : M 6952 17 = q) (hp0 : 0 ≤ p) (hpq : p < q) (hq : q ≤ n) (hw : wrd t p q ty nm v) (hd : 2 ≤ d)
    (hK : ∀ M', (∀ x, x ≠ 6952 → M' x = M x) → (∀ k, k ≠ 15 → k ≠ 18 → M' 6952 k = M 6952 k) → M' 6952 15 = rk ty → ((0 ≤ ty ∧ ty ≤ 33) ∨ ty = 35 ∨ ty = 36 → M' 6952 18 = nm) → K (.inl none) e M') :
    ∀ (j : Nat) (i c : Int), i + j = q → sgn t p ≤ i → ((c = 1 ∧ sgn t p < q ∧ ∀ x, sgn t p ≤ x → x < i → 48 ≤ t x ∧ t x ≤ 57) ∨ (c = 0 ∧ ¬ dgT t (sgn t p) q)) → im_T g d 279 44 [some (.ref 6952), some (vI (sgn t p)), some (vI c), some (vI i), none] [] e M K := by
  have ht' := ht
  obtain ⟨ht1, ht2, ht3, ht4⟩ := ht'
  have hs0 : 0 ≤ sgn t p := by unfold sgn; split <;> omega
  have hs1 : sgn t p ≤ q := by unfold sgn; split <;> omega
  have hB := ht4 p hp0 (by omega)
  intro j
  induction j with
  | zero =>
    intro i c hi hsi hc
    obtain rfl : i = q := by omega
    refine b_classify_44 (by omega) ?_
    rw [h16, h17, hB.1]
    rcases hc with ⟨c1, c2, c3⟩ | ⟨c1, c2⟩
    · subst c1
      refine ⟨by constructor <;> omega, ⟨fun _ => ⟨by constructor <;> omega, fun z => absurd z (by decide), fun _ => ?_⟩, fun z => absurd z (by omega)⟩, fun x hx => by omega⟩
      have hdg : dgT t (sgn t p) i := ⟨c2, c3⟩
      rcases hw with ⟨_, z, hz, hty⟩ | ⟨hn, _⟩ | ⟨hn, _⟩
      · refine l_cl93 ht h16 h17 hp0 hq hz hs0 (hK _ (fun x hx => im_u_ne _ _ _ hx) (fun k hk _ => im_rdk _ _ _ hk) ?_ (fun w => by omega)) (z - sgn t p).toNat (sgn t p) (by have := hz.1; omega) (Int.le_refl _)
        rw [im_rds]
        rcases hty with ⟨w1, w2⟩ | ⟨w1, w2, _⟩
        · rw [if_neg (by omega), w2]; rfl
        · rw [if_pos w1, w2]; rfl
      · exact absurd hdg hn
      · exact absurd hdg hn
    · subst c1
      refine ⟨by constructor <;> omega, ⟨fun _ => ⟨by constructor <;> omega, fun _ => by constructor <;> omega, fun z => absurd rfl z⟩, fun z => absurd z (by omega)⟩, fun x hx y hy => ?_⟩
      have hy2 : y = ask t p := by unfold ask; split <;> omega
      subst hy2
      have hx2 : (t p = 63 ∧ x = 1) ∨ (t p ≠ 63 ∧ x = 0) := by omega
      have ha0 : 0 ≤ ask t p := by unfold ask; split <;> omega
      have ha1 : ask t p ≤ i := by unfold ask; split <;> omega
      refine c_nameOf ht ha0 (by omega) hq ha1 (by omega) (fun hnm => ⟨_, rfl, rfl, ?_, ?_⟩) (fun hnm => ⟨_, rfl, rfl, by constructor <;> decide, ?_⟩)
      · have := pak_63 hnm
        constructor <;> omega
      · have h63 := pak_63 hnm
        rcases hw with ⟨hn, _⟩ | ⟨_, hn, _⟩ | ⟨_, _, hnme, r, hr, hty⟩
        · exact absurd hn c2
        · exact absurd hnm hn
        · rw [hnme] at hr
          generalize hM1 : im_u M 6952 18 (pak t (ask t p) (i - ask t p).toNat) = M1
          have f18 : M1 6952 18 = nm := by rw [← hM1, im_rds, hnme]
          have hfr : ∀ z, (∀ x, x ≠ 6952 → im_u M1 6952 15 z x = M x) := fun z x hx => by rw [im_u_ne _ _ _ hx, ← hM1, im_u_ne _ _ _ hx]
          have hfk : ∀ z, (∀ k, k ≠ 15 → k ≠ 18 → im_u M1 6952 15 z 6952 k = M 6952 k) := fun z k h1 h2 => by rw [im_rdk _ _ _ h1, ← hM1, im_rdk _ _ _ h2]
          have hri : -1 ≤ r ∧ r < 34 := by
            rcases hr with ⟨h1, _⟩ | ⟨h1, h2, _⟩ <;> omega
          have hrk : 0 ≤ ty → ty < 34 → rk ty = 2 := fun z1 z2 => by
            unfold rk
            rw [if_neg (by omega), if_neg (by omega), if_neg (by omega), if_neg (by omega), if_neg (by omega), if_neg (by omega), if_neg (by omega), if_neg (by omega), if_neg (by omega), if_neg (by omega)]
          refine c_isKeyword (by constructor <;> omega) hr (fun hr1 => ⟨_, rfl, rfl, ?_⟩) (fun hr1 => ⟨_, rfl, rfl, ?_⟩)
          · rw [f18]
            refine ⟨fun _ _ => by constructor <;> omega, fun w => hK _ (hfr _) (hfk _) ?_ (fun w2 => by omega), fun w => ⟨fun _ => by constructor <;> omega, fun u hu => hK _ (hfr _) (hfk _) ?_ (fun _ => by rw [im_rdk _ _ _ (by decide)]; exact f18)⟩⟩
            · rw [im_rds, show ty = -1 from by omega]; rfl
            · rw [im_rds, hrk (by omega) (by omega)]; omega
          · rw [f18]
            refine ⟨fun _ _ => by constructor <;> omega, fun w => by omega, fun w => ⟨fun _ => by constructor <;> omega, fun u hu => hK _ (hfr _) (hfk _) ?_ (fun _ => by rw [im_rdk _ _ _ (by decide)]; exact f18)⟩⟩
            rw [im_rds]
            rcases hx2 with ⟨g1, g2⟩ | ⟨g1, g2⟩
            · rw [show ty = 35 from by omega, show u = 4 from by omega]; rfl
            · rw [show ty = 36 from by omega, show u = 3 from by omega]; rfl
      · obtain ⟨r, hr⟩ := kwr_ex 0
        have hty : ty = -1 := by
          rcases hw with ⟨hn, _⟩ | ⟨_, _, h⟩ | ⟨_, hn, _⟩
          · exact absurd hn c2
          · exact h
          · exact absurd hn hnm
        have hend : ∀ x31 : Int, (((¬ (im_u M 6952 18 0 6952 18) = 0 → ((¬ x = 0 → (im_i32 x31)))))) ∧ (((((im_u M 6952 18 0 6952 18) = 0)) ∨ ((¬ (im_u M 6952 18 0 6952 18) = 0) ∧ (¬ x = 0) ∧ (¬ x31 = 0))) → K (.inl none) e (im_u (im_u M 6952 18 0) 6952 15 9)) ∧ ((((¬ (im_u M 6952 18 0 6952 18) = 0) ∧ (x = 0)) ∨ ((¬ (im_u M 6952 18 0 6952 18) = 0) ∧ (¬ x = 0) ∧ (x31 = 0))) → ((((x = 0 → (im_i32 x31)))) ∧ (∀ x46 : Int, (((x = 0) ∧ (x31 = 0) ∧ x46 = 3) ∨ ((x = 0) ∧ (¬ x31 = 0) ∧ x46 = 2) ∨ ((¬ x = 0) ∧ x46 = 4)) → K (.inl none) e (im_u (im_u M 6952 18 0) 6952 15 x46)))) := by
          intro x31
          rw [im_rds]
          refine ⟨fun w => absurd rfl w, fun _ => hK _ (fun y hy => by rw [im_u_ne _ _ _ hy, im_u_ne _ _ _ hy]) (fun k h1 h2 => by rw [im_rdk _ _ _ h1, im_rdk _ _ _ h2]) ?_ (fun w => by omega), fun w => by omega⟩
          rw [im_rds, hty]; rfl
        exact c_isKeyword (by constructor <;> decide) hr (fun _ => ⟨_, rfl, rfl, hend _⟩) (fun _ => ⟨_, rfl, rfl, hend _⟩)
  | succ j ih =>
    intro i c hi hsi hc
    have hBi := ht4 i (by omega) (by omega)
    refine b_classify_44 (by omega) ?_
    rw [h16, h17, hB.1, hBi.1]
    refine ⟨by constructor <;> omega, ⟨fun z => absurd z (by omega), fun _ => ⟨by constructor <;> omega, fun z => ?_, fun z => ⟨by constructor <;> omega, ?_⟩⟩⟩, fun x hx => by omega⟩
    · refine ih (i + 1) 0 (by omega) (by omega) (Or.inr ⟨rfl, ?_⟩)
      rcases hc with ⟨c1, _⟩ | ⟨_, c2⟩
      · omega
      · exact c2
    · obtain ⟨c1, c2, c3⟩ : c = 1 ∧ sgn t p < q ∧ ∀ x, sgn t p ≤ x → x < i → 48 ≤ t x ∧ t x ≤ 57 := by
        rcases hc with h | ⟨h, _⟩
        · exact h
        · exact absurd h z
      refine c_isIn (by constructor <;> omega) (by constructor <;> decide) (by constructor <;> decide) (fun hc => ⟨_, rfl, rfl, by constructor <;> omega, fun z => absurd z (by decide), fun _ => ?_⟩) (fun hc => ⟨_, rfl, rfl, by constructor <;> omega, fun _ => ?_, fun z => absurd rfl z⟩)
      · refine ih (i + 1) 1 (by omega) (by omega) (Or.inl ⟨rfl, c2, fun x x0 x1 => ?_⟩)
        by_cases hxi : x = i
        · subst hxi; exact hc
        · exact c3 x x0 (by omega)
      · exact ih (i + 1) 0 (by omega) (by omega) (Or.inr ⟨rfl, fun w => hc (w.2 i hsi (by omega))⟩)
theorem c_classify {t : Int → Int} {n p q ty nm v : Int} (ht : rtx M t n) (h16 : M 6952 16 = p) (h17 : M 6952 17 = q) (hp0 : 0 ≤ p) (hpq : p < q) (hq : q ≤ n) (hw : wrd t p q ty nm v) (hd : 2 ≤ d)
    (hK : ∀ M', (∀ x, x ≠ 6952 → M' x = M x) → (∀ k, k ≠ 15 → k ≠ 18 → M' 6952 k = M 6952 k) → M' 6952 15 = rk ty → ((0 ≤ ty ∧ ty ≤ 33) ∨ ty = 35 ∨ ty = 36 → M' 6952 18 = nm) → K (.inl none) e M') : im_T g d 279 0 [some (.ref 6952), none, none, none, none] [] e M K := by
  have ht' := ht
  obtain ⟨ht1, ht2, ht3, ht4⟩ := ht'
  have hB := ht4 p hp0 (by omega)
  have hs1 : sgn t p ≤ q := by unfold sgn; split <;> omega
  refine b_classify_0 ?_
  rw [h16, h17, hB.1]
  refine ⟨by constructor <;> omega, fun x hx => ⟨by constructor <;> omega, fun y hy => ?_⟩⟩
  have hx2 : x = sgn t p := by unfold sgn; split <;> omega
  subst hx2
  refine l_cl44 ht h16 h17 hp0 hpq hq hw hd hK (q - sgn t p).toNat (sgn t p) y (by omega) (Int.le_refl _) ?_
  rcases hy with ⟨a, b⟩ | ⟨a, b⟩
  · exact Or.inr ⟨b, fun z => by have := z.1; omega⟩
  · exact Or.inl ⟨b, a, fun x x0 x1 => by omega⟩
theorem l_look142 {t : Int → Int} {n p q ty nm v : Int} (ht : rtx M0 t n) (hp0 : 0 ≤ p) (hpq : p < q) (hq : q ≤ n) (hin : ∀ i, p ≤ i → i < q → 32 < t i ∧ ¬ brk (t i)) (hend : q < n → t q ≤ 32 ∨ brk (t q)) (hw : wrd t p q ty nm v) (hd : 3 ≤ d)
    (hK : ∀ M', lkP M0 M' p q ty nm → K (.inl none) e M') :
    ∀ (j : Nat) (i : Int) (M : im_M), i + j = q → p ≤ i → (∀ x, x ≠ 6952 → M x = M0 x) → (∀ k, k < 14 ∨ 18 < k → M 6952 k = M0 6952 k) → M 6952 14 = p → M 6952 16 = p → M 6952 17 = i → im_T g d 277 142 [some (.ref 6952), none] [] e M K := by
  have ht' := ht
  obtain ⟨ht1, ht2, ht3, ht4⟩ := ht'
  have hCl : ∀ (M : im_M), (∀ x, x ≠ 6952 → M x = M0 x) → (∀ k, k < 14 ∨ 18 < k → M 6952 k = M0 6952 k) → M 6952 14 = p → M 6952 16 = p → M 6952 17 = q → im_T g (d - 1) 279 0 [some (.ref 6952), none, none, none, none] [] e M (im_r0 (fun e_ M13 => e = e_ ∧ K (.inl none) e M13)) := by
    intro M hF hF2 h14 h16 h17
    refine c_classify (t := t) (n := n) (nm := nm) (v := v) ⟨by rw [hF2 13 (by decide)]; exact ht1, ht2, ht3, fun i i0 i1 => by rw [hF 6959 (by decide)]; exact ht4 i i0 i1⟩ h16 h17 hp0 hpq hq hw (by omega) (fun M' g1 g2 g3 g4 => ⟨rfl, rfl, hK M' ⟨fun x hx => (g1 x hx).trans (hF x hx), fun k hk => (g2 k (by omega) (by omega)).trans (hF2 k hk), (g2 14 (by decide) (by decide)).trans h14, g3, (g2 16 (by decide) (by decide)).trans h16, (g2 17 (by decide) (by decide)).trans h17, g4⟩⟩)
  intro j
  induction j with
  | zero =>
    intro i M hi hpi hF hF2 h14 h16 h17
    obtain rfl : i = q := by omega
    have e13 : M 6952 13 = n := (hF2 13 (by decide)).trans ht1
    have eT : M 6959 = M0 6959 := hF _ (by decide)
    refine b_look0_142 (by omega) ?_
    rw [e13, h17, eT]
    refine ⟨fun c => ⟨by constructor <;> omega, fun c2 => ?_⟩, fun _ => hCl M hF hF2 h14 h16 h17⟩
    have hB := ht4 i (by omega) c
    have he := hend c
    rw [hB.1] at c2 ⊢
    have hbk : brk (t i) := by
      rcases he with z | z
      · omega
      · exact z
    exact c_isBracket (by constructor <;> omega) (fun _ => ⟨_, rfl, rfl, by constructor <;> omega, fun _ => hCl M hF hF2 h14 h16 h17, fun z => absurd z (by decide)⟩) (fun z => absurd hbk z)
  | succ j ih =>
    intro i M hi hpi hF hF2 h14 h16 h17
    have e13 : M 6952 13 = n := (hF2 13 (by decide)).trans ht1
    have eT : M 6959 = M0 6959 := hF _ (by decide)
    have hB := ht4 i (by omega) (by omega)
    obtain ⟨hn1, hn2⟩ := hin i hpi (by omega)
    refine b_look0_142 (by omega) ?_
    rw [e13, h17, eT, hB.1]
    refine ⟨fun c => ⟨by constructor <;> omega, fun c2 => ?_⟩, fun c => by omega⟩
    refine c_isBracket (by constructor <;> omega) (fun z => absurd z hn2) (fun _ => ⟨_, rfl, rfl, by constructor <;> omega, fun z => absurd rfl z, fun _ => ?_⟩)
    rw [h17]
    refine ⟨by constructor <;> omega, ih (i + 1) _ (by omega) (by omega) (fun x hx => (im_u_ne _ _ _ hx).trans (hF x hx)) (fun k hk => (im_rdk _ _ _ (by omega)).trans (hF2 k hk)) ((im_rdk _ _ _ (by decide)).trans h14) ((im_rdk _ _ _ (by decide)).trans h16) (im_rds _ _ _ _)⟩
theorem l_look {t : Int → Int} {n a p q ty nm v : Int} (ht : rtx M0 t n) (ha0 : 0 ≤ a) (htk : tkn t n a p q ty nm v) (hd : 3 ≤ d)
    (hK : ∀ M', lkP M0 M' p q ty nm → K (.inl none) e M') :
    ∀ (j : Nat) (i : Int) (M : im_M), i + j = p → a ≤ i → (∀ x, x ≠ 6952 → M x = M0 x) → (∀ k, k ≠ 14 → M 6952 k = M0 6952 k) → M 6952 14 = i → im_T g d 277 0 [some (.ref 6952), none] [] e M K := by
  have ht' := ht
  obtain ⟨ht1, ht2, ht3, ht4⟩ := ht'
  obtain ⟨hap, hpn, hbl, hor⟩ := htk
  intro j
  induction j with
  | zero =>
    intro i M hi hai hF hF2 h14
    obtain rfl : i = p := by omega
    have e13 : M 6952 13 = n := (hF2 13 (by decide)).trans ht1
    have eT : M 6959 = M0 6959 := hF _ (by decide)
    rcases hor with ⟨h1, h2, h3⟩ | ⟨h1, h2, hor⟩
    · refine b_look0_0 (by omega) ?_
      rw [e13, h14, eT]
      refine ⟨fun c => by omega, fun _ => ⟨fun c => absurd h1 c, fun _ => hK _ ?_⟩⟩
      refine ⟨fun x hx => ?_, fun k hk => ?_, ?_, ?_, ?_, ?_, fun w => by omega⟩
      · rw [im_u_ne _ _ _ hx, im_u_ne _ _ _ hx, im_u_ne _ _ _ hx, im_u_ne _ _ _ hx]; exact hF x hx
      · rw [im_rdk _ _ _ (by omega), im_rdk _ _ _ (by omega), im_rdk _ _ _ (by omega), im_rdk _ _ _ (by omega)]; exact hF2 k (by omega)
      · rw [im_rdk _ _ _ (by decide), im_rdk _ _ _ (by decide), im_rdk _ _ _ (by decide), im_rdk _ _ _ (by decide)]; exact h14
      · rw [im_rds, h3]; rfl
      · rw [im_rdk _ _ _ (by decide), im_rdk _ _ _ (by decide), im_rdk _ _ _ (by decide), im_rds]
      · rw [im_rdk _ _ _ (by decide), im_rdk _ _ _ (by decide), im_rds]; omega
    · have hB := ht4 i (by omega) h1
      refine b_look0_0 (by omega) ?_
      rw [e13, h14, eT, hB.1]
      refine ⟨fun c => ⟨by constructor <;> omega, fun c2 => by omega⟩, fun _ => ⟨fun c => ⟨by constructor <;> omega, ?_⟩, fun c => by omega⟩⟩
      generalize hM1 : im_u (im_u (im_u M 6952 16 i) 6952 17 i) 6952 18 0 = M1
      have g1 : ∀ x, x ≠ 6952 → M1 x = M0 x := fun x hx => by rw [← hM1, im_u_ne _ _ _ hx, im_u_ne _ _ _ hx, im_u_ne _ _ _ hx]; exact hF x hx
      have g2 : ∀ k, k < 14 ∨ 18 < k → M1 6952 k = M0 6952 k := fun k hk => by rw [← hM1, im_rdk _ _ _ (by omega), im_rdk _ _ _ (by omega), im_rdk _ _ _ (by omega)]; exact hF2 k (by omega)
      have g14 : M1 6952 14 = i := by rw [← hM1, im_rdk _ _ _ (by decide), im_rdk _ _ _ (by decide), im_rdk _ _ _ (by decide)]; exact h14
      have g16 : M1 6952 16 = i := by rw [← hM1, im_rdk _ _ _ (by decide), im_rdk _ _ _ (by decide), im_rds]
      have g17 : M1 6952 17 = i := by rw [← hM1, im_rdk _ _ _ (by decide), im_rds]
      rcases hor with ⟨k1, k2, k3⟩ | ⟨k1, k2, k3, k4, k5, k6⟩
      · refine c_isBracket (by constructor <;> omega) (fun _ => ⟨_, rfl, rfl, by constructor <;> omega, fun z => absurd z (by decide), fun _ => ?_⟩) (fun z => absurd k1 z)
        rw [g14]
        refine ⟨by constructor <;> omega, fun x hx => hK _ ?_⟩
        refine ⟨fun x hx => ?_, fun k hk => ?_, ?_, ?_, ?_, ?_, fun w => ?_⟩
        · rw [im_u_ne _ _ _ hx, im_u_ne _ _ _ hx]; exact g1 x hx
        · rw [im_rdk _ _ _ (by omega), im_rdk _ _ _ (by omega)]; exact g2 k hk
        · rw [im_rdk _ _ _ (by decide), im_rdk _ _ _ (by decide)]; exact g14
        · rw [im_rds, k3]
          unfold brk at k1
          rcases k1 with w | w | w | w <;> rw [w] at hx ⊢ <;> simp at hx ⊢ <;> rw [hx] <;> rfl
        · rw [im_rdk _ _ _ (by decide), im_rdk _ _ _ (by decide)]; exact g16
        · rw [im_rdk _ _ _ (by decide), im_rds]; omega
        · exfalso
          rw [k3] at w
          revert w
          (repeat' split) <;> decide
      · refine c_isBracket (by constructor <;> omega) (fun z => absurd z k1) (fun _ => ⟨_, rfl, rfl, by constructor <;> omega, fun _ => ?_, fun z => absurd rfl z⟩)
        exact l_look142 (M0 := M0) ht (by omega) k2 k3 k4 k5 k6 hd hK (q - i).toNat i M1 (by omega) (Int.le_refl _) g1 g2 g14 g16 g17
  | succ j ih =>
    intro i M hi hai hF hF2 h14
    have e13 : M 6952 13 = n := (hF2 13 (by decide)).trans ht1
    have eT : M 6959 = M0 6959 := hF _ (by decide)
    have hB := ht4 i (by omega) (by omega)
    have h1 := hbl i hai (by omega)
    refine b_look0_0 (by omega) ?_
    rw [e13, h14, eT, hB.1]
    refine ⟨fun c => ⟨by constructor <;> omega, fun c2 => ⟨by constructor <;> omega, ?_⟩⟩, fun c => by omega⟩
    exact ih (i + 1) _ (by omega) (by omega) (fun x hx => (im_u_ne _ _ _ hx).trans (hF x hx)) (fun k hk => (im_rdk _ _ _ hk).trans (hF2 k hk)) (im_rds _ _ _ _)
theorem c_look {t : Int → Int} {n a p q ty nm v : Int} (ht : rtx M t n) (h14 : M 6952 14 = a) (ha0 : 0 ≤ a) (htk : tkn t n a p q ty nm v) (hd : 3 ≤ d)
    (hK : ∀ M', lkP M M' p q ty nm → K (.inl none) e M') : im_T g d 277 0 [some (.ref 6952), none] [] e M K :=
  l_look (M0 := M) ht ha0 htk hd hK (p - a).toNat a M (by have := htk.1; omega) (Int.le_refl _) (fun _ _ => rfl) (fun _ _ => rfl) h14
/-- the number of a token, laid at the pool's top -/
theorem l_tn69 {t : Int → Int} {n p q s : Int} {N : Nat} (ht : rtx M0 t n) (h16 : M0 6952 16 = p) (h17 : M0 6952 17 = q) (hq : q ≤ n) (hN : N ≤ 300) (hNq : N ≤ q) (h8 : M0 6952 8 = 0 ∨ M0 6952 8 = 1) (hdg : dok 10 (tdg t q) 0 N) (h70 : 0 ≤ M0 6952 7) (h71 : M0 6952 7 + 2 + N ≤ 1100000) (hsp : 0 ≤ s) (hss : s ≤ 16385) (hd : 1 ≤ d)
    (hK : ∀ (M' : im_M) (k : Nat), RF [] [7, 8] (M0 6952 7) M0 M' → rn (M' 6955) (M0 6952 7) k ((if s = p then 1 else -1) * dv 10 (tdg t q) 0 N) → k ≤ N → M' 6952 7 = M0 6952 7 + 2 + k → M' 6952 8 = M0 6952 8 → K (.inl (some (vI (M0 6952 7)))) e M') :
    ∀ (j k : Nat) (M : im_M), k + j = N → RF [] [] (M0 6952 7) M0 M → (∀ i : Int, 0 ≤ i → i < k → M 6955 (M0 6952 7 + 2 + i) = tdg t q i) → im_T g d 291 69 [some (.ref 6952), some (vI s), some (vI (M0 6952 7)), some (vI N), some (vI k)] [] e M K := by
  have ht' := ht
  obtain ⟨ht1, ht2, ht3, ht4⟩ := ht'
  intro j
  induction j with
  | zero =>
    intro k M hk hF hc
    obtain rfl : k = N := by omega
    have f16 : M 6952 16 = p := (hF.2.1 16 (by decide)).trans h16
    have f8 : M 6952 8 = M0 6952 8 := hF.2.1 8 (by decide)
    have hs : ∀ i : Int, 0 ≤ i → i < k → tdg t q (0 + i) = M 6955 (M0 6952 7 + 2 + i) := fun i i0 i1 => by rw [Int.zero_add]; exact (hc i i0 i1).symm
    refine b_tokenNumber_69 hd ?_
    rw [f16]
    refine ⟨by constructor <;> omega, by constructor <;> omega, ⟨fun _ => by constructor <;> omega, fun z => absurd z (by omega)⟩, fun x hx => ?_⟩
    have hx2 : x = if s = p then 1 else -1 := by split <;> omega
    refine c_close h70 (by omega) (by omega) (dok_congr hs hdg) (fun z => by omega) (fun M' k' hF' hr' hk' ht' h8' => ⟨_, rfl, rfl, hK M' k' ?_ ?_ hk' ht' ?_⟩)
    · exact (hF.mono (by decide) (by decide) (Int.le_refl _)).trans hF'
    · rw [← hx2, dv_congr hs]; exact hr'
    · rw [h8', f8]
      rcases h8 with w | w
      · rw [w, if_pos ⟨rfl, by omega⟩]
      · rw [w, if_neg (by omega)]
  | succ j ih =>
    intro k M hk hF hc
    have f17 : M 6952 17 = q := (hF.2.1 17 (by decide)).trans h17
    have fT : M 6959 = M0 6959 := hF.1 6959 (by decide) (by decide) (by decide)
    have hB := ht4 (q - 1 - k) (by omega) (by omega)
    have hdk := hdg k (by omega) (by omega)
    rw [Int.zero_add] at hdk
    refine b_tokenNumber_69 hd ?_
    rw [f17, fT, hB.1]
    have e1 : t (q - 1 - k) - 48 = tdg t q k := rfl
    rw [e1]
    refine ⟨by constructor <;> omega, by constructor <;> omega, ⟨fun z => absurd z (by omega), fun _ => ⟨by constructor <;> omega, by constructor <;> omega, by constructor <;> omega, ?_⟩⟩, fun x hx => by omega⟩
    refine ih (k + 1) _ (by omega) (hF.pool (by omega) _) (fun i i0 i1 => ?_)
    by_cases hi : i = k
    · subst hi; rw [im_rds]
    · rw [im_rdk _ _ _ (by omega)]; exact hc i i0 (by omega)
theorem l_tn40 {t : Int → Int} {n p q z : Int} (ht : rtx M t n) (h17 : M 6952 17 = q) (hq : q ≤ n) (hs0 : 0 ≤ sgn t p) (hz : zrT t (sgn t p) q z) (r : Int)
    (hK : im_T g d 291 69 [some (.ref 6952), some (vI (sgn t p)), some (vI r), some (vI (q - z)), some (vI 0)] [] e M K) :
    ∀ (j : Nat) (i : Int), i + j = z → sgn t p ≤ i → im_T g d 291 40 [some (.ref 6952), some (vI (sgn t p)), some (vI r), some (vI (q - i)), none] [] e M K := by
  obtain ⟨ht1, ht2, ht3, ht4⟩ := ht
  obtain ⟨z1, z2, z3, z4⟩ := hz
  intro j
  induction j with
  | zero =>
    intro i hi hsi
    obtain rfl : i = z := by omega
    refine b_tokenNumber_40 ?_
    rw [h17, show q - (q - i) = i from by omega]
    refine ⟨by constructor <;> omega, fun c => ⟨by constructor <;> omega, fun c2 => ?_⟩, fun _ => hK⟩
    have h5 := z4 (by omega)
    have := ht4 i (by omega) (by omega)
    omega
  | succ j ih =>
    intro i hi hsi
    have h5 := z3 i hsi (by omega)
    have h6 := ht4 i (by omega) (by omega)
    refine b_tokenNumber_40 ?_
    rw [h17, show q - (q - i) = i from by omega, show q - i + -1 = q - (i + 1) from by omega]
    exact ⟨by constructor <;> omega, fun c => ⟨by constructor <;> omega, fun c2 => ih (i + 1) (by omega) (by omega)⟩, fun c => by omega⟩
theorem c_tokenNumber {t : Int → Int} {n p q nm v : Int} (ht : rtx M t n) (h16 : M 6952 16 = p) (h17 : M 6952 17 = q) (hp0 : 0 ≤ p) (hpq : p < q) (hq : q ≤ n) (hw : wrd t p q 34 nm v) (h8 : M 6952 8 = 0 ∨ M 6952 8 = 1) (h70 : 0 ≤ M 6952 7) (h71 : M 6952 7 + 302 ≤ 1100000) (hd : 1 ≤ d)
    (hK : ∀ (M' : im_M) (k : Nat), RF [] [7, 8] (M 6952 7) M M' → rn (M' 6955) (M 6952 7) k v → k ≤ 300 → M' 6952 7 = M 6952 7 + 2 + k → M' 6952 8 = M 6952 8 → K (.inl (some (vI (M 6952 7)))) e M') : im_T g d 291 0 [some (.ref 6952), none, none, none, none] [] e M K := by
  have ht' := ht
  obtain ⟨ht1, ht2, ht3, ht4⟩ := ht'
  have hB := ht4 p hp0 (by omega)
  have hs0 : 0 ≤ sgn t p := by unfold sgn; split <;> omega
  obtain ⟨hdg, z, hz, hs3, hve⟩ : dgT t (sgn t p) q ∧ ∃ z, zrT t (sgn t p) q z ∧ q - z ≤ 300 ∧ v = nval t p q z := by
    rcases hw with ⟨a, z, hz, h⟩ | ⟨_, _, h⟩ | ⟨_, _, _, r, hr, h⟩
    · refine ⟨a, z, hz, ?_⟩
      rcases h with ⟨_, w⟩ | ⟨w1, _, w2⟩
      · omega
      · exact ⟨w1, w2⟩
    · omega
    · exfalso
      rcases hr with ⟨h1, _⟩ | ⟨h1, h2, _⟩ <;> omega
  have hz1 := hz.1
  have hz2 := hz.2.1
  refine b_tokenNumber_0 ?_
  rw [h16, h17, hB.1]
  refine ⟨by constructor <;> omega, fun x hx => ?_⟩
  have hx2 : x = sgn t p := by unfold sgn; split <;> omega
  subst hx2
  refine l_tn40 ht h17 hq hs0 hz (M 6952 7) ?_ (z - sgn t p).toNat (sgn t p) (by omega) (Int.le_refl _)
  have eN : q - z = (((q - z).toNat : Nat) : Int) := by omega
  rw [eN]
  have hdk : dok 10 (tdg t q) 0 (q - z).toNat := fun i i0 i1 => by
    unfold tdg
    have := hdg.2 (q - 1 - (0 + i)) (by omega) (by omega)
    omega
  have hsle : sgn t p ≤ 16385 := by unfold sgn; split <;> omega
  refine l_tn69 (M0 := M) ht h16 h17 hq (by omega) (by omega) h8 hdk h70 (by omega) hs0 hsle hd (fun M' k g1 g2 g3 g4 g5 => hK M' k g1 ?_ (by omega) g4 g5) (q - z).toNat 0 M (by omega) (RF.rf _ _ _ _) (fun i i0 i1 => by omega)
  rw [hve]
  unfold nval
  rw [show (if t p = 45 then (-1 : Int) else 1) = (if sgn t p = p then 1 else -1) from by
    unfold sgn
    by_cases h : t p = 45
    · rw [if_pos h, if_pos h, if_neg (by omega)]
    · rw [if_neg h, if_neg h, if_pos rfl]]
  exact g2
end RTOK2

/-- the step keeps it -/
theorem XE_same {R R' : Rw} {y : en} (h : XE R y) (hs : ckd y.1 → y.2.1 ≠ -1 → 1 ≤ y.2.2.1 ∧ y.2.2.1 ≤ 3) (hR : ∀ (f : Nat) (j : Int), (f < 3 ∨ (16 ≤ f ∧ f ≤ 19)) → R' f j = R f j) : XE R' y := by
  obtain ⟨h1, h2, h3⟩ := h
  refine ⟨fun a b => ?_, fun a => ?_, fun a => ?_⟩
  · have := hs a b
    rw [hR _ _ (by omega)]; exact h1 a b
  · rw [hR 0 _ (by omega)]; exact h2 a
  · rw [hR 0 _ (by omega)]; exact h3 a
theorem ent_up {x : en} {l r : List en} {i c : Int} (hx : x.1 ≠ c) (h : ∃ y ∈ x :: r, y.1 = c ∧ y.2.1 = i) : ∃ y ∈ l ++ r, y.1 = c ∧ y.2.1 = i := by
  obtain ⟨y, hy, y1, y2⟩ := h
  rcases List.mem_cons.mp hy with e | e
  · rw [e] at y1; exact absurd y1 hx
  · exact ⟨y, List.mem_append_right _ e, y1, y2⟩
theorem caseR_16m {R : Rw} {m ow : Int} (ho : ow ≠ m) : caseR R m ow 16 m = -1 ∧ caseR R m ow 18 m = -1 := by
  have e : ∀ f : Nat, (f = 16 ∨ f = 18) → newN (im_u R 3 ow (R 3 ow + 1)) m 31 ow f m = -1 := fun f hf => newN_l _ _ _ _ f (by omega)
  unfold caseR
  refine ⟨?_, ?_⟩
  · rw [im_rdn _ _ _ _ (by decide)]
    by_cases c : R 3 ow = 0
    · rw [if_pos c, im_rdk _ _ _ (fun z => ho z.symm)]; exact e 16 (Or.inl rfl)
    · rw [if_neg c, im_rdn _ _ _ _ (by decide)]; exact e 16 (Or.inl rfl)
  · rw [im_rdk _ _ _ (fun z => ho z.symm)]
    by_cases c : R 3 ow = 0
    · rw [if_pos c, im_rdn _ _ _ _ (by decide)]; exact e 18 (Or.inr rfl)
    · rw [if_neg c, im_rdn _ _ _ _ (by decide)]; exact e 18 (Or.inr rfl)
set_option maxHeartbeats 2000000 in
theorem XI_node {lo ty nm v : Int} {x : en} {r : List en} {R : Rw} {m lw : Int} (hw : wfS lo (x :: r, R, m, lw)) (hq : Q2 lo (x :: r, R, m, lw)) (hT : TI lo (x :: r, R, m, lw)) (hnm : ty = 35 → 97 ≤ nm ∧ nm ≤ 9223372036854775807) (h : XI lo (x :: r, R, m, lw)) (hx : ckd x.1) : XI lo (shE ty m ++ r, nodR R m ty nm v x.2.1 x.2.2.1, m + 1, lw) := by
  have hent : ∀ y ∈ x :: r, y.1 ≠ 41 → ent R lo m y := hw.2.2.2.2.2.1
  have hlo : 0 ≤ lo := hw.1
  have hlm : lo ≤ m := hw.2.1
  have hdp : ∀ i, lo ≤ i → i < m → 0 ≤ R 1 i ∧ R 1 i ≤ 100 := hw.2.2.2.2.2.2.1
  obtain ⟨_, _, _, _, t5⟩ := id hT
  dsimp only at t5
  obtain ⟨n1, n2⟩ := h
  dsimp only at n1 n2
  have hx41 : x.1 ≠ 41 := by omega
  have hx49 : x.1 ≠ 49 := by omega
  have hx50 : x.1 ≠ 50 := by omega
  have hx51 : x.1 ≠ 51 := by omega
  have hek := hent x List.mem_cons_self hx41
  have hos : x.2.1 = -1 ∨ (1 ≤ x.2.2.1 ∧ x.2.2.1 ≤ 3) := by
    rcases hek.2.2 with z | z
    · exact Or.inl z.2
    · exact Or.inr (z.2.2.2.2.2.2.2.2.2.2.1 hx)
  have hom : m ≠ x.2.1 := by
    rcases hek.2.2 with z | z
    · omega
    · omega
  have hod : x.2.1 = -1 ∨ (lo ≤ x.2.1 ∧ x.2.1 < m) := by
    rcases hek.2.2 with z | z
    · exact Or.inl z.2
    · exact Or.inr ⟨z.1, z.2.1⟩
  clear hek
  have hrt2 : x.2.1 = -1 → m = lo := fun z => by
    rcases hq.2 with ⟨_, _, _, e⟩ | ⟨_, e⟩
    · exact e
    · exact absurd z (e x List.mem_cons_self hx41)
  have g : ∀ (f : Nat) (j : Int), f < 16 → j < m → nodR R m ty nm v x.2.1 x.2.2.1 f j = R f j := fun f j hf hj => nodR_ne f j (by omega) (Or.inl hf) hos
  have gl : ∀ (f : Nat) (j : Int), j < m → j ≠ x.2.1 → nodR R m ty nm v x.2.1 x.2.2.1 f j = R f j := fun f j hj ho => nodR_ne f j (by omega) (Or.inr (Or.inr ho)) hos
  have gm : ∀ (f : Nat), f ≠ 7 ∧ f ≠ 4 → nodR R m ty nm v x.2.1 x.2.2.1 f m = newN R m ty x.2.1 f m := fun f hf => nodR_m f hom hf hos
  have gm4 : nodR R m ty nm v x.2.1 x.2.2.1 4 m = if ty = 35 then nm else 0 := by
    have hl : lnk (newN R m ty x.2.1) x.2.1 x.2.2.1 m 4 m = 0 := by
      rcases hos with z | z
      · rw [z, lnk_r]; exact newN_4 _ _ _ _
      · rw [lnk_ne 4 m (Or.inl (by decide)) z]; exact newN_4 _ _ _ _
    unfold nodR setv
    by_cases c1 : ty = 34
    · rw [if_pos c1, if_neg (by omega), im_rdn _ _ _ _ (by decide)]; exact hl
    · rw [if_neg c1]
      by_cases c2 : ty = 35
      · rw [if_pos c2, if_pos c2, im_rds]
      · rw [if_neg c2, if_neg c2]; exact hl
  have gm0 := (gm 0 (by decide)).trans (newN_0 _ _ _ _)
  have gm1 := (gm 1 (by decide)).trans (newN_1 _ _ _ _)
  have gm2 := (gm 2 (by decide)).trans (newN_2 _ _ _ _)
  have gm5 := (gm 5 (by decide)).trans (newN_5 _ _ _ _)
  have gm6 := (gm 6 (by decide)).trans (newN_6 _ _ _ _)
  have gmL : ∀ f : Nat, 16 ≤ f → f ≤ 19 → nodR R m ty nm v x.2.1 x.2.2.1 f m = -1 := fun f f1 f2 => (gm f (by omega)).trans (newN_l _ _ _ _ f (by omega))
  have go : x.2.1 ≠ -1 → ∀ f, 16 ≤ f → nodR R m ty nm v x.2.1 x.2.2.1 f x.2.1 = if f = 15 + x.2.2.1.toNat then m else R f x.2.1 := fun ho f hf => nodR_ln f ho (fun z => hom z.symm) hf
  generalize nodR R m ty nm v x.2.1 x.2.2.1 = R' at g gl gm gm4 gm0 gm1 gm2 gm5 gm6 gmL go ⊢
  -- an old link is as it was, or it is the new one
  have glk : ∀ (f : Nat) (j : Int), lo ≤ j → j < m → 16 ≤ f → R' f j = R f j ∨ (j = x.2.1 ∧ f = 15 + x.2.2.1.toNat ∧ R' f j = m) := fun f j j0 hj hf => by
    by_cases hjo : j = x.2.1
    · have e := go (by omega) f hf
      by_cases c : f = 15 + x.2.2.1.toNat
      · rw [if_pos c] at e
        exact Or.inr ⟨hjo, c, by rw [hjo]; exact e⟩
      · rw [if_neg c] at e
        exact Or.inl (by rw [hjo]; exact e)
    · exact Or.inl (gl f j hj hjo)
  have hkid : x.2.1 ≠ -1 → (x.1, x.2.2.1) ∈ kids (R 0 x.2.1) := fun ho => by
    have : lo ≤ x.2.1 ∧ x.2.1 < m := by omega
    exact nodeI_kid (t5 x.2.1 this.1 this.2) List.mem_cons_self hx rfl
  have hk3 : x.2.1 ≠ -1 → R 0 x.2.1 = 3 → x.2.2.1 = 2 := fun ho hk => by
    have := hkid ho
    rw [hk] at this
    exact kids_3 this
  refine ⟨fun i i0 i1 => ?_, fun y hy => ?_⟩
  · have i1 : i < m + 1 := i1
    show XN lo R' (m + 1) i ∧ XZ (shE ty m ++ r) R' i
    by_cases him : i = m
    · subst him
      refine ⟨⟨fun z => ?_, ⟨?_, by rw [gm5]; decide, by rw [gm6]; decide⟩, fun s s1 s2 => Or.inl (gmL s s1 s2), ⟨fun s s1 s2 _ s4 => absurd (gmL s s1 (by omega)) s4, fun z => absurd (gmL 19 (by decide) (by decide)) z, fun _ z => absurd (gmL 18 (by decide) (by decide)) z⟩, fun z => ?_, fun z => ?_, fun _ s s1 s2 _ => gmL _ (by omega) (by omega)⟩, fun k1 k2 => ?_⟩
      · have ho : x.2.1 ≠ -1 := fun w => z (hrt2 w)
        have := hdp x.2.1 (by omega) (by omega)
        rw [gm1]; unfold deepOf; rw [if_neg ho]; omega
      · rw [gm4]
        by_cases c : ty = 35
        · rw [if_pos c]; exact (hnm c).2
        · rw [if_neg c]; decide
      · have ho : x.2.1 = -1 := by omega
        rw [gm2, gm0]; unfold whenOf; rw [if_pos ho]; omega
      · have ho : x.2.1 ≠ -1 := fun w => z (hrt2 w)
        have hin : lo ≤ x.2.1 ∧ x.2.1 < i := by omega
        refine ⟨x.2.1, hin.1, hin.2, Or.inl ⟨(x.1, x.2.2.1), by rw [g 0 _ (by decide) hin.2]; exact hkid ho, ?_⟩⟩
        show R' (15 + x.2.2.1.toNat) x.2.1 = i
        rw [go ho _ (by omega), if_pos rfl]
      · rw [gm0] at k1 k2 ⊢
        rw [gm4, gm5, gm6, if_neg (by omega)]
        refine ⟨⟨fun z => absurd rfl z, fun z => Or.inr ?_⟩, ⟨fun z => absurd rfl z, fun z => Or.inr ?_⟩, ⟨fun z => absurd rfl z, fun z => Or.inr ?_⟩⟩
        · obtain ⟨y, hy, e⟩ := shE_nA (n := i) z; exact ⟨y, List.mem_append_left _ hy, e⟩
        · obtain ⟨y, hy, e⟩ := shE_nB (n := i) z; exact ⟨y, List.mem_append_left _ hy, e⟩
        · obtain ⟨y, hy, e⟩ := shE_n1 (n := i) z; exact ⟨y, List.mem_append_left _ hy, e⟩
    · have hi : i < m := by omega
      obtain ⟨⟨a1, a2, a3, ⟨b1, b2, b3⟩, a5, a6, a7⟩, a8⟩ := n1 i i0 hi
      refine ⟨⟨fun z => by rw [g 1 i (by decide) hi]; exact a1 z, ?_, fun s s1 s2 => ?_, ⟨fun s s1 s2 s3 s4 => ?_, fun z => ?_, fun z z2 => ?_⟩, fun z => by rw [g 2 i (by decide) hi, g 0 i (by decide) hi]; exact a5 z, fun z => ?_, fun z s s1 s2 hy => ?_⟩, ?_⟩
      · unfold big3; rw [g 4 i (by decide) hi, g 5 i (by decide) hi, g 6 i (by decide) hi]; exact a2
      · rcases glk s i i0 hi s1 with z | ⟨_, _, z⟩
        · rw [z]; have := a3 s s1 s2; omega
        · rw [z]; omega
      · rw [g 0 i (by decide) hi] at s3
        rw [g 2 i (by decide) hi]
        rcases glk s i i0 hi s1 with z | ⟨zo, _, z⟩
        · rw [z] at s4 ⊢
          have := a3 s s1 (by omega)
          rw [g 2 _ (by decide) (by omega), g 0 _ (by decide) (by omega)]
          exact b1 s s1 s2 s3 s4
        · rw [z, gm2, gm0, zo]; unfold whenOf; rw [if_neg (by omega)]
      · rcases glk 19 i i0 hi (by decide) with w | ⟨_, w, _⟩
        · rw [w] at z ⊢
          have := a3 19 (by decide) (by decide)
          rw [g 2 _ (by decide) (by omega), g 2 i (by decide) hi]; exact b2 z
        · rcases hos with q | q
          · omega
          · omega
      · rw [g 0 i (by decide) hi] at z
        rcases glk 18 i i0 hi (by decide) with w | ⟨wo, w, _⟩
        · rw [w] at z2 ⊢
          have := a3 18 (by decide) (by decide)
          rw [g 2 _ (by decide) (by omega), g 2 i (by decide) hi]; exact b3 z z2
        · have := hk3 (by omega) (by rw [← wo]; exact z)
          omega
      · obtain ⟨p, p0, p1, hk⟩ := a6 z
        refine ⟨p, p0, p1, ?_⟩
        have hp : p < m := by omega
        unfold kin
        rw [g 0 p (by decide) hp]
        rcases hk with ⟨y, hy, e⟩ | ⟨k1, k2⟩ | ⟨k1, k2⟩
        · have := kids_sl hy
          refine Or.inl ⟨y, hy, ?_⟩
          rcases glk (15 + y.2.toNat) p p0 hp (by omega) with w | ⟨wo, w, _⟩
          · rw [w]; exact e
          · have hu := (n2 x List.mem_cons_self).1 hx (by omega)
            rw [wo, w, hu] at e
            omega
        · refine Or.inr (Or.inl ⟨k1, ?_⟩)
          rcases glk 16 p p0 hp (by omega) with w | ⟨wo, w, _⟩
          · rw [w]; exact k2
          · have := hk3 (by omega) (by rw [← wo]; exact k1)
            omega
        · refine Or.inr (Or.inr ⟨k1, ?_⟩)
          rcases glk 19 p p0 hp (by omega) with w | ⟨wo, w, _⟩
          · rw [w]; exact k2
          · rcases hos with q | q
            · omega
            · omega
      · rw [g 0 i (by decide) hi] at z hy
        rcases glk (15 + s) i i0 hi (by omega) with w | ⟨wo, w, _⟩
        · rw [w]; exact a7 z s s1 s2 hy
        · have := hkid (by omega)
          rw [← wo] at this
          have := hy _ this
          dsimp only at this
          omega
      · intro k1 k2
        rw [g 0 i (by decide) hi] at k1 k2 ⊢
        rw [g 4 i (by decide) hi, g 5 i (by decide) hi, g 6 i (by decide) hi]
        obtain ⟨⟨c1, c2⟩, ⟨c3, c4⟩, c5, c6⟩ := a8 k1 k2
        refine ⟨⟨c1, fun z => ?_⟩, ⟨c3, fun z => ?_⟩, c5, fun z => ?_⟩
        · exact (c2 z).imp id (ent_up hx49)
        · exact (c4 z).imp id (ent_up hx50)
        · exact (c6 z).imp id (ent_up hx51)
  · show XE R' y
    have hy : y ∈ shE ty m ++ r := hy
    rcases List.mem_append.mp hy with hy | hy
    · obtain ⟨yo, _, _, _, _, ysg⟩ := shE_ok (R := R') (ty := ty) (m := m) gm0 gm6 y hy
      obtain ⟨z1, z2⟩ := shE_49 y hy
      refine ⟨fun hc _ => ?_, fun z => by rw [yo, gm0]; exact z1 z, fun z => by rw [yo, gm0]; exact z2 z⟩
      have := ysg.2.2.2.2.2.2.2.2.1 hc
      rw [yo]
      exact gmL _ (by omega) (by omega)
    · obtain ⟨e1, e2, e3⟩ := n2 y (List.mem_cons_of_mem _ hy)
      have hin : y.1 ≠ 41 → y.1 ≠ 99 ∨ y.2.1 ≠ -1 → lo ≤ y.2.1 ∧ y.2.1 < m ∧ sgk R y := fun h41 h99 => by
        rcases (hent y (List.mem_cons_of_mem _ hy) h41).2.2 with z | z
        · omega
        · exact z
      refine ⟨fun hc ho => ?_, fun z => ?_, fun z => ?_⟩
      · obtain ⟨o1, o2, os⟩ := hin (by omega) (Or.inr ho)
        have := os.2.2.2.2.2.2.2.2.1 hc
        rcases glk (15 + y.2.2.1.toNat) y.2.1 o1 o2 (by omega) with w | ⟨wo, w, _⟩
        · rw [w]; exact e1 hc ho
        · have := nodeI_top (t5 y.2.1 o1 o2) hx wo.symm hy hc rfl
          omega
      · rw [g 0 _ (by decide) (hin (by omega) (Or.inl (by omega))).2.1]; exact e2 z
      · rw [g 0 _ (by decide) (hin (by omega) (Or.inl (by omega))).2.1]; exact e3 z
set_option maxHeartbeats 2000000 in
theorem XI_case {lo : Int} {x : en} {r : List en} {R : Rw} {m lw : Int} (hw : wfS lo (x :: r, R, m, lw)) (hT : TI lo (x :: r, R, m, lw)) (h : XI lo (x :: r, R, m, lw)) (hx : x.1 = 107) : XI lo ((97, m, 0, 1) :: x :: r, caseR R m x.2.1, m + 1, lw) := by
  have hent : ∀ y ∈ x :: r, y.1 ≠ 41 → ent R lo m y := hw.2.2.2.2.2.1
  have hlo : 0 ≤ lo := hw.1
  have hlm : lo ≤ m := hw.2.1
  have hdp : ∀ i, lo ≤ i → i < m → 0 ≤ R 1 i ∧ R 1 i ≤ 100 := hw.2.2.2.2.2.2.1
  obtain ⟨_, _, _, _, t5⟩ := id hT
  dsimp only at t5
  obtain ⟨n1, n2⟩ := h
  dsimp only at n1 n2
  have hin : lo ≤ x.2.1 ∧ x.2.1 < m ∧ sgk R x := by
    rcases (hent x List.mem_cons_self (by omega)).2.2 with z | z
    · omega
    · exact z
  obtain ⟨o1, o2, osg⟩ := hin
  have hk3 : R 0 x.2.1 = 3 := osg.1 hx
  have hw3 := (n1 x.2.1 o1 o2).1.2.2.2.1.2.2 hk3
  -- the chain as it stands
  obtain ⟨h16, h18, h19⟩ : (R 3 x.2.1 = 0 → R 16 x.2.1 = -1) ∧ (R 3 x.2.1 ≠ 0 → (x.2.1 < R 18 x.2.1 ∧ R 18 x.2.1 < m) ∧ 28 ≤ R 0 (R 18 x.2.1) ∧ R 0 (R 18 x.2.1) ≤ 31) ∧ (R 3 x.2.1 ≠ 0 → R 19 (R 18 x.2.1) = -1) := by
    obtain ⟨cs, q0, dn, q, a1, _⟩ := t5 x.2.1 o1 o2
    obtain ⟨b1, b2, _, b4⟩ := a1 hk3
    refine ⟨fun z => ?_, fun z => ?_, fun z => ?_⟩
    · cases cs with
      | nil => exact b1.2
      | cons c cs => rw [b2, List.length_cons] at z; omega
    · have hne : cs ≠ [] := fun w => by rw [w] at b2; exact z b2
      have hm := chc_mem cs b1 (fun j j1 j2 => by omega)
      rw [b4 hne]
      rcases chc_last cs b1 with ⟨w, _⟩ | w
      · exact absurd w hne
      · have := hm q0 w
        exact ⟨⟨this.1, this.2.1⟩, this.2.2.2.1⟩
    · have hne : cs ≠ [] := fun w => by rw [w] at b2; exact z b2
      rw [b4 hne]; exact chc_end cs b1 hne
  have g : ∀ (f : Nat) (j : Int), f < 16 → f ≠ 3 → j < m → caseR R m x.2.1 f j = R f j := fun f j hf hf3 hj => caseR_ne f j (by omega) (by omega)
  have g17 : ∀ j, j < m → caseR R m x.2.1 17 j = R 17 j := fun j hj => caseR_ne 17 j (by omega) (by omega)
  have gv : ∀ (f : Nat) (j : Int), j < m → 16 ≤ f ∧ f ≤ 19 → caseR R m x.2.1 f j = if f = 18 ∧ j = x.2.1 then m else if f = 16 ∧ j = x.2.1 ∧ R 3 x.2.1 = 0 then m else if f = 19 ∧ j = R 18 x.2.1 ∧ R 3 x.2.1 ≠ 0 then m else R f j := fun f j hj hf => caseR_v f j (by omega) hf
  have gm : ∀ f, f < 16 → caseR R m x.2.1 f m = newN (im_u R 3 x.2.1 (R 3 x.2.1 + 1)) m 31 x.2.1 f m := fun f hf => caseR_m f (by omega) (by omega)
  have gm0 := (gm 0 (by decide)).trans (newN_0 _ _ _ _)
  have gm1 : caseR R m x.2.1 1 m = R 1 x.2.1 + 1 := by
    rw [gm 1 (by decide), newN_1]; unfold deepOf; rw [if_neg (by omega), im_rdn _ _ _ _ (by decide)]
  have gm2 : caseR R m x.2.1 2 m = R 2 x.2.1 := by
    rw [gm 2 (by decide), newN_2]; unfold whenOf; rw [if_neg (by omega), im_rdn _ _ _ _ (by decide), if_neg (by decide)]; omega
  have gm4 := (gm 4 (by decide)).trans (newN_4 _ _ _ _)
  have gm5 := (gm 5 (by decide)).trans (newN_5 _ _ _ _)
  have gm6 := (gm 6 (by decide)).trans (newN_6 _ _ _ _)
  have gmL : ∀ f : Nat, 16 ≤ f → f ≤ 19 → caseR R m x.2.1 f m = -1 := fun f f1 f2 => by
    have hom : x.2.1 ≠ m := by omega
    have hf : f = 16 ∨ f = 17 ∨ f = 18 ∨ f = 19 := by omega
    rcases hf with rfl | rfl | rfl | rfl
    · exact (caseR_16m hom).1
    · rw [caseR_m 17 (by omega) (by omega)]; exact newN_l _ _ _ _ 17 (by decide)
    · exact (caseR_16m hom).2
    · exact caseR_19m (fun z => by have := h18 z; omega)
  generalize caseR R m x.2.1 = R' at g g17 gv gm gm0 gm1 gm2 gm4 gm5 gm6 gmL ⊢
  have glk : ∀ (f : Nat) (j : Int), j < m → 16 ≤ f → f ≤ 19 → R' f j = R f j ∨ (R' f j = m ∧ ((f = 18 ∧ j = x.2.1) ∨ (f = 16 ∧ j = x.2.1 ∧ R 3 x.2.1 = 0) ∨ (f = 19 ∧ j = R 18 x.2.1 ∧ R 3 x.2.1 ≠ 0))) := fun f j hj f1 f2 => by
    have e := gv f j hj ⟨f1, f2⟩
    by_cases c1 : f = 18 ∧ j = x.2.1
    · rw [if_pos c1] at e; exact Or.inr ⟨e, Or.inl c1⟩
    · rw [if_neg c1] at e
      by_cases c2 : f = 16 ∧ j = x.2.1 ∧ R 3 x.2.1 = 0
      · rw [if_pos c2] at e; exact Or.inr ⟨e, Or.inr (Or.inl c2)⟩
      · rw [if_neg c2] at e
        by_cases c3 : f = 19 ∧ j = R 18 x.2.1 ∧ R 3 x.2.1 ≠ 0
        · rw [if_pos c3] at e; exact Or.inr ⟨e, Or.inr (Or.inr c3)⟩
        · rw [if_neg c3] at e; exact Or.inl e
  refine ⟨fun i i0 i1 => ?_, fun y hy => ?_⟩
  · have i1 : i < m + 1 := i1
    show XN lo R' (m + 1) i ∧ XZ ((97, m, 0, 1) :: x :: r) R' i
    by_cases him : i = m
    · subst him
      refine ⟨⟨fun z => ?_, ⟨by rw [gm4]; decide, by rw [gm5]; decide, by rw [gm6]; decide⟩, fun s s1 s2 => Or.inl (gmL s s1 s2), ⟨fun s s1 s2 _ s4 => absurd (gmL s s1 (by omega)) s4, fun z => absurd (gmL 19 (by decide) (by decide)) z, fun _ z => absurd (gmL 18 (by decide) (by decide)) z⟩, fun z => by omega, fun z => ?_, fun _ s s1 s2 _ => gmL _ (by omega) (by omega)⟩, fun k1 k2 => by rw [gm0] at k1; exact absurd k1 (by decide)⟩
      · have := hdp x.2.1 o1 o2
        rw [gm1]; omega
      · by_cases c : R 3 x.2.1 = 0
        · refine ⟨x.2.1, o1, o2, Or.inr (Or.inl ⟨by rw [g 0 _ (by decide) (by decide) o2]; exact hk3, ?_⟩)⟩
          rw [gv 16 _ o2 (by decide), if_neg (by omega), if_pos ⟨rfl, rfl, c⟩]
        · obtain ⟨⟨q1, q2⟩, q3⟩ := h18 c
          refine ⟨R 18 x.2.1, by omega, q2, Or.inr (Or.inr ⟨by rw [g 0 _ (by decide) (by decide) q2]; exact q3, ?_⟩)⟩
          rw [gv 19 _ q2 (by decide), if_neg (by omega), if_neg (by omega), if_pos ⟨rfl, rfl, c⟩]
    · have hi : i < m := by omega
      obtain ⟨⟨a1, a2, a3, ⟨b1, b2, b3⟩, a5, a6, a7⟩, a8⟩ := n1 i i0 hi
      have e0 := g 0 i (by decide) (by decide) hi
      have e2 := g 2 i (by decide) (by decide) hi
      refine ⟨⟨fun z => by rw [g 1 i (by decide) (by decide) hi]; exact a1 z, ?_, fun s s1 s2 => ?_, ⟨fun s s1 s2 s3 s4 => ?_, fun z => ?_, fun z z2 => ?_⟩, fun z => by rw [e2, e0]; exact a5 z, fun z => ?_, fun z s s1 s2 hy => ?_⟩, ?_⟩
      · unfold big3; rw [g 4 i (by decide) (by decide) hi, g 5 i (by decide) (by decide) hi, g 6 i (by decide) (by decide) hi]; exact a2
      · rcases glk s i hi s1 s2 with z | ⟨z, _⟩
        · rw [z]; have := a3 s s1 s2; omega
        · rw [z]; omega
      · rw [e0] at s3
        rw [e2]
        rcases glk s i hi s1 (by omega) with z | ⟨z, z1 | z1 | z1⟩
        · rw [z] at s4 ⊢
          have := a3 s s1 (by omega)
          rw [g 2 _ (by decide) (by decide) (by omega), g 0 _ (by decide) (by decide) (by omega)]
          exact b1 s s1 s2 s3 s4
        · exact absurd (by rw [z1.2]; exact hk3) (s3 z1.1)
        · rw [z, gm2, gm0, z1.2.1, if_neg (by decide)]; omega
        · omega
      · rw [e2]
        rcases glk 19 i hi (by decide) (by decide) with w | ⟨w, z1 | z1 | z1⟩
        · rw [w] at z ⊢
          have := a3 19 (by decide) (by decide)
          rw [g 2 _ (by decide) (by decide) (by omega)]; exact b2 z
        · omega
        · omega
        · rw [w, gm2, z1.2.1]
          have := h18 z1.2.2
          exact (hw3 (by omega)).symm
      · rw [e0] at z
        rw [e2]
        rcases glk 18 i hi (by decide) (by decide) with w | ⟨w, z1 | z1 | z1⟩
        · rw [w] at z2 ⊢
          have := a3 18 (by decide) (by decide)
          rw [g 2 _ (by decide) (by decide) (by omega)]; exact b3 z z2
        · rw [w, gm2, z1.2]
        · omega
        · omega
      · obtain ⟨p, p0, p1, hk⟩ := a6 z
        refine ⟨p, p0, p1, ?_⟩
        have hp : p < m := by omega
        unfold kin
        rw [g 0 p (by decide) (by decide) hp]
        rcases hk with ⟨y, hy, e⟩ | ⟨k1, k2⟩ | ⟨k1, k2⟩
        · have hs := kids_sl hy
          refine Or.inl ⟨y, hy, ?_⟩
          have h2 : p = x.2.1 → y.2 = 2 := fun w => by
            rw [w, hk3] at hy; exact kids_3 hy
          rcases glk (15 + y.2.toNat) p hp (by omega) (by omega) with w | ⟨_, w | w | w⟩
          · rw [w]; exact e
          · have := h2 w.2; omega
          · have := h2 w.2.1; omega
          · omega
        · refine Or.inr (Or.inl ⟨k1, ?_⟩)
          rcases glk 16 p hp (by omega) (by omega) with w | ⟨_, w | w | w⟩
          · rw [w]; exact k2
          · omega
          · rw [w.2.1, h16 w.2.2] at k2; omega
          · omega
        · refine Or.inr (Or.inr ⟨k1, ?_⟩)
          rcases glk 19 p hp (by omega) (by omega) with w | ⟨_, w | w | w⟩
          · rw [w]; exact k2
          · omega
          · omega
          · rw [w.2.1, h19 w.2.2] at k2; omega
      · rw [e0] at z hy
        have hio : i ≠ x.2.1 := fun w => by rw [w] at z; exact z hk3
        rcases glk (15 + s) i hi (by omega) (by omega) with w | ⟨_, w | w | w⟩
        · rw [w]; exact a7 z s s1 s2 hy
        · exact absurd w.2 hio
        · exact absurd w.2.1 hio
        · omega
      · intro k1 k2
        rw [e0] at k1 k2 ⊢
        rw [g 4 i (by decide) (by decide) hi, g 5 i (by decide) (by decide) hi, g 6 i (by decide) (by decide) hi]
        obtain ⟨⟨c1, c2⟩, ⟨c3, c4⟩, c5, c6⟩ := a8 k1 k2
        refine ⟨⟨c1, fun z => ?_⟩, ⟨c3, fun z => ?_⟩, c5, fun z => ?_⟩
        · exact (c2 z).imp id (fun ⟨y, hy, h⟩ => ⟨y, List.mem_cons_of_mem _ hy, h⟩)
        · exact (c4 z).imp id (fun ⟨y, hy, h⟩ => ⟨y, List.mem_cons_of_mem _ hy, h⟩)
        · exact (c6 z).imp id (fun ⟨y, hy, h⟩ => ⟨y, List.mem_cons_of_mem _ hy, h⟩)
  · show XE R' y
    have hy : y ∈ (97, m, 0, 1) :: x :: r := hy
    rcases List.mem_cons.mp hy with e | hy
    · rw [e]
      exact ⟨fun z => absurd (show ckd 97 from z) (by decide), fun z => absurd (show (97 : Int) = 49 from z) (by decide), fun z => absurd (show (97 : Int) = 50 from z) (by decide)⟩
    · obtain ⟨e1, e2, e3⟩ := n2 y hy
      have hin : y.1 ≠ 41 → y.1 ≠ 99 ∨ y.2.1 ≠ -1 → lo ≤ y.2.1 ∧ y.2.1 < m ∧ sgk R y := fun h41 h99 => by
        rcases (hent y hy h41).2.2 with z | z
        · omega
        · exact z
      refine ⟨fun hc ho => ?_, fun z => ?_, fun z => ?_⟩
      · obtain ⟨o1, o2, os⟩ := hin (by omega) (Or.inr ho)
        have hs := os.2.2.2.2.2.2.2.2.1 hc
        have h2 : y.2.1 = x.2.1 → y.2.2.1 = 2 := fun w => by
          have := nodeI_kid (t5 y.2.1 o1 o2) hy hc rfl
          rw [w, hk3] at this
          exact kids_3 this
        rcases glk (15 + y.2.2.1.toNat) y.2.1 o2 (by omega) (by omega) with w | ⟨_, w | w | w⟩
        · rw [w]; exact e1 hc ho
        · have := h2 w.2; omega
        · have := h2 w.2.1; omega
        · omega
      · rw [g 0 _ (by decide) (by decide) (hin (by omega) (Or.inl (by omega))).2.1]; exact e2 z
      · rw [g 0 _ (by decide) (by decide) (hin (by omega) (Or.inl (by omega))).2.1]; exact e3 z

theorem XI_type {lo ty : Int} {x : en} {r : List en} {R : Rw} {m lw : Int} (hw : wfS lo (x :: r, R, m, lw)) (h : XI lo (x :: r, R, m, lw)) (hx : x.1 = 97) (hty : 28 ≤ ty ∧ ty ≤ 30) : XI lo (shE ty x.2.1 ++ r, im_u R 0 x.2.1 ty, m, lw) := by
  have hent : ∀ y ∈ x :: r, y.1 ≠ 41 → ent R lo m y := hw.2.2.2.2.2.1
  have hlo : 0 ≤ lo := hw.1
  obtain ⟨n1, n2⟩ := h
  dsimp only at n1 n2
  have hin : lo ≤ x.2.1 ∧ x.2.1 < m ∧ sgk R x := by
    rcases (hent x List.mem_cons_self (by omega)).2.2 with z | z
    · omega
    · exact z
  obtain ⟨o1, o2, osg⟩ := hin
  obtain ⟨hk31, h6⟩ := osg.2.1 hx
  have hko : ∀ s : Nat, 1 ≤ s → s ≤ 3 → R (15 + s) x.2.1 = -1 := fun s s1 s2 => (n1 x.2.1 o1 o2).1.2.2.2.2.2.2 (by omega) s s1 s2 (fun y hy => by rw [hk31] at hy; exact absurd hy (by show y ∉ ([] : List (Int × Int)); exact List.not_mem_nil))
  have g : ∀ (f : Nat) (j : Int), f ≠ 0 → im_u R 0 x.2.1 ty f j = R f j := fun f j hf => im_rdn _ _ _ _ hf
  have g0 : ∀ j, j ≠ x.2.1 → im_u R 0 x.2.1 ty 0 j = R 0 j := fun j hj => im_rdk _ _ _ hj
  have g0o : im_u R 0 x.2.1 ty 0 x.2.1 = ty := im_rds _ _ _ _
  generalize im_u R 0 x.2.1 ty = R' at g g0 g0o ⊢
  have h3 : ∀ j, R' 0 j = 3 ↔ R 0 j = 3 := fun j => by
    by_cases hj : j = x.2.1
    · rw [hj, g0o, hk31]; omega
    · rw [g0 j hj]
  have hite : ∀ j, (if R' 0 j = 3 then (1 : Int) else 0) = if R 0 j = 3 then 1 else 0 := fun j => by
    by_cases c : R 0 j = 3
    · rw [if_pos c, if_pos ((h3 j).mpr c)]
    · rw [if_neg c, if_neg (fun z => c ((h3 j).mp z))]
  refine ⟨fun i i0 i1 => ?_, fun y hy => ?_⟩
  · have i1 : i < m := i1
    show XN lo R' m i ∧ XZ (shE ty x.2.1 ++ r) R' i
    obtain ⟨⟨a1, a2, a3, ⟨b1, b2, b3⟩, a5, a6, a7⟩, a8⟩ := n1 i i0 i1
    refine ⟨⟨fun z => by rw [g 1 i (by decide)]; exact a1 z, ?_, fun s s1 s2 => by rw [g s i (by omega)]; exact a3 s s1 s2, ⟨fun s s1 s2 s3 s4 => ?_, fun z => ?_, fun z z2 => ?_⟩, fun z => by rw [g 2 i (by decide), hite]; exact a5 z, fun z => ?_, fun z s s1 s2 hy => ?_⟩, fun k1 k2 => ?_⟩
    · unfold big3; rw [g 4 i (by decide), g 5 i (by decide), g 6 i (by decide)]; exact a2
    · rw [g s i (by omega)] at s4 ⊢
      rw [g 2 _ (by decide), g 2 _ (by decide), hite]
      exact b1 s s1 s2 (fun w c => s3 w ((h3 i).mpr c)) s4
    · rw [g 19 i (by decide)] at z ⊢; rw [g 2 _ (by decide), g 2 _ (by decide)]; exact b2 z
    · rw [g 18 i (by decide)] at z2 ⊢; rw [g 2 _ (by decide), g 2 _ (by decide)]; exact b3 ((h3 i).mp z) z2
    · obtain ⟨p, p0, p1, hk⟩ := a6 z
      refine ⟨p, p0, p1, ?_⟩
      unfold kin
      by_cases hp : p = x.2.1
      · rw [hp] at hk ⊢
        rcases hk with ⟨y, hy, e⟩ | ⟨k1, k2⟩ | ⟨k1, k2⟩
        · rw [hk31] at hy; exact absurd hy (by show y ∉ ([] : List (Int × Int)); exact List.not_mem_nil)
        · omega
        · exact Or.inr (Or.inr ⟨by rw [g0o]; omega, by rw [g 19 _ (by decide)]; exact k2⟩)
      · rw [g0 p hp, g 16 p (by decide), g 19 p (by decide)]
        rcases hk with ⟨y, hy, e⟩ | hk | hk
        · exact Or.inl ⟨y, hy, by rw [g _ p (by omega)]; exact e⟩
        · exact Or.inr (Or.inl hk)
        · exact Or.inr (Or.inr hk)
    · rw [g _ i (by omega)]
      by_cases hi : i = x.2.1
      · rw [hi]; exact hko s s1 s2
      · rw [g0 i hi] at z hy
        exact a7 z s s1 s2 hy
    · by_cases hi : i = x.2.1
      · rw [hi, g0o] at k1; omega
      · rw [g0 i hi] at k1 k2 ⊢
        rw [g 4 i (by decide), g 5 i (by decide), g 6 i (by decide)]
        have hx49 : x.1 ≠ 49 := by omega
        have hx50 : x.1 ≠ 50 := by omega
        have hx51 : x.1 ≠ 51 := by omega
        obtain ⟨⟨c1, c2⟩, ⟨c3, c4⟩, c5, c6⟩ := a8 k1 k2
        refine ⟨⟨c1, fun z => ?_⟩, ⟨c3, fun z => ?_⟩, c5, fun z => ?_⟩
        · exact (c2 z).imp id (ent_up hx49)
        · exact (c4 z).imp id (ent_up hx50)
        · exact (c6 z).imp id (ent_up hx51)
  · show XE R' y
    have hy : y ∈ shE ty x.2.1 ++ r := hy
    rcases List.mem_append.mp hy with hy | hy
    · obtain ⟨yo, _, _, _, _, ysg⟩ := shE_ok (R := R') (ty := ty) (m := x.2.1) g0o (by rw [g 6 _ (by decide)]; exact h6) y hy
      obtain ⟨z1, z2⟩ := shE_49 y hy
      refine ⟨fun hc _ => ?_, fun z => by rw [yo, g0o]; exact z1 z, fun z => by rw [yo, g0o]; exact z2 z⟩
      have := ysg.2.2.2.2.2.2.2.2.1 hc
      rw [yo, g _ _ (by omega)]
      exact hko _ (by omega) (by omega)
    · obtain ⟨e1, e2, e3⟩ := n2 y (List.mem_cons_of_mem _ hy)
      refine ⟨fun hc ho => by rw [g _ _ (by omega)]; exact e1 hc ho, fun z => ?_, fun z => ?_⟩
      · have := e2 z
        rw [g0 _ (fun w => by rw [w, hk31] at this; unfold nA at this; omega)]; exact this
      · have := e3 z
        rw [g0 _ (fun w => by rw [w, hk31] at this; unfold nB at this; omega)]; exact this
/-- the rows keep their kinds and links -/
theorem XI_oth {lo m lw lw' : Int} {st st' : List en} {R R' : Rw} (hent : ∀ y ∈ st, y.1 ≠ 41 → ent R lo m y) (h : XI lo (st, R, m, lw)) (hR : ∀ (f : Nat) (j : Int), (f < 3 ∨ (16 ≤ f ∧ f ≤ 19)) → R' f j = R f j) (hb : ∀ i, lo ≤ i → i < m → big3 R i → big3 R' i) (hz : ∀ i, lo ≤ i → i < m → XZ st R i → XZ st' R' i) (hs : ∀ y ∈ st', y ∈ st ∨ y.1 = 41 ∨ y.1 = 104) : XI lo (st', R', m, lw') := by
  obtain ⟨n1, n2⟩ := h
  dsimp only at n1 n2
  refine ⟨fun i i0 i1 => ⟨XN_same (n1 i i0 i1).1 hR (hb i i0 i1 (n1 i i0 i1).1.2.1), hz i i0 i1 (n1 i i0 i1).2⟩, fun y hy => ?_⟩
  have e4 : ∀ c : Int, y.1 = c → c = 41 ∨ c = 104 → XE R' y := fun c hc h4 => ⟨fun z => by unfold ckd at z; omega, fun z => by omega, fun z => by omega⟩
  rcases hs y hy with z | z
  · by_cases h41 : y.1 = 41
    · exact e4 41 h41 (Or.inl rfl)
    · refine XE_same (n2 y z) (fun hc ho => ?_) hR
      rcases (hent y z h41).2.2 with w | w
      · exact absurd w.2 ho
      · exact w.2.2.2.2.2.2.2.2.2.2.1 hc
  · rcases z with z | z
    · exact e4 41 z (Or.inl rfl)
    · exact e4 104 z (Or.inr rfl)
theorem XZ_sub {st st' : List en} {R R' : Rw} {i : Int} (h : XZ st R i) (h0 : R' 0 i = R 0 i) (h4 : R 0 i < 28 → R 0 i ≠ 3 → R' 4 i = R 4 i ∧ R' 5 i = R 5 i ∧ R' 6 i = R 6 i) (hs : ∀ y ∈ st, (y.1 = 49 ∨ y.1 = 50 ∨ y.1 = 51) → y ∈ st') : XZ st' R' i := by
  intro k1 k2
  rw [h0] at k1 k2 ⊢
  obtain ⟨e4, e5, e6⟩ := h4 k1 k2
  rw [e4, e5, e6]
  obtain ⟨⟨c1, c2⟩, ⟨c3, c4⟩, c5, c6⟩ := h k1 k2
  refine ⟨⟨c1, fun z => ?_⟩, ⟨c3, fun z => ?_⟩, c5, fun z => ?_⟩
  · exact (c2 z).imp id (fun ⟨y, hy, y1, y2⟩ => ⟨y, hs y hy (Or.inl y1), y1, y2⟩)
  · exact (c4 z).imp id (fun ⟨y, hy, y1, y2⟩ => ⟨y, hs y hy (Or.inr (Or.inl y1)), y1, y2⟩)
  · exact (c6 z).imp id (fun ⟨y, hy, y1, y2⟩ => ⟨y, hs y hy (Or.inr (Or.inr y1)), y1, y2⟩)
/-- a name is put in -/
theorem XZ_nm {x : en} {r : List en} {R : Rw} {nm i : Int} (h : XZ (x :: r) R i) (he : XE R x) (h51 : x.1 = 51 → R 0 x.2.1 = 1 ∨ R 0 x.2.1 = 28) (hnm : nm ≠ 0) (hx : x.1 = 49 ∨ x.1 = 50 ∨ x.1 = 51) : XZ r (im_u R (if x.1 = 49 then 4 else if x.1 = 50 then 5 else 6) x.2.1 nm) i := by
  intro k1 k2
  obtain ⟨_, e2, e3⟩ := he
  have tl : ∀ c : Int, (∃ y ∈ x :: r, y.1 = c ∧ y.2.1 = i) → (x.1 = c ∧ x.2.1 = i) ∨ ∃ y ∈ r, y.1 = c ∧ y.2.1 = i := fun c hh => by
    obtain ⟨y, hy, y1, y2⟩ := hh
    rcases List.mem_cons.mp hy with e | e
    · rw [e] at y1 y2; exact Or.inl ⟨y1, y2⟩
    · exact Or.inr ⟨y, e, y1, y2⟩
  rcases hx with z | z | z
  · rw [if_pos z] at k1 k2 ⊢
    rw [im_rdn _ _ _ _ (by decide : (0 : Nat) ≠ 4)] at k1 k2 ⊢
    rw [im_rdn _ _ _ _ (by decide : (5 : Nat) ≠ 4), im_rdn _ _ _ _ (by decide : (6 : Nat) ≠ 4)]
    obtain ⟨⟨c1, c2⟩, ⟨c3, c4⟩, c5, c6⟩ := h k1 k2
    refine ⟨⟨fun w => ?_, fun w => ?_⟩, ⟨c3, fun w => ?_⟩, c5, fun w => ?_⟩
    · by_cases hj : i = x.2.1
      · have := e2 z; rw [← hj] at this; unfold nA at this ⊢; omega
      · rw [im_rdk _ _ _ hj] at w; exact c1 w
    · by_cases hj : i = x.2.1
      · rw [hj, im_rds]; exact Or.inl hnm
      · rw [im_rdk _ _ _ hj]
        refine (c2 w).imp id (fun q => ?_)
        rcases tl 49 q with ⟨_, a⟩ | a
        · exact absurd a.symm hj
        · exact a
    · refine (c4 w).imp id (fun q => ?_)
      rcases tl 50 q with ⟨a, _⟩ | a
      · omega
      · exact a
    · refine (c6 w).imp id (fun q => ?_)
      rcases tl 51 q with ⟨a, _⟩ | a
      · omega
      · exact a
  · rw [if_neg (by omega), if_pos z] at k1 k2 ⊢
    rw [im_rdn _ _ _ _ (by decide : (0 : Nat) ≠ 5)] at k1 k2 ⊢
    rw [im_rdn _ _ _ _ (by decide : (4 : Nat) ≠ 5), im_rdn _ _ _ _ (by decide : (6 : Nat) ≠ 5)]
    obtain ⟨⟨c1, c2⟩, ⟨c3, c4⟩, c5, c6⟩ := h k1 k2
    refine ⟨⟨c1, fun w => ?_⟩, ⟨fun w => ?_, fun w => ?_⟩, c5, fun w => ?_⟩
    · refine (c2 w).imp id (fun q => ?_)
      rcases tl 49 q with ⟨a, _⟩ | a
      · omega
      · exact a
    · by_cases hj : i = x.2.1
      · have := e3 z; rw [← hj] at this; unfold nB at this ⊢; omega
      · rw [im_rdk _ _ _ hj] at w; exact c3 w
    · by_cases hj : i = x.2.1
      · rw [hj, im_rds]; exact Or.inl hnm
      · rw [im_rdk _ _ _ hj]
        refine (c4 w).imp id (fun q => ?_)
        rcases tl 50 q with ⟨_, a⟩ | a
        · exact absurd a.symm hj
        · exact a
    · refine (c6 w).imp id (fun q => ?_)
      rcases tl 51 q with ⟨a, _⟩ | a
      · omega
      · exact a
  · rw [if_neg (by omega), if_neg (by omega)] at k1 k2 ⊢
    rw [im_rdn _ _ _ _ (by decide : (0 : Nat) ≠ 6)] at k1 k2 ⊢
    rw [im_rdn _ _ _ _ (by decide : (4 : Nat) ≠ 6), im_rdn _ _ _ _ (by decide : (5 : Nat) ≠ 6)]
    obtain ⟨⟨c1, c2⟩, ⟨c3, c4⟩, c5, c6⟩ := h k1 k2
    refine ⟨⟨c1, fun w => ?_⟩, ⟨c3, fun w => ?_⟩, fun w => ?_, fun w => ?_⟩
    · refine (c2 w).imp id (fun q => ?_)
      rcases tl 49 q with ⟨a, _⟩ | a
      · omega
      · exact a
    · refine (c4 w).imp id (fun q => ?_)
      rcases tl 50 q with ⟨a, _⟩ | a
      · omega
      · exact a
    · by_cases hj : i = x.2.1
      · have := h51 z; rw [← hj] at this; omega
      · rw [im_rdk _ _ _ hj] at w; exact c5 w
    · by_cases hj : i = x.2.1
      · rw [hj, im_rds]; exact Or.inl hnm
      · rw [im_rdk _ _ _ hj]
        refine (c6 w).imp id (fun q => ?_)
        rcases tl 51 q with ⟨_, a⟩ | a
        · exact absurd a.symm hj
        · exact a
theorem big3_u {R : Rw} {f : Nat} {j v i : Int} (h : big3 R i) (hv : v ≤ 9223372036854775807) : big3 (im_u R f j v) i := by
  have e : ∀ f' : Nat, R f' i ≤ 9223372036854775807 → im_u R f j v f' i ≤ 9223372036854775807 := fun f' h => by
    by_cases c : f' = f
    · subst c
      by_cases hj : i = j
      · rw [hj, im_rds]; exact hv
      · rw [im_rdk _ _ _ hj]; exact h
    · rw [im_rdn _ _ _ _ c]; exact h
  exact ⟨e 4 h.1, e 5 h.2.1, e 6 h.2.2⟩
theorem big3_o {R : Rw} {f : Nat} {j v i : Int} (h : big3 R i) (hf : f < 4 ∨ 6 < f) : big3 (im_u R f j v) i := by
  unfold big3
  rw [im_rdn _ _ _ _ (by omega), im_rdn _ _ _ _ (by omega), im_rdn _ _ _ _ (by omega)]; exact h
theorem XI_stp {lo ty nm v : Int} {x : en} {r : List en} {R : Rw} {m lw : Int} {S' : pS} (h : stp lo ty nm v (x :: r, R, m, lw) = .inr S') (hw : wfS lo (x :: r, R, m, lw)) (hq : Q2 lo (x :: r, R, m, lw)) (hT : TI lo (x :: r, R, m, lw)) (hnm : ty = 35 ∨ ty = 36 → 97 ≤ nm ∧ nm ≤ 9223372036854775807) (hX : XI lo (x :: r, R, m, lw)) : XI lo S' := by
  have hent : ∀ y ∈ x :: r, y.1 ≠ 41 → ent R lo m y := hw.2.2.2.2.2.1
  have hsgk : x.1 ≠ 99 → x.1 ≠ 41 → lo ≤ x.2.1 ∧ x.2.1 < m ∧ sgk R x := fun h99 h41 => by
    rcases (hent x List.mem_cons_self h41).2.2 with z | z
    · exact absurd z.1 h99
    · exact z
  have hpop : x.1 ≠ 49 ∧ x.1 ≠ 50 ∧ x.1 ≠ 51 → ∀ y ∈ x :: r, (y.1 = 49 ∨ y.1 = 50 ∨ y.1 = 51) → y ∈ r := fun hx y hy z => by
    rcases List.mem_cons.mp hy with e | e
    · rw [e] at z; omega
    · exact e
  have hsub : ∀ y ∈ r, y ∈ x :: r ∨ y.1 = 41 ∨ y.1 = 104 := fun y hy => Or.inl (List.mem_cons_of_mem _ hy)
  have sid : (x.1 ≠ 49 ∧ x.1 ≠ 50 ∧ x.1 ≠ 51) → XI lo (r, R, m, lw) := fun hx => XI_oth hent hX (fun _ _ _ => rfl) (fun _ _ _ z => z) (fun i _ _ z => XZ_sub z rfl (fun _ _ => ⟨rfl, rfl, rfl⟩) (hpop hx)) hsub
  refine stp_ind h (fun hx hty e => ?_) (fun hx hty hb hmu e => ?_) (fun hx _ e => ?_) (fun hx hty hmu h8 e => ?_) (fun hx hty e => ?_) (fun hx hty e => ?_) (fun hx hty has e => ?_) (fun hx _ h6 e => ?_) (fun hx _ h4 e => ?_) (fun hx _ _ e => ?_) (fun hx _ e => ?_) (fun hx hty e => ?_) (fun hx _ e => ?_) (fun c1 c2 c3 c4 c5 c6 c7 c8 c9 c10 c11 hty e => ?_)
  · subst e
    refine XI_oth hent hX (fun _ _ _ => rfl) (fun _ _ _ z => z) (fun i _ _ z => XZ_sub z rfl (fun _ _ => ⟨rfl, rfl, rfl⟩) (fun y hy _ => ?_)) (fun y hy => ?_)
    · rcases List.mem_cons.mp hy with e | e
      · rw [e]; exact List.mem_cons_self
      · exact List.mem_cons_of_mem _ (List.mem_cons_of_mem _ e)
    · rcases List.mem_cons.mp hy with e | e
      · exact Or.inl (by rw [e]; exact List.mem_cons_self)
      · rcases List.mem_cons.mp e with e | e
        · exact Or.inr (Or.inl (by rw [e]))
        · exact Or.inl (List.mem_cons_of_mem _ e)
  · subst e; exact XI_node hw hq hT (fun z => hnm (Or.inl z)) hX hx
  · subst e; exact sid (by omega)
  · subst e; exact XI_case hw hT hX hx
  · subst e; exact XI_type hw hX hx hty
  · subst e
    obtain ⟨o1, o2, osg⟩ := hsgk (by omega) (by omega)
    have hk3 := osg.2.2.2.2.1 hx
    refine XI_oth hent hX (fun f j hf => im_rdn _ _ _ _ (by omega)) (fun i _ _ z => big3_u z (hnm (Or.inl hty)).2) (fun i _ _ z => XZ_sub z (im_rdn _ _ _ _ (by decide)) (fun _ k2 => ⟨im_rdn _ _ _ _ (by decide), im_rdk _ _ _ (fun w => by rw [w] at k2; exact k2 hk3), im_rdn _ _ _ _ (by decide)⟩) (hpop (by omega))) hsub
  · subst e
    obtain ⟨o1, o2, osg⟩ := hsgk (by omega) (by omega)
    have hk3 := osg.2.2.2.2.1 hx
    have hv : asT v ≤ 9223372036854775807 := by
      unfold asT
      by_cases c : 0 ≤ v ∧ v ≤ 1000000000000000
      · rw [if_pos c]; omega
      · rw [if_neg c]; decide
    refine XI_oth hent hX (fun f j hf => im_rdn _ _ _ _ (by omega)) (fun i _ _ z => big3_u z hv) (fun i _ _ z => XZ_sub z (im_rdn _ _ _ _ (by decide)) (fun _ k2 => ⟨im_rdk _ _ _ (fun w => by rw [w] at k2; exact k2 hk3), im_rdn _ _ _ _ (by decide), im_rdn _ _ _ _ (by decide)⟩) (hpop (by omega))) hsub
  · subst e; exact sid (by omega)
  · subst e
    obtain ⟨o1, o2, osg⟩ := hsgk (by omega) (by omega)
    have h6 := (osg.2.2.1 (Or.inl hx)).2
    refine XI_oth hent hX (fun f j hf => im_rdn _ _ _ _ (by omega)) (fun i _ _ z => big3_o z (Or.inr (by omega))) (fun i _ _ z => XZ_sub z (im_rdn _ _ _ _ (by omega)) (fun _ _ => ⟨im_rdn _ _ _ _ (by omega), im_rdn _ _ _ _ (by omega), im_rdn _ _ _ _ (by omega)⟩) (fun y hy _ => List.mem_cons_of_mem _ hy)) (fun y hy => ?_)
    rcases List.mem_cons.mp hy with e | e
    · exact Or.inr (Or.inr (by rw [e]))
    · exact Or.inl e
  · subst e
    obtain ⟨o1, o2, osg⟩ := hsgk (by omega) (by omega)
    obtain ⟨hk29, h60, _⟩ := osg.2.2.1 (Or.inr hx)
    have h63 := osg.2.2.2.1 hx
    refine XI_oth hent hX (fun f j hf => by rw [im_rdn _ _ _ _ (by omega), im_rdn _ _ _ _ (by omega)]) (fun i _ _ z => big3_u (big3_o z (Or.inr (by omega))) (by omega)) (fun i _ _ z => XZ_sub z (by rw [im_rdn _ _ _ _ (by decide), im_rdn _ _ _ _ (by omega)]) (fun k1 _ => ⟨by rw [im_rdn _ _ _ _ (by decide), im_rdn _ _ _ _ (by omega)], by rw [im_rdn _ _ _ _ (by decide), im_rdn _ _ _ _ (by omega)], by rw [im_rdk _ _ _ (fun w => by rw [w] at k1; omega), im_rdn _ _ _ _ (by omega)]⟩) (hpop (by omega))) hsub
  · subst e; exact sid (by omega)
  · subst e
    refine XI_oth hent hX (fun f j hf => im_rdn _ _ _ _ (by omega)) (fun i _ _ z => big3_o z (by decide)) (fun i _ _ z => XZ_sub z (im_rdn _ _ _ _ (by decide)) (fun _ _ => ⟨im_rdn _ _ _ _ (by decide), im_rdn _ _ _ _ (by decide), im_rdn _ _ _ _ (by decide)⟩) (hpop (by omega))) hsub
  · subst e; exact sid (by omega)
  · subst e
    obtain ⟨o1, o2, osg⟩ := hsgk c1 c9
    have hsg := osg.2.2.2.2.2.2.2.1
    have hx3 : x.1 = 49 ∨ x.1 = 50 ∨ x.1 = 51 := by omega
    have hn := hnm (Or.inr hty)
    have hf : (if x.1 = 49 then 4 else if x.1 = 50 then 5 else 6 : Nat) = 4 ∨ (if x.1 = 49 then 4 else if x.1 = 50 then 5 else 6 : Nat) = 5 ∨ (if x.1 = 49 then 4 else if x.1 = 50 then 5 else 6 : Nat) = 6 := by
      by_cases a1 : x.1 = 49
      · rw [if_pos a1]; omega
      · rw [if_neg a1]
        by_cases a2 : x.1 = 50
        · rw [if_pos a2]; omega
        · rw [if_neg a2]; omega
    refine XI_oth hent hX (fun f j hf' => im_rdn _ _ _ _ (fun w => ?_)) (fun i _ _ z => big3_u z hn.2) (fun i _ _ z => XZ_nm z (hX.2 x List.mem_cons_self) osg.2.2.2.2.2.2.1 (by omega) hx3) hsub
    rw [← w] at hf; omega
theorem XI_bg (lo w0 : Int) : XI lo (bgS lo w0) := by
  refine ⟨fun i i0 i1 => ?_, fun y hy => ?_⟩
  · have i1 : i < lo := i1
    omega
  · have hy : y ∈ [((99, -1, 0, 1) : en)] := hy
    rcases List.mem_singleton.mp hy with rfl
    exact ⟨fun _ z => absurd rfl z, fun z => absurd (show (99 : Int) = 49 from z) (by decide), fun z => absurd (show (99 : Int) = 50 from z) (by decide)⟩
theorem prs_xi {t : Int → Int} {n lo : Int} : ∀ (f : Nat) (a : Int) (S S' : pS) (a' : Int), prs t n lo f a S = .inr (S', a') → a ≤ n → RQ lo S → TI lo S → XI lo S → XI lo S' := by
  intro f
  induction f with
  | zero => intro a S S' a' h; cases h
  | succ f ih =>
    intro a S S' a' h han hQ hT hN
    have h : (if S.1 = [] then .inr (S, a) else
      if (tk t n a).2.2.1 < 0 then .inl (-(tk t n a).2.2.1, (tk t n a).1)
      else if (tk t n a).2.2.1 = 41 then .inl (3, (tk t n a).1)
      else match stp lo (tk t n a).2.2.1 (tk t n a).2.2.2.1 (tk t n a).2.2.2.2 S with
        | .inl c => .inl (c, (tk t n a).1)
        | .inr S' => prs t n lo f (tk t n a).2.1 S' : Sum (Int × Int) (pS × Int)) = .inr (S', a') := h
    by_cases h0 : S.1 = []
    · rw [if_pos h0] at h
      cases h
      exact hN
    rw [if_neg h0] at h
    by_cases h1 : (tk t n a).2.2.1 < 0
    · rw [if_pos h1] at h; cases h
    rw [if_neg h1] at h
    by_cases h2 : (tk t n a).2.2.1 = 41
    · rw [if_pos h2] at h; cases h
    rw [if_neg h2] at h
    have hk := tk_ok (t := t) han
    obtain ⟨k1, k2, k3, _⟩ := tkn_q hk h2
    obtain ⟨st, R, m, lw⟩ := S
    cases st with
    | nil => exact absurd rfl h0
    | cons x r =>
      generalize hs : stp lo (tk t n a).2.2.1 (tk t n a).2.2.2.1 (tk t n a).2.2.2.2 (x :: r, R, m, lw) = s at h
      cases s with
      | inl c => cases h
      | inr S1 => exact ih _ S1 S' a' h k3 (RQ_stp hs hQ) (TI_stp hs hQ.1.1 hQ.2.1 hT) (XI_stp hs hQ.1.1 hQ.2.1 hT (fun z => tkn_nm hk z) hN)
/-- a good text: its rows -/
def GX (lo : Int) (R : Rw) (m : Int) : Prop := (lo < m ∧ m ≤ lo + 1000 ∧ m ≤ 5000) ∧ (R 1 lo = 0 ∧ 0 ≤ R 0 lo ∧ R 0 lo ≤ 5) ∧ ∀ i, lo ≤ i → i < m → TR R m i ∧ nmv R i ∧ (0 ≤ R 1 i ∧ R 1 i ≤ 100) ∧ (R 0 i = 29 → 1 ≤ R 6 i ∧ R 6 i ≤ 4) ∧ (0 ≤ R 2 i ∧ R 2 i ≤ R 1 i + 1) ∧ XN lo R m i ∧ nzr R i
theorem prsT_gx {t : Int → Int} {n lo w0 : Int} {S : pS} (h : prsT t n lo w0 = .inr S) (hn : 0 ≤ n) (h0 : 0 ≤ lo) (h1 : lo ≤ 5000) : GX lo S.2.1 S.2.2.1 := by
  obtain ⟨q1, q2, q3, q4⟩ := prsT_inv h hn h0 h1
  unfold prsT at h
  generalize hp : prs t n lo (n.toNat + 2) 0 (bgS lo w0) = y at h
  cases y with
  | inl f => cases h
  | inr p =>
    obtain ⟨S1, a⟩ := p
    have h : (if (tk t n a).2.2.1 < 0 then .inl (-(tk t n a).2.2.1, (tk t n a).1) else if (tk t n a).2.2.1 = 41 then .inr S1 else .inl (9, (tk t n a).1) : Sum (Int × Int) pS) = .inr S := h
    have hx := prs_xi _ _ _ _ _ hp hn (RQ_bg h0 h1) (TI_bg lo w0) (XI_bg lo w0)
    have e : S1 = S := by
      by_cases c1 : (tk t n a).2.2.1 < 0
      · rw [if_pos c1] at h; cases h
      · rw [if_neg c1] at h
        by_cases c2 : (tk t n a).2.2.1 = 41
        · rw [if_pos c2] at h; cases h; rfl
        · rw [if_neg c2] at h; cases h
    subst e
    obtain ⟨st, R, m, lw⟩ := S1
    have q2 : st = [] := q2
    subst q2
    obtain ⟨⟨hw, hc29, _, hw2⟩, ⟨_, hr⟩, _⟩ := q1
    have hlm : lo < m := by
      rcases hr with ⟨_, e, _⟩ | ⟨e, _⟩
      · cases e
      · exact e
    obtain ⟨n1, n2⟩ := q3
    refine ⟨⟨hlm, hw.2.2.1, hw.2.2.2.1⟩, n2 hlm, fun i i0 i1 => ⟨q4 i i0 i1, (n1 i i0 i1).1, hw.2.2.2.2.2.2.1 i i0 i1, fun hk => ⟨?_, (hc29 i i0 i1 hk).2⟩, hw2 i i0 i1, (hx.1 i i0 i1).1, ?_, (hx.1 i i0 i1).1.2.2.2.2.2.2⟩⟩
    · rcases (n1 i i0 i1).2 hk with z | ⟨y, hy, _⟩
      · exact z
      · cases hy
    · have no : ∀ {P : Prop} {c : Int}, (P ∨ ∃ y ∈ ([] : List en), y.1 = c ∧ y.2.1 = i) → P := fun z => by
        rcases z with z | ⟨y, hy, _⟩
        · exact z
        · cases hy
      intro k1 k2
      obtain ⟨⟨c1, c2⟩, ⟨c3, c4⟩, c5, c6⟩ := (hx.1 i i0 i1).2 k1 k2
      exact ⟨⟨c1, fun z => no (c2 z)⟩, ⟨c3, fun z => no (c4 z)⟩, c5, fun z => no (c6 z)⟩

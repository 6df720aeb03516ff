theorem newN_ne {R : Rw} {m ty ow i : Int} (f : Nat) (h : i ≠ m) : newN R m ty ow f i = R f i := by
  have hu : ∀ (Q : Rw) (a : Nat) (x : Int), im_u Q a m x f i = Q f i := fun Q a x => by
    by_cases ha : f = a
    · subst ha; exact im_rdk _ _ _ h
    · exact im_rdn _ _ _ _ ha
  unfold newN
  rw [hu, hu, hu, hu, hu, hu, hu, hu, hu, hu, hu]
theorem newN_0 (R : Rw) (m ty ow : Int) : newN R m ty ow 0 m = ty := by
  unfold newN
  repeat rw [im_rdn _ _ _ _ (by decide)]
  rw [im_rds]
theorem newN_1 (R : Rw) (m ty ow : Int) : newN R m ty ow 1 m = deepOf R ow := by
  unfold newN
  repeat rw [im_rdn _ _ _ _ (by decide)]
  rw [im_rds]
theorem newN_2 (R : Rw) (m ty ow : Int) : newN R m ty ow 2 m = whenOf R ow + if ty = 3 then 1 else 0 := by
  unfold newN
  repeat rw [im_rdn _ _ _ _ (by decide)]
  rw [im_rds]
theorem newN_3 (R : Rw) (m ty ow : Int) : newN R m ty ow 3 m = 0 := by
  unfold newN
  repeat rw [im_rdn _ _ _ _ (by decide)]
  rw [im_rds]
theorem newN_4 (R : Rw) (m ty ow : Int) : newN R m ty ow 4 m = 0 := by
  unfold newN
  repeat rw [im_rdn _ _ _ _ (by decide)]
  rw [im_rds]
theorem newN_5 (R : Rw) (m ty ow : Int) : newN R m ty ow 5 m = 0 := by
  unfold newN
  repeat rw [im_rdn _ _ _ _ (by decide)]
  rw [im_rds]
theorem newN_6 (R : Rw) (m ty ow : Int) : newN R m ty ow 6 m = 0 := by
  unfold newN
  repeat rw [im_rdn _ _ _ _ (by decide)]
  rw [im_rds]
/-- a link and a number change no other row -/
def setv (ty nm v m : Int) (R1 : Rw) : Rw := if ty = 34 then im_u R1 7 m v else if ty = 35 then im_u R1 4 m nm else R1
theorem setv_ne {ty nm v m : Int} {R1 : Rw} (f : Nat) (i : Int) (h : (f ≠ 7 ∧ f ≠ 4) ∨ i ≠ m) : setv ty nm v m R1 f i = R1 f i := by
  unfold setv
  have hu : ∀ (a : Nat) (x : Int), (f ≠ a ∨ i ≠ m) → im_u R1 a m x f i = R1 f i := fun a x hh => by
    by_cases ha : f = a
    · subst ha; exact im_rdk _ _ _ (by omega)
    · exact im_rdn _ _ _ _ ha
  split
  · exact hu 7 v (by omega)
  · split
    · exact hu 4 nm (by omega)
    · rfl
theorem lnk_ne {R : Rw} {ow sl m : Int} (f : Nat) (i : Int) (h : f < 16 ∨ 18 < f ∨ i ≠ ow) (hs : 1 ≤ sl ∧ sl ≤ 3) : lnk R ow sl m f i = R f i := by
  unfold lnk
  split
  · rfl
  · by_cases ha : f = 15 + sl.toNat
    · subst ha; exact im_rdk _ _ _ (by omega)
    · exact im_rdn _ _ _ _ ha
theorem lnk_r {R : Rw} {sl m : Int} (f : Nat) (i : Int) : lnk R (-1) sl m f i = R f i := by
  unfold lnk
  rw [if_pos rfl]
def nodR (R : Rw) (m ty nm v ow sl : Int) : Rw := setv ty nm v m (lnk (newN R m ty ow) ow sl m)
theorem nodR_ne {R : Rw} {m ty nm v ow sl : Int} (f : Nat) (i : Int) (hi : i ≠ m) (hf : f < 16 ∨ 18 < f ∨ i ≠ ow) (hs : ow = -1 ∨ (1 ≤ sl ∧ sl ≤ 3)) : nodR R m ty nm v ow sl f i = R f i := by
  unfold nodR
  rw [setv_ne f i (Or.inr hi)]
  rcases hs with h | h
  · subst h; rw [lnk_r]; exact newN_ne f hi
  · rw [lnk_ne f i hf h]; exact newN_ne f hi
theorem nodR_m {R : Rw} {m ty nm v ow sl : Int} (f : Nat) (hm : m ≠ ow) (hf : f ≠ 7 ∧ f ≠ 4) (hs : ow = -1 ∨ (1 ≤ sl ∧ sl ≤ 3)) : nodR R m ty nm v ow sl f m = newN R m ty ow f m := by
  unfold nodR
  rw [setv_ne f m (Or.inl hf)]
  rcases hs with h | h
  · subst h; exact lnk_r _ _
  · exact lnk_ne f m (by omega) h
theorem caseR_ne {R : Rw} {m ow : Int} (f : Nat) (i : Int) (hi : i ≠ m) (hf : f < 3 ∨ (3 < f ∧ f < 16) ∨ f = 17 ∨ 19 < f) : caseR R m ow f i = R f i := by
  have hu : ∀ (Q : Rw) (a : Nat) (j x : Int), f ≠ a → im_u Q a j x f i = Q f i := fun Q a j x h => im_rdn _ _ _ _ h
  unfold caseR
  rw [hu _ 18 _ _ (by omega)]
  split
  · rw [hu _ 16 _ _ (by omega), newN_ne f hi, hu _ 3 _ _ (by omega)]
  · rw [hu _ 19 _ _ (by omega), newN_ne f hi, hu _ 3 _ _ (by omega)]
theorem caseR_m {R : Rw} {m ow : Int} (f : Nat) (hm : m ≠ ow) (hf : f < 16 ∨ f = 17 ∨ 19 < f) : caseR R m ow f m = newN (im_u R 3 ow (R 3 ow + 1)) m 31 ow f m := by
  have hu : ∀ (Q : Rw) (a : Nat) (j x : Int), f ≠ a → im_u Q a j x f m = Q f m := fun Q a j x h => im_rdn _ _ _ _ h
  unfold caseR
  rw [hu _ 18 _ _ (by omega)]
  split
  · rw [hu _ 16 _ _ (by omega)]
  · rw [hu _ 19 _ _ (by omega)]
theorem ent_congr {R R' : Rw} {lo m m' : Int} {x : en} (h : ent R lo m x) (hm : m ≤ m') (h0 : lo ≤ x.2.1 → R' 0 x.2.1 = R 0 x.2.1) (h6 : lo ≤ x.2.1 → R' 6 x.2.1 = R 6 x.2.1) : ent R' lo m' x := by
  obtain ⟨a, b, c⟩ := h
  refine ⟨a, b, ?_⟩
  rcases c with c | ⟨c1, c2, c3⟩
  · exact Or.inl c
  · refine Or.inr ⟨c1, by omega, ?_⟩
    unfold sgk at c3 ⊢
    rw [h0 c1, h6 c1]
    exact c3
theorem hst_tl {x : en} {r : List en} (h : hst (x :: r)) : hst r := by
  obtain ⟨_, h2⟩ := h
  cases r with
  | nil => trivial
  | cons y r => exact ⟨fun z => absurd z (h2 y List.mem_cons_self), fun z hz => h2 z (List.mem_cons_of_mem _ hz)⟩
/-- the stack's top goes; rows change that signs don't speak of -/
theorem wf_pop {lo m lw lw' : Int} {x : en} {r : List en} {R R' : Rw} (h : wfS lo (x :: r, R, m, lw)) (h1 : ∀ i, i < m → R' 1 i = R 1 i) (he : ∀ y ∈ r, y.1 ≠ 41 → ent R lo m y → ent R' lo m y) : wfS lo (r, R', m, lw') := by
  obtain ⟨w1, w2, w3, w4, ⟨c, w5, w6⟩, w7, w8, w9⟩ := h
  dsimp only at *
  have hown : ∀ y ∈ r, y.1 ≠ 41 → y.2.1 < m := fun y hy h41 => by
    obtain ⟨_, _, z⟩ := w7 y (List.mem_cons_of_mem _ hy) h41
    rcases z with ⟨_, z⟩ | ⟨_, z, _⟩ <;> omega
  refine ⟨w1, w2, w3, w4, ?_, fun y hy h41 => he y hy h41 (w7 y (List.mem_cons_of_mem _ hy) h41), fun i i0 i1 => by show 0 ≤ R' 1 i ∧ R' 1 i ≤ 100; rw [h1 i i1]; exact w8 i i0 i1, hst_tl w9⟩
  rcases w6 with ⟨a, b⟩ | ⟨a, b, c', d, e⟩
  · exact ⟨c, w5, chn_congr r b hown h1⟩
  · exact ⟨_, by omega, chn_congr r e hown h1⟩
/-- signs of new nodes go on the stack -/
theorem wf_new {lo m m' D lw c : Int} {o ty : Int} {r : List en} {R' : Rw} (hlo : 0 ≤ lo) (h1 : lo ≤ o) (h2 : o < m') (h3 : m' ≤ lo + 1000) (h4 : m' ≤ 5000) (hD : R' 1 o = D) (hD0 : 0 ≤ D) (hD1 : D ≤ 100) (h0 : R' 0 o = ty) (h6 : R' 6 o = 0) (hc : chn R' c r) (hcD : c ≤ 4 * D + 1) (he : ∀ y ∈ r, y.1 ≠ 41 → ent R' lo m' y) (hR : ∀ i, lo ≤ i → i < m' → 0 ≤ R' 1 i ∧ R' 1 i ≤ 100) (hh : ∀ y ∈ r, y.1 ≠ 104) (hhr : hst r) : wfS lo (shE ty o ++ r, R', m', lw) := by
  have hs := shE_ok (R := R') (ty := ty) (m := o) h0 h6
  refine ⟨hlo, by show lo ≤ m'; omega, h3, h4, ⟨4 * D + 7, by omega, chn_new hD (by omega) hD0 hc hcD⟩, fun x hx h41 => ?_, hR, ?_⟩
  · rcases List.mem_append.mp hx with z | z
    · obtain ⟨a, b, c', _, _, d⟩ := hs x z
      exact ⟨b, c', Or.inr ⟨by omega, by show x.2.1 < m'; omega, d⟩⟩
    · exact he x z h41
  · cases hE : shE ty o with
    | nil => exact hhr
    | cons y l =>
      refine ⟨fun z => ?_, fun z hz => ?_⟩
      · obtain ⟨_, _, _, _, q, _⟩ := hs y (by rw [hE]; exact List.mem_cons_self)
        exact absurd z q
      · rcases List.mem_append.mp hz with w | w
        · obtain ⟨_, _, _, _, q, _⟩ := hs z (by rw [hE]; exact List.mem_cons_of_mem _ w)
          exact q
        · exact hh z w
theorem wfS_stp {lo ty nm v : Int} {S S' : pS} (h : stp lo ty nm v S = .inr S') (hw : wfS lo S) : wfS lo S' := by
  obtain ⟨st, R, m, lw⟩ := S
  cases st with
  | nil => cases h; exact hw
  | cons x r =>
    have hw' := hw
    obtain ⟨w1, w2, w3, w4, ⟨c, w5, w6⟩, w7, w8, w9⟩ := hw'
    dsimp only at w2 w3 w4 w6 w7 w8 w9
    have hrm : ∀ y ∈ r, y.1 ≠ 41 → ent R lo m y := fun y hy => w7 y (List.mem_cons_of_mem _ hy)
    have hown : ∀ y ∈ r, y.1 ≠ 41 → y.2.1 < m := fun y hy h41 => by
      obtain ⟨_, _, z⟩ := hrm y hy h41
      rcases z with ⟨_, z⟩ | ⟨_, z, _⟩ <;> omega
    have hno : ∀ y ∈ r, y.1 ≠ 104 := w9.2
    have keep : ∀ {R' : Rw} {lw' : Int}, (∀ i, i < m → R' 1 i = R 1 i) → (∀ i, i < m → R' 0 i = R 0 i) → (∀ i, i < m → R' 6 i = R 6 i) → wfS lo (r, R', m, lw') := fun a1 a0 a6 =>
      wf_pop hw a1 (fun y hy h41 he => ent_congr he (Int.le_refl _) (fun _ => a0 _ (hown y hy h41)) (fun _ => a6 _ (hown y hy h41)))
    have hstp : stp lo ty nm v (x :: r, R, m, lw) = (if x.1 = 99 ∨ x.1 = 118 ∨ x.1 = 111 then stpN lo ty nm v x r R m lw
      else if x.1 = 107 then stpK lo ty x r R m lw
      else if x.1 = 97 then (if 28 ≤ ty ∧ ty ≤ 30 then .inr (shE ty x.2.1 ++ r, im_u R 0 x.2.1 ty, m, lw) else .inl 4)
      else if x.1 = 116 then (if ty = 35 then .inr (r, im_u R 5 x.2.1 nm, m, lw) else if ty ≠ 34 then .inl 4 else if asT v = -1 then .inl 5 else .inr (r, im_u R 4 x.2.1 (asT v), m, lw))
      else if x.1 = 98 then (if ty = 40 ∧ 0 < R 6 x.2.1 then .inr (r, R, m, lw) else if ty ≠ 34 then .inl 4 else if 4 ≤ R 6 x.2.1 then .inl 8 else .inr ((104, x.2.1, 0, 3) :: x :: r, im_u R (8 + (R 6 x.2.1).toNat) x.2.1 v, m, v))
      else if x.1 = 104 then (if ty ≠ 34 then .inl 4 else if v < lw then .inl 6 else .inr (r, im_u (im_u R (12 + (R 6 x.2.1).toNat) x.2.1 v) 6 x.2.1 (R 6 x.2.1 + 1), m, lw))
      else if x.1 = 41 then (if ty = 38 then .inr (r, R, m, lw) else .inl 4)
      else if x.1 = 100 then (if ty = 32 ∨ ty = 33 then .inr (r, im_u R 3 x.2.1 (if ty = 33 then 1 else 0), m, lw) else .inl 4)
      else if x.1 = 91 then (if ty = 39 then .inr (r, R, m, lw) else .inl 4)
      else (if ty = 36 then .inr (r, im_u R (if x.1 = 49 then 4 else if x.1 = 50 then 5 else 6) x.2.1 nm, m, lw) else .inl 4)) := rfl
    rw [hstp] at h
    have hx : x.1 ≠ 41 → ent R lo m x := w7 x List.mem_cons_self
    have hch : x.1 ≠ 41 → phi R x < c ∧ -3 ≤ phi R x ∧ ((x.1 = 99 ∨ x.1 = 118 ∨ x.1 = 111 ∨ x.1 = 107) → x.2.2.2 ≤ 3) ∧ chn R (phi R x) r := fun h41 => by
      rcases w6 with ⟨a, _⟩ | ⟨_, b⟩
      · exact absurd a h41
      · exact b
    by_cases s1 : x.1 = 99 ∨ x.1 = 118 ∨ x.1 = 111
    · rw [if_pos s1] at h
      have h41 : x.1 ≠ 41 := by omega
      obtain ⟨e1, e2, e3⟩ := hx h41
      obtain ⟨k1, k2, k3, k4⟩ := hch h41
      have hrm3 := k3 (by omega)
      unfold stpN at h
      by_cases t1 : ty = 37
      · rw [if_pos t1] at h
        cases h
        refine ⟨w1, w2, w3, w4, ⟨c, w5, Or.inr ⟨h41, k1, k2, k3, Or.inl ⟨rfl, k4⟩⟩⟩, fun y hy hy41 => ?_, w8, ⟨fun z => by omega, fun y hy => ?_⟩⟩
        · rcases List.mem_cons.mp hy with z | z
          · rw [z]; exact hx h41
          · rcases List.mem_cons.mp z with z | z
            · rw [z] at hy41; exact absurd rfl hy41
            · exact hrm y z hy41
        · rcases List.mem_cons.mp hy with z | z
          · rw [z]; decide
          · exact hno y z
      · rw [if_neg t1] at h
        by_cases t2 : bgn x.1 ty
        · rw [if_neg (fun z => z t2)] at h
          by_cases t3 : much R lo m x.2.1
          · rw [if_pos t3] at h; cases h
          · rw [if_neg t3] at h
            have hsl : x.2.1 = -1 ∨ (1 ≤ x.2.2.1 ∧ x.2.2.1 ≤ 3) := by
              rcases e3 with ⟨_, z⟩ | ⟨_, _, z⟩
              · exact Or.inl z
              · exact Or.inr (z.2.2.2.2.2.2.2.2.1 s1)
            have hom : m ≠ x.2.1 := by
              rcases e3 with ⟨_, z⟩ | ⟨_, z, _⟩ <;> omega
            have hS : S' = (shE ty m ++ r, nodR R m ty nm v x.2.1 x.2.2.1, m + 1, lw) := by cases h; rfl
            rw [hS]
            have hne : ∀ (f : Nat) (i : Int), i < m → f < 16 → nodR R m ty nm v x.2.1 x.2.2.1 f i = R f i := fun f i hi hf => nodR_ne f i (by omega) (by omega) hsl
            have hD : deepOf R x.2.1 = dpt R x.2.1 + 1 := by
              unfold deepOf dpt; split <;> omega
            have hDr : 0 ≤ deepOf R x.2.1 ∧ deepOf R x.2.1 ≤ 100 := by
              refine ⟨?_, by omega⟩
              unfold deepOf
              split
              · omega
              · rcases e3 with ⟨_, z⟩ | ⟨z1, z2, _⟩
                · omega
                · have := w8 x.2.1 z1 z2; omega
            have hm1 : nodR R m ty nm v x.2.1 x.2.2.1 1 m = deepOf R x.2.1 := by rw [nodR_m 1 hom (by decide) hsl, newN_1]
            refine wf_new (m := m) (D := deepOf R x.2.1) (c := phi R x) w1 w2 (by omega) (by omega) (by omega) hm1 hDr.1 hDr.2 (by rw [nodR_m 0 hom (by decide) hsl, newN_0]) (by rw [nodR_m 6 hom (by decide) hsl, newN_6]) (chn_congr r k4 hown (fun i hi => hne 1 i hi (by decide))) ?_ (fun y hy hy41 => ent_congr (hrm y hy hy41) (by omega) (fun _ => hne 0 _ (hown y hy hy41) (by decide)) (fun _ => hne 6 _ (hown y hy hy41) (by decide))) (fun i i0 i1 => ?_) hno (hst_tl w9)
            · unfold phi; omega
            · by_cases hi : i = m
              · rw [hi, hm1]; exact hDr
              · rw [hne 1 i (by omega) (by decide)]; exact w8 i i0 (by show i < m; omega)
        · rw [if_pos t2] at h; cases h
    rw [if_neg s1] at h
    by_cases s2 : x.1 = 107
    · rw [if_pos s2] at h
      have h41 : x.1 ≠ 41 := by omega
      obtain ⟨e1, e2, e3⟩ := hx h41
      obtain ⟨k1, k2, k3, k4⟩ := hch h41
      obtain ⟨o1, o2, o3⟩ : lo ≤ x.2.1 ∧ x.2.1 < m ∧ sgk R x := by
        rcases e3 with ⟨z, _⟩ | z
        · omega
        · exact z
      unfold stpK at h
      by_cases t1 : ty = 40
      · rw [if_pos t1] at h
        cases h
        exact keep (fun _ _ => rfl) (fun _ _ => rfl) (fun _ _ => rfl)
      · rw [if_neg t1] at h
        by_cases t2 : ty = 31
        · rw [if_neg (fun z => z t2)] at h
          by_cases t3 : much R lo m x.2.1
          · rw [if_pos t3] at h; cases h
          · rw [if_neg t3] at h
            by_cases t4 : 8 ≤ R 3 x.2.1
            · rw [if_pos t4] at h; cases h
            · rw [if_neg t4] at h
              cases h
              have hne : ∀ (f : Nat) (i : Int), i < m → (f < 3 ∨ (3 < f ∧ f < 16)) → caseR R m x.2.1 f i = R f i := fun f i hi hf => caseR_ne f i (by omega) (by omega)
              have hd0 := w8 x.2.1 o1 o2
              have hdp : deepOf R x.2.1 = R 1 x.2.1 + 1 := by unfold deepOf; rw [if_neg (by omega)]
              have hdp' : deepOf (im_u R 3 x.2.1 (R 3 x.2.1 + 1)) x.2.1 = R 1 x.2.1 + 1 := by unfold deepOf; rw [if_neg (by omega), im_rdn _ _ _ _ (by decide)]
              have hm1 : caseR R m x.2.1 1 m = R 1 x.2.1 + 1 := by rw [caseR_m 1 (by omega) (by decide), newN_1, hdp']
              have hph : phi R x = 4 * R 1 x.2.1 + x.2.2.2 := by unfold phi dpt; rw [if_neg (by omega)]
              have hr3 := o3.2.2.2.2.2.2.2.2.2.2.2.2 s2
              have hall : chn (caseR R m x.2.1) (phi R x + 1) (x :: r) := by
                refine chn_congr (R := R) (m := m) (x :: r) (Or.inr ⟨h41, by omega, k2, k3, k4⟩) (fun y hy hy41 => ?_) (fun i hi => hne 1 i hi (by decide))
                rcases List.mem_cons.mp hy with z | z
                · rw [z]; exact o2
                · exact hown y z hy41
              refine wf_new (m := m) (ty := 31) (o := m) (m' := m + 1) (lw := lw) (r := x :: r) (R' := caseR R m x.2.1) (D := R 1 x.2.1 + 1) (c := phi R x + 1) w1 w2 (by omega) (by omega) (by omega) hm1 (by omega) (by omega) (by rw [caseR_m 0 (by omega) (by decide), newN_0]) (by rw [caseR_m 6 (by omega) (by decide), newN_6]) hall (by omega) (fun y hy hy41 => ?_) (fun i i0 i1 => ?_) (fun y hy => ?_) w9
              · have hym : y.2.1 < m := by
                  rcases List.mem_cons.mp hy with z | z
                  · rw [z]; exact o2
                  · exact hown y z hy41
                exact ent_congr (w7 y hy hy41) (by show m ≤ m + 1; omega) (fun _ => hne 0 _ hym (by decide)) (fun _ => hne 6 _ hym (by decide))
              · by_cases hi : i = m
                · rw [hi, hm1]; omega
                · rw [hne 1 i (by omega) (by decide)]; exact w8 i i0 (by show i < m; omega)
              · rcases List.mem_cons.mp hy with z | z
                · rw [z]; omega
                · exact hno y z
        · rw [if_pos t2] at h; cases h
    rw [if_neg s2] at h
    have hsg : x.1 ≠ 41 → lo ≤ x.2.1 ∧ x.2.1 < m ∧ sgk R x := fun h41 => by
      obtain ⟨_, _, e3⟩ := hx h41
      rcases e3 with ⟨z, _⟩ | z
      · omega
      · exact z
    by_cases s3 : x.1 = 97
    · rw [if_pos s3] at h
      have h41 : x.1 ≠ 41 := by omega
      obtain ⟨k1, k2, k3, k4⟩ := hch h41
      obtain ⟨o1, o2, o3⟩ := hsg h41
      have hr1 := o3.2.2.2.2.2.2.2.2.2.2.1 s3
      have hk := o3.2.1 s3
      have hd0 := w8 x.2.1 o1 o2
      have hph : phi R x = 4 * R 1 x.2.1 + x.2.2.2 := by unfold phi dpt; rw [if_neg (by omega)]
      by_cases t1 : 28 ≤ ty ∧ ty ≤ 30
      · rw [if_pos t1] at h
        cases h
        have hoth : ∀ y ∈ r, y.1 ≠ 41 → y.2.1 ≠ x.2.1 := fun y hy hy41 z => by
          have h5 := chn_lt r k4 y hy hy41
          have h6 : phi R y = 4 * R 1 x.2.1 + y.2.2.2 := by unfold phi dpt; rw [z, if_neg (by omega)]
          have h7 := (hrm y hy hy41).1
          omega
        refine wf_new (m := m) (o := x.2.1) (D := R 1 x.2.1) (c := phi R x) w1 o1 o2 w3 w4 (im_rdn _ _ _ _ (by decide)) hd0.1 hd0.2 (im_rds _ _ _ _) (by rw [im_rdn _ _ _ _ (by decide)]; exact hk.2) (chn_congr r k4 hown (fun i hi => im_rdn _ _ _ _ (by decide))) (by omega) (fun y hy hy41 => ent_congr (hrm y hy hy41) (Int.le_refl _) (fun _ => im_rdk _ _ _ (hoth y hy hy41)) (fun _ => im_rdn _ _ _ _ (by decide))) (fun i i0 i1 => by rw [im_rdn _ _ _ _ (by decide)]; exact w8 i i0 i1) hno (hst_tl w9)
      · rw [if_neg t1] at h; cases h
    rw [if_neg s3] at h
    by_cases s4 : x.1 = 116
    · rw [if_pos s4] at h
      by_cases t1 : ty = 35
      · rw [if_pos t1] at h
        cases h
        exact keep (fun _ _ => im_rdn _ _ _ _ (by decide)) (fun _ _ => im_rdn _ _ _ _ (by decide)) (fun _ _ => im_rdn _ _ _ _ (by decide))
      · rw [if_neg t1] at h
        by_cases t2 : ty = 34
        · rw [if_neg (fun z => z t2)] at h
          by_cases t3 : asT v = -1
          · rw [if_pos t3] at h; cases h
          · rw [if_neg t3] at h
            cases h
            exact keep (fun _ _ => im_rdn _ _ _ _ (by decide)) (fun _ _ => im_rdn _ _ _ _ (by decide)) (fun _ _ => im_rdn _ _ _ _ (by decide))
        · rw [if_pos t2] at h; cases h
    rw [if_neg s4] at h
    by_cases s5 : x.1 = 98
    · rw [if_pos s5] at h
      have h41 : x.1 ≠ 41 := by omega
      obtain ⟨k1, k2, k3, k4⟩ := hch h41
      obtain ⟨o1, o2, o3⟩ := hsg h41
      have hk := o3.2.2.1 (Or.inl s5)
      have hr2 := o3.2.2.2.2.2.2.2.2.2.2.2.1 s5
      by_cases t1 : ty = 40 ∧ 0 < R 6 x.2.1
      · rw [if_pos t1] at h
        cases h
        exact keep (fun _ _ => rfl) (fun _ _ => rfl) (fun _ _ => rfl)
      · rw [if_neg t1] at h
        by_cases t2 : ty = 34
        · rw [if_neg (fun z => z t2)] at h
          by_cases t3 : 4 ≤ R 6 x.2.1
          · rw [if_pos t3] at h; cases h
          · rw [if_neg t3] at h
            cases h
            have hu : ∀ (f : Nat) (i : Int), f < 8 → im_u R (8 + (R 6 x.2.1).toNat) x.2.1 v f i = R f i := fun f i hf => im_rdn _ _ _ _ (by omega)
            have hph : phi R x = 4 * R 1 x.2.1 + 2 := by unfold phi dpt; rw [if_neg (by omega), hr2]
            have hd0 := w8 x.2.1 o1 o2
            have hpx : ∀ s sl rm : Int, phi (im_u R (8 + (R 6 x.2.1).toNat) x.2.1 v) (s, x.2.1, sl, rm) = 4 * R 1 x.2.1 + rm := fun s sl rm => by
              unfold phi dpt; dsimp only; rw [if_neg (by omega), hu 1 _ (by decide)]
            have hall : chn (im_u R (8 + (R 6 x.2.1).toNat) x.2.1 v) (4 * R 1 x.2.1 + 3) (x :: r) := by
              refine chn_congr (R := R) (m := m) (x :: r) (Or.inr ⟨h41, by omega, k2, k3, k4⟩) (fun y hy hy41 => ?_) (fun i hi => hu 1 i (by decide))
              rcases List.mem_cons.mp hy with z | z
              · rw [z]; exact o2
              · exact hown y z hy41
            refine ⟨w1, w2, w3, w4, ⟨4 * R 1 x.2.1 + 4, by omega, Or.inr ⟨show (104 : Int) ≠ 41 by decide, by rw [hpx]; omega, by rw [hpx]; omega, fun z => by omega, by rw [hpx]; exact hall⟩⟩, fun y hy hy41 => ?_, fun i i0 i1 => ?_, ⟨fun _ => ⟨x, r, rfl, s5, rfl⟩, fun y hy => ?_⟩⟩
            · rcases List.mem_cons.mp hy with z | z
              · rw [z]
                refine ⟨show (1 : Int) ≤ 3 by decide, show (3 : Int) ≤ 6 by decide, Or.inr ⟨o1, o2, ?_⟩⟩
                unfold sgk
                dsimp only
                rw [hu 0 _ (by decide), hu 6 _ (by decide)]
                refine ⟨fun q => absurd q (by decide), fun q => absurd q (by decide), fun _ => hk, fun _ => by omega, fun q => absurd q (by decide), fun q => absurd q (by decide), fun q => absurd q (by decide), by decide, fun q => absurd q (by decide), fun q => absurd q (by decide), fun q => absurd q (by decide), fun q => absurd q (by decide), fun q => absurd q (by decide)⟩
              · exact ent_congr (w7 y z hy41) (Int.le_refl _) (fun _ => hu 0 _ (by decide)) (fun _ => hu 6 _ (by decide))
            · show 0 ≤ im_u R _ _ _ 1 i ∧ im_u R _ _ _ 1 i ≤ 100
              rw [hu 1 i (by decide)]; exact w8 i i0 i1
            · rcases List.mem_cons.mp hy with z | z
              · rw [z]; omega
              · exact hno y z
        · rw [if_pos t2] at h; cases h
    rw [if_neg s5] at h
    by_cases s6 : x.1 = 104
    · rw [if_pos s6] at h
      have h41 : x.1 ≠ 41 := by omega
      obtain ⟨o1, o2, o3⟩ := hsg h41
      have hk := o3.2.2.1 (Or.inr s6)
      have hk3 := o3.2.2.2.1 s6
      by_cases t2 : ty = 34
      · rw [if_neg (fun z => z t2)] at h
        by_cases t3 : v < lw
        · rw [if_pos t3] at h; cases h
        · rw [if_neg t3] at h
          cases h
          refine wf_pop hw (fun i hi => by rw [im_rdn _ _ _ _ (by decide), im_rdn _ _ _ _ (by omega)]) (fun y hy hy41 he => ?_)
          by_cases hyo : y.2.1 = x.2.1
          · obtain ⟨a, b, c'⟩ := he
            refine ⟨a, b, ?_⟩
            rcases c' with z | ⟨z1, z2, z3⟩
            · exact Or.inl z
            · refine Or.inr ⟨z1, z2, ?_⟩
              have hn104 := hno y hy
              unfold sgk at z3 ⊢
              rw [hyo] at z3 ⊢
              rw [im_rdn _ _ _ _ (by decide), im_rdn _ _ _ _ (by omega), im_rds]
              obtain ⟨q1, q2, q3, q4, q5, q6, q7, q8⟩ := z3
              exact ⟨q1, fun u => by have := q2 u; omega, fun u => by have := q3 u; omega, fun u => absurd u hn104, q5, q6, q7, q8⟩
          · exact ent_congr he (Int.le_refl _) (fun _ => by rw [im_rdn _ _ _ _ (by decide), im_rdn _ _ _ _ (by omega)]) (fun _ => by rw [im_rdk _ _ _ hyo, im_rdn _ _ _ _ (by omega)])
      · rw [if_pos t2] at h; cases h
    rw [if_neg s6] at h
    by_cases s7 : x.1 = 41
    · rw [if_pos s7] at h
      split at h
      · cases h; exact keep (fun _ _ => rfl) (fun _ _ => rfl) (fun _ _ => rfl)
      · cases h
    rw [if_neg s7] at h
    by_cases s8 : x.1 = 100
    · rw [if_pos s8] at h
      split at h
      · cases h; exact keep (fun _ _ => im_rdn _ _ _ _ (by decide)) (fun _ _ => im_rdn _ _ _ _ (by decide)) (fun _ _ => im_rdn _ _ _ _ (by decide))
      · cases h
    rw [if_neg s8] at h
    by_cases s9 : x.1 = 91
    · rw [if_pos s9] at h
      split at h
      · cases h; exact keep (fun _ _ => rfl) (fun _ _ => rfl) (fun _ _ => rfl)
      · cases h
    rw [if_neg s9] at h
    obtain ⟨o1, o2, o3⟩ := hsg s7
    by_cases t1 : ty = 36
    · rw [if_pos t1] at h
      cases h
      have hrow : (if x.1 = 49 then 4 else if x.1 = 50 then 5 else 6 : Nat) = 4 ∨ (if x.1 = 49 then 4 else if x.1 = 50 then 5 else 6 : Nat) = 5 ∨ ((if x.1 = 49 then 4 else if x.1 = 50 then 5 else 6 : Nat) = 6 ∧ x.1 = 51) := by
        have := o3.2.2.2.2.2.2.2.1
        split
        · exact Or.inl rfl
        · split
          · exact Or.inr (Or.inl rfl)
          · exact Or.inr (Or.inr ⟨rfl, by omega⟩)
      refine wf_pop hw (fun i hi => im_rdn _ _ _ _ (by omega)) (fun y hy hy41 he => ?_)
      rcases hrow with hr | hr | ⟨hr, h51⟩
      · rw [hr]; exact ent_congr he (Int.le_refl _) (fun _ => im_rdn _ _ _ _ (by decide)) (fun _ => im_rdn _ _ _ _ (by decide))
      · rw [hr]; exact ent_congr he (Int.le_refl _) (fun _ => im_rdn _ _ _ _ (by decide)) (fun _ => im_rdn _ _ _ _ (by decide))
      · rw [hr]
        by_cases hyo : y.2.1 = x.2.1
        · have hkx := o3.2.2.2.2.2.2.1 h51
          obtain ⟨a, b, c'⟩ := he
          refine ⟨a, b, ?_⟩
          rcases c' with z | ⟨z1, z2, z3⟩
          · exact Or.inl z
          · refine Or.inr ⟨z1, z2, ?_⟩
            have hn104 := hno y hy
            unfold sgk at z3 ⊢
            rw [hyo] at z3 ⊢
            rw [im_rdn _ _ _ _ (by decide), im_rds]
            obtain ⟨q1, q2, q3, q4, q5, q6, q7, q8⟩ := z3
            exact ⟨q1, fun u => by have := q2 u; omega, fun u => by have := q3 u; omega, fun u => absurd u hn104, q5, q6, q7, q8⟩
        · exact ent_congr he (Int.le_refl _) (fun _ => im_rdn _ _ _ _ (by decide)) (fun _ => im_rdk _ _ _ hyo)
    · rw [if_neg t1] at h; cases h
/-- a choice has four pairs at most; the rows say so -/
def c29 (R : Rw) (lo m : Int) : Prop := ∀ i, lo ≤ i → i < m → R 0 i = 29 → 0 ≤ R 6 i ∧ R 6 i ≤ 4
theorem stp_cons (lo ty nm v : Int) (x : en) (r : List en) (R : Rw) (m lw : Int) : stp lo ty nm v (x :: r, R, m, lw) = (if x.1 = 99 ∨ x.1 = 118 ∨ x.1 = 111 then stpN lo ty nm v x r R m lw
      else if x.1 = 107 then stpK lo ty x r R m lw
      else if x.1 = 97 then (if 28 ≤ ty ∧ ty ≤ 30 then .inr (shE ty x.2.1 ++ r, im_u R 0 x.2.1 ty, m, lw) else .inl 4)
      else if x.1 = 116 then (if ty = 35 then .inr (r, im_u R 5 x.2.1 nm, m, lw) else if ty ≠ 34 then .inl 4 else if asT v = -1 then .inl 5 else .inr (r, im_u R 4 x.2.1 (asT v), m, lw))
      else if x.1 = 98 then (if ty = 40 ∧ 0 < R 6 x.2.1 then .inr (r, R, m, lw) else if ty ≠ 34 then .inl 4 else if 4 ≤ R 6 x.2.1 then .inl 8 else .inr ((104, x.2.1, 0, 3) :: x :: r, im_u R (8 + (R 6 x.2.1).toNat) x.2.1 v, m, v))
      else if x.1 = 104 then (if ty ≠ 34 then .inl 4 else if v < lw then .inl 6 else .inr (r, im_u (im_u R (12 + (R 6 x.2.1).toNat) x.2.1 v) 6 x.2.1 (R 6 x.2.1 + 1), m, lw))
      else if x.1 = 41 then (if ty = 38 then .inr (r, R, m, lw) else .inl 4)
      else if x.1 = 100 then (if ty = 32 ∨ ty = 33 then .inr (r, im_u R 3 x.2.1 (if ty = 33 then 1 else 0), m, lw) else .inl 4)
      else if x.1 = 91 then (if ty = 39 then .inr (r, R, m, lw) else .inl 4)
      else (if ty = 36 then .inr (r, im_u R (if x.1 = 49 then 4 else if x.1 = 50 then 5 else 6) x.2.1 nm, m, lw) else .inl 4)) := rfl
theorem c29_stp {lo ty nm v : Int} {S S' : pS} (h : stp lo ty nm v S = .inr S') (hw : wfS lo S) (hc : c29 S.2.1 lo S.2.2.1) : c29 S'.2.1 lo S'.2.2.1 := by
  obtain ⟨st, R, m, lw⟩ := S
  cases st with
  | nil => cases h; exact hc
  | cons x r =>
    obtain ⟨w1, w2, w3, w4, _, w7, w8, w9⟩ := hw
    dsimp only at w2 w3 w4 w7 w8 hc
    rw [stp_cons] at h
    have same : ∀ {R' : Rw} {st' : List en} {lw' : Int}, (∀ i, R' 0 i = R 0 i) → (∀ i, R' 6 i = R 6 i) → c29 ((st', R', m, lw') : pS).2.1 lo ((st', R', m, lw') : pS).2.2.1 := fun a b i i0 i1 z => by
      show 0 ≤ _ ∧ _ ≤ 4
      dsimp only at z ⊢
      rw [a] at z
      rw [b]
      exact hc i i0 i1 z
    have hx : x.1 ≠ 41 → ent R lo m x := w7 x List.mem_cons_self
    by_cases s1 : x.1 = 99 ∨ x.1 = 118 ∨ x.1 = 111
    · rw [if_pos s1] at h
      obtain ⟨e1, e2, e3⟩ := hx (by omega)
      unfold stpN at h
      by_cases t1 : ty = 37
      · rw [if_pos t1] at h; cases h; exact same (fun _ => rfl) (fun _ => rfl)
      · rw [if_neg t1] at h
        by_cases t2 : bgn x.1 ty
        · rw [if_neg (fun z => z t2)] at h
          by_cases t3 : much R lo m x.2.1
          · rw [if_pos t3] at h; cases h
          · rw [if_neg t3] at h
            have hsl : x.2.1 = -1 ∨ (1 ≤ x.2.2.1 ∧ x.2.2.1 ≤ 3) := by
              rcases e3 with ⟨_, z⟩ | ⟨_, _, z⟩
              · exact Or.inl z
              · exact Or.inr (z.2.2.2.2.2.2.2.2.1 s1)
            have hom : m ≠ x.2.1 := by
              rcases e3 with ⟨_, z⟩ | ⟨_, z, _⟩ <;> omega
            have hS : S' = (shE ty m ++ r, nodR R m ty nm v x.2.1 x.2.2.1, m + 1, lw) := by cases h; rfl
            rw [hS]
            intro i i0 i1 z
            dsimp only at i1 z ⊢
            by_cases hi : i = m
            · subst hi
              rw [nodR_m 0 hom (by decide) hsl, newN_0] at z
              omega
            · rw [nodR_ne 0 i hi (by omega) hsl] at z
              rw [nodR_ne 6 i hi (by omega) hsl]
              exact hc i i0 (by omega) z
        · rw [if_pos t2] at h; cases h
    rw [if_neg s1] at h
    by_cases s2 : x.1 = 107
    · rw [if_pos s2] at h
      obtain ⟨e1, e2, e3⟩ := hx (by omega)
      unfold stpK at h
      by_cases t1 : ty = 40
      · rw [if_pos t1] at h; cases h; exact same (fun _ => rfl) (fun _ => rfl)
      · rw [if_neg t1] at h
        by_cases t2 : ty = 31
        · rw [if_neg (fun z => z t2)] at h
          split at h
          · cases h
          · split at h
            · cases h
            · cases h
              have hom : m ≠ x.2.1 := by
                rcases e3 with ⟨_, z⟩ | ⟨_, z, _⟩ <;> omega
              intro i i0 i1 z
              dsimp only at i1 z ⊢
              by_cases hi : i = m
              · subst hi
                rw [caseR_m 0 hom (by decide), newN_0] at z
                omega
              · rw [caseR_ne 0 i hi (by decide)] at z
                rw [caseR_ne 6 i hi (by decide)]
                exact hc i i0 (by omega) z
        · rw [if_pos t2] at h; cases h
    rw [if_neg s2] at h
    have hsg : x.1 ≠ 41 → lo ≤ x.2.1 ∧ x.2.1 < m ∧ sgk R x := fun h41 => by
      obtain ⟨_, _, e3⟩ := hx h41
      rcases e3 with ⟨z, _⟩ | z
      · omega
      · exact z
    by_cases s3 : x.1 = 97
    · rw [if_pos s3] at h
      obtain ⟨o1, o2, o3⟩ := hsg (by omega)
      have hk := o3.2.1 s3
      split at h
      · cases h
        intro i i0 i1 z
        dsimp only at i1 z ⊢
        rw [im_rdn _ _ _ _ (by decide)]
        by_cases hi : i = x.2.1
        · subst hi; omega
        · rw [im_rdk _ _ _ hi] at z
          exact hc i i0 i1 z
      · cases h
    rw [if_neg s3] at h
    by_cases s4 : x.1 = 116
    · rw [if_pos s4] at h
      split at h
      · cases h; exact same (fun _ => im_rdn _ _ _ _ (by decide)) (fun _ => im_rdn _ _ _ _ (by decide))
      · split at h
        · cases h
        · split at h
          · cases h
          · cases h; exact same (fun _ => im_rdn _ _ _ _ (by decide)) (fun _ => im_rdn _ _ _ _ (by decide))
    rw [if_neg s4] at h
    by_cases s5 : x.1 = 98
    · rw [if_pos s5] at h
      split at h
      · cases h; exact same (fun _ => rfl) (fun _ => rfl)
      · split at h
        · cases h
        · split at h
          · cases h
          · cases h; exact same (fun _ => im_rdn _ _ _ _ (by omega)) (fun _ => im_rdn _ _ _ _ (by omega))
    rw [if_neg s5] at h
    by_cases s6 : x.1 = 104
    · rw [if_pos s6] at h
      obtain ⟨o1, o2, o3⟩ := hsg (by omega)
      have hk := o3.2.2.1 (Or.inr s6)
      have hk3 := o3.2.2.2.1 s6
      split at h
      · cases h
      · split at h
        · cases h
        · cases h
          intro i i0 i1 z
          dsimp only at i1 z ⊢
          by_cases hi : i = x.2.1
          · subst hi; rw [im_rds]; omega
          · rw [im_rdn _ _ _ _ (by decide), im_rdn _ _ _ _ (by omega)] at z
            rw [im_rdk _ _ _ hi, im_rdn _ _ _ _ (by omega)]
            exact hc i i0 i1 z
    rw [if_neg s6] at h
    by_cases s7 : x.1 = 41
    · rw [if_pos s7] at h
      split at h
      · cases h; exact same (fun _ => rfl) (fun _ => rfl)
      · cases h
    rw [if_neg s7] at h
    by_cases s8 : x.1 = 100
    · rw [if_pos s8] at h
      split at h
      · cases h; exact same (fun _ => im_rdn _ _ _ _ (by decide)) (fun _ => im_rdn _ _ _ _ (by decide))
      · cases h
    rw [if_neg s8] at h
    by_cases s9 : x.1 = 91
    · rw [if_pos s9] at h
      split at h
      · cases h; exact same (fun _ => rfl) (fun _ => rfl)
      · cases h
    rw [if_neg s9] at h
    obtain ⟨o1, o2, o3⟩ := hsg s7
    by_cases t1 : ty = 36
    · rw [if_pos t1] at h
      cases h
      intro i i0 i1 z
      dsimp only at i1 z ⊢
      by_cases e49 : x.1 = 49
      · rw [if_pos e49] at z ⊢
        rw [im_rdn _ _ _ _ (by decide)] at z ⊢
        exact hc i i0 i1 z
      · rw [if_neg e49] at z ⊢
        by_cases e50 : x.1 = 50
        · rw [if_pos e50] at z ⊢
          rw [im_rdn _ _ _ _ (by decide)] at z ⊢
          exact hc i i0 i1 z
        · rw [if_neg e50] at z ⊢
          have h51 : x.1 = 51 := by have := o3.2.2.2.2.2.2.2.1; omega
          have hkx := o3.2.2.2.2.2.2.1 h51
          rw [im_rdn _ _ _ _ (by decide)] at z
          by_cases hi : i = x.2.1
          · subst hi; omega
          · rw [im_rdk _ _ _ hi]
            exact hc i i0 i1 z
    · rw [if_neg t1] at h; cases h
/-- bounds are read one behind the other -/
def t98 (S : pS) : Prop := ∀ y ∈ S.1, y.1 = 98 → S.2.1 6 y.2.1 = 0 ∨ ∃ x r, S.1 = x :: r ∧ (x.1 = 98 ∨ x.1 = 104) ∧ x.2.1 = y.2.1
theorem shE_98 {R : Rw} {ty m : Int} (h6 : R 6 m = 0) : ∀ y ∈ shE ty m, y.1 = 98 → R 6 y.2.1 = 0 := fun y hy _ => by
  unfold shE at hy
  obtain ⟨z, _, rfl⟩ := List.mem_map.mp hy
  exact h6
theorem t98_stp {lo ty nm v : Int} {S S' : pS} (h : stp lo ty nm v S = .inr S') (hw : wfS lo S) (hc : t98 S) : t98 S' := by
  obtain ⟨st, R, m, lw⟩ := S
  cases st with
  | nil => cases h; exact hc
  | cons x r =>
    obtain ⟨w1, w2, w3, w4, ⟨c, w5, w6⟩, w7, w8, w9⟩ := hw
    dsimp only at w2 w3 w4 w6 w7 w8 w9
    rw [stp_cons] at h
    have hx : x.1 ≠ 41 → ent R lo m x := w7 x List.mem_cons_self
    -- a 98 below has an owner of its own
    have hk29 : ∀ y ∈ x :: r, y.1 = 98 → lo ≤ y.2.1 ∧ y.2.1 < m ∧ R 0 y.2.1 = 29 ∧ y.2.2.2 = 2 := fun y hy hy98 => by
      obtain ⟨_, _, z⟩ := w7 y hy (by omega)
      rcases z with ⟨z, _⟩ | ⟨z1, z2, z3⟩
      · omega
      · exact ⟨z1, z2, (z3.2.2.1 (Or.inl hy98)).1, z3.2.2.2.2.2.2.2.2.2.2.2.1 hy98⟩
    have zero : x.1 ≠ 98 → x.1 ≠ 104 → ∀ y ∈ x :: r, y.1 = 98 → R 6 y.2.1 = 0 := fun n1 n2 y hy hy98 => by
      rcases hc y hy hy98 with z | ⟨x', r', z, z2, _⟩
      · exact z
      · cases z; omega
    have fin : ∀ {st' : List en} {R' : Rw} {m' lw' : Int}, (∀ y ∈ st', y.1 = 98 → R' 6 y.2.1 = 0) → t98 (st', R', m', lw') := fun hh y hy hy98 => Or.inl (hh y hy hy98)
    have tl : x.1 ≠ 98 → x.1 ≠ 104 → ∀ {R' : Rw} {lw' : Int}, (∀ i, lo ≤ i → i < m → R 0 i = 29 → R' 6 i = R 6 i) → t98 (r, R', m, lw') := fun n1 n2 R' lw' h6 => fin (fun y hy hy98 => by
      have hy2 := List.mem_cons_of_mem x hy
      obtain ⟨a, b, c', _⟩ := hk29 y hy2 hy98
      rw [h6 _ a b c']
      exact zero n1 n2 y hy2 hy98)
    have own : ∀ y ∈ r, y.1 = 98 → x.1 ≠ 41 → x.2.2.2 ≤ 2 → y.2.1 ≠ x.2.1 := fun y hy hy98 h41 h2 z => by
      obtain ⟨a, b, _, d⟩ := hk29 y (List.mem_cons_of_mem _ hy) hy98
      rcases w6 with ⟨q, _⟩ | ⟨_, q1, q2, q3, q4⟩
      · exact h41 q
      · have h5 := chn_lt r q4 y hy (by omega)
        unfold phi dpt at h5
        rw [z, if_neg (by omega)] at h5
        omega
    by_cases s1 : x.1 = 99 ∨ x.1 = 118 ∨ x.1 = 111
    · rw [if_pos s1] at h
      obtain ⟨e1, e2, e3⟩ := hx (by omega)
      have n1 : x.1 ≠ 98 := by omega
      have n2 : x.1 ≠ 104 := by omega
      unfold stpN at h
      by_cases t1 : ty = 37
      · rw [if_pos t1] at h; cases h
        refine fin (fun y hy hy98 => ?_)
        rcases List.mem_cons.mp hy with z | z
        · rw [z] at hy98; exact absurd hy98 n1
        · rcases List.mem_cons.mp z with z | z
          · rw [z] at hy98; exact absurd hy98 (by decide)
          · exact zero n1 n2 y (List.mem_cons_of_mem _ z) hy98
      · rw [if_neg t1] at h
        by_cases t2 : bgn x.1 ty
        · rw [if_neg (fun z => z t2)] at h
          by_cases t3 : much R lo m x.2.1
          · rw [if_pos t3] at h; cases h
          · rw [if_neg t3] at h
            have hsl : x.2.1 = -1 ∨ (1 ≤ x.2.2.1 ∧ x.2.2.1 ≤ 3) := by
              rcases e3 with ⟨_, z⟩ | ⟨_, _, z⟩
              · exact Or.inl z
              · exact Or.inr (z.2.2.2.2.2.2.2.2.1 s1)
            have hom : m ≠ x.2.1 := by
              rcases e3 with ⟨_, z⟩ | ⟨_, z, _⟩ <;> omega
            have hS : S' = (shE ty m ++ r, nodR R m ty nm v x.2.1 x.2.2.1, m + 1, lw) := by cases h; rfl
            rw [hS]
            refine fin (fun y hy hy98 => ?_)
            rcases List.mem_append.mp hy with z | z
            · exact shE_98 (by rw [nodR_m 6 hom (by decide) hsl, newN_6]) y z hy98
            · have hy2 := List.mem_cons_of_mem x z
              obtain ⟨a, b, _, _⟩ := hk29 y hy2 hy98
              rw [nodR_ne 6 _ (by omega) (by omega) hsl]
              exact zero n1 n2 y hy2 hy98
        · rw [if_pos t2] at h; cases h
    rw [if_neg s1] at h
    by_cases s2 : x.1 = 107
    · rw [if_pos s2] at h
      obtain ⟨e1, e2, e3⟩ := hx (by omega)
      have n1 : x.1 ≠ 98 := by omega
      have n2 : x.1 ≠ 104 := by omega
      unfold stpK at h
      by_cases t1 : ty = 40
      · rw [if_pos t1] at h; cases h; exact tl n1 n2 (fun _ _ _ _ => rfl)
      · rw [if_neg t1] at h
        by_cases t2 : ty = 31
        · rw [if_neg (fun z => z t2)] at h
          split at h
          · cases h
          · split at h
            · cases h
            · cases h
              refine fin (fun y hy hy98 => ?_)
              rcases List.mem_cons.mp hy with z | z
              · rw [z] at hy98; exact absurd (show (97 : Int) = 98 from hy98) (by decide)
              · obtain ⟨a, b, _, _⟩ := hk29 y z hy98
                rw [caseR_ne 6 _ (by omega) (by decide)]
                exact zero n1 n2 y z hy98
        · rw [if_pos t2] at h; cases h
    rw [if_neg s2] at h
    have hsg : x.1 ≠ 41 → lo ≤ x.2.1 ∧ x.2.1 < m ∧ sgk R x := fun h41 => by
      obtain ⟨_, _, e3⟩ := hx h41
      rcases e3 with ⟨z, _⟩ | z
      · omega
      · exact z
    by_cases s3 : x.1 = 97
    · rw [if_pos s3] at h
      obtain ⟨o1, o2, o3⟩ := hsg (by omega)
      have hk := o3.2.1 s3
      split at h
      · cases h
        refine fin (fun y hy hy98 => ?_)
        rcases List.mem_append.mp hy with z | z
        · exact shE_98 (by rw [im_rdn _ _ _ _ (by decide)]; exact hk.2) y z hy98
        · rw [im_rdn _ _ _ _ (by decide)]
          exact zero (by omega) (by omega) y (List.mem_cons_of_mem _ z) hy98
      · cases h
    rw [if_neg s3] at h
    by_cases s4 : x.1 = 116
    · rw [if_pos s4] at h
      have n1 : x.1 ≠ 98 := by omega
      have n2 : x.1 ≠ 104 := by omega
      split at h
      · cases h; exact tl n1 n2 (fun _ _ _ _ => im_rdn _ _ _ _ (by decide))
      · split at h
        · cases h
        · split at h
          · cases h
          · cases h; exact tl n1 n2 (fun _ _ _ _ => im_rdn _ _ _ _ (by decide))
    rw [if_neg s4] at h
    by_cases s5 : x.1 = 98
    · rw [if_pos s5] at h
      obtain ⟨_, _, _, hr2⟩ := hk29 x List.mem_cons_self s5
      have below : ∀ y ∈ r, y.1 = 98 → R 6 y.2.1 = 0 := fun y hy hy98 => by
        rcases hc y (List.mem_cons_of_mem _ hy) hy98 with z | ⟨x', r', z, z2, z3⟩
        · exact z
        · cases z
          exact absurd z3.symm (own y hy hy98 (by omega) (by omega))
      split at h
      · cases h; exact fin below
      · split at h
        · cases h
        · split at h
          · cases h
          · cases h
            intro y hy hy98
            rcases List.mem_cons.mp hy with z | z
            · rw [z] at hy98; exact absurd (show (104 : Int) = 98 from hy98) (by decide)
            · rcases List.mem_cons.mp z with z | z
              · exact Or.inr ⟨_, _, rfl, Or.inr rfl, by rw [z]⟩
              · refine Or.inl ?_
                show im_u R _ _ _ 6 y.2.1 = 0
                rw [im_rdn _ _ _ _ (by omega)]
                exact below y z hy98
    rw [if_neg s5] at h
    by_cases s6 : x.1 = 104
    · rw [if_pos s6] at h
      obtain ⟨o1, o2, o3⟩ := hsg (by omega)
      obtain ⟨y0, r0, hr0, hy0, hyo⟩ := w9.1 s6
      have hb0 := hk29 y0 (by rw [hr0]; exact List.mem_cons_of_mem _ List.mem_cons_self) hy0
      split at h
      · cases h
      · split at h
        · cases h
        · cases h
          intro y hy hy98
          dsimp only at hy
          rw [hr0] at hy
          rcases List.mem_cons.mp hy with z | z
          · exact Or.inr ⟨y0, r0, hr0, Or.inl hy0, by rw [z]⟩
          · refine Or.inl ?_
            show im_u (im_u R _ _ _) 6 x.2.1 _ 6 y.2.1 = 0
            have hyr : y ∈ r := by rw [hr0]; exact List.mem_cons_of_mem _ z
            have hne : y.2.1 ≠ x.2.1 := by
              intro q
              have hbb := hk29 y (List.mem_cons_of_mem _ hyr) hy98
              rcases w6 with ⟨q1, _⟩ | ⟨_, q1, q2, q3, q4⟩
              · omega
              · rw [hr0] at q4
                rcases q4 with ⟨u, _⟩ | ⟨_, u1, u2, u3, u4⟩
                · omega
                · have h5 := chn_lt r0 u4 y z (by omega)
                  unfold phi dpt at h5
                  rw [q, hyo, if_neg (by omega)] at h5
                  omega
            rw [im_rdk _ _ _ hne, im_rdn _ _ _ _ (by omega)]
            rcases hc y (List.mem_cons_of_mem _ hyr) hy98 with w | ⟨x', r', w, _, w3⟩
            · exact w
            · cases w; exact absurd w3.symm hne
    rw [if_neg s6] at h
    by_cases s7 : x.1 = 41
    · rw [if_pos s7] at h
      split at h
      · cases h; exact tl s5 s6 (fun _ _ _ _ => rfl)
      · cases h
    rw [if_neg s7] at h
    by_cases s8 : x.1 = 100
    · rw [if_pos s8] at h
      split at h
      · cases h; exact tl s5 s6 (fun _ _ _ _ => im_rdn _ _ _ _ (by decide))
      · cases h
    rw [if_neg s8] at h
    by_cases s9 : x.1 = 91
    · rw [if_pos s9] at h
      split at h
      · cases h; exact tl s5 s6 (fun _ _ _ _ => rfl)
      · cases h
    rw [if_neg s9] at h
    obtain ⟨o1, o2, o3⟩ := hsg s7
    by_cases t1 : ty = 36
    · rw [if_pos t1] at h
      cases h
      refine tl s5 s6 (fun i i0 i1 hi29 => ?_)
      by_cases e49 : x.1 = 49
      · rw [if_pos e49]; exact im_rdn _ _ _ _ (by decide)
      · rw [if_neg e49]
        by_cases e50 : x.1 = 50
        · rw [if_pos e50]; exact im_rdn _ _ _ _ (by decide)
        · rw [if_neg e50]
          have h51 : x.1 = 51 := by have := o3.2.2.2.2.2.2.2.1; omega
          have hkx := o3.2.2.2.2.2.2.1 h51
          exact im_rdk _ _ _ (fun z => by subst z; omega)
    · rw [if_neg t1] at h; cases h

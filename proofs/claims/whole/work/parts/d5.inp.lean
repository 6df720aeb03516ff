/-! INPUTS: what class and reference read in a text of inputs -/
abbrev Ip : Type := Int × (Int → Int) × (Int → Int) × (Int → Int) × (Int → Int) × (Int → Int)
def ipB (I : Ip) (ty : Int) : Ip := (I.1 + 1, im_up I.2.1 I.1 ty, im_up I.2.2.1 I.1 0, im_up I.2.2.2.1 I.1 0, im_up I.2.2.2.2.1 I.1 0, I.2.2.2.2.2)
def ipP (I : Ip) (x w : Int) : Ip := if x = 49 then (I.1, I.2.1, im_up I.2.2.1 (I.1 - 1) w, I.2.2.2.1, I.2.2.2.2.1, I.2.2.2.2.2)
  else if x = 50 then (I.1, I.2.1, I.2.2.1, im_up I.2.2.2.1 (I.1 - 1) w, I.2.2.2.2.1, I.2.2.2.2.2)
  else if x = 51 then (I.1, I.2.1, I.2.2.1, I.2.2.2.1, im_up I.2.2.2.2.1 (I.1 - 1) w, I.2.2.2.2.2)
  else (I.1, I.2.1, I.2.2.1, I.2.2.2.1, I.2.2.2.2.1, im_up I.2.2.2.2.2 (I.1 - 1) w)
def shI (ty : Int) : List Int := if ty = 28 then [49, 50, 51, 110] else if ty = 29 then [49, 50, 110] else []
noncomputable def inp (t : Int → Int) (n : Int) : Nat → Int → List Int → Ip → Sum (Int × Int) Ip
  | 0, _, _, _ => .inl (0, 0)
  | f + 1, a, [], I => if (tk t n a).2.2.1 = 41 then .inr I else if ¬ (28 ≤ (tk t n a).2.2.1 ∧ (tk t n a).2.2.1 ≤ 30) then .inl (ftk (tk t n a).2.2.1, (tk t n a).1) else if I.1 = 40 then .inl (9, (tk t n a).1) else inp t n f (tk t n a).2.1 (shI (tk t n a).2.2.1) (ipB I (tk t n a).2.2.1)
  | f + 1, a, x :: sh, I => if (tk t n a).2.2.1 = (if x = 110 then 34 else 36) then inp t n f (tk t n a).2.1 sh (ipP I x (if x = 110 then (tk t n a).2.2.2.2 else (tk t n a).2.2.2.1)) else .inl (ftk (tk t n a).2.2.1, (tk t n a).1)
/-- the whole text of inputs -/
noncomputable def inpT (t : Int → Int) (n : Int) (I : Ip) : Sum (Int × Int) Ip := inp t n (n.toNat + 2) 0 [] (0, I.2)
noncomputable def nmS (t : Int → Int) (n : Int) : Sum (Int × Int) Int → Sum (Int × Int) Int × Int
  | .inl f => (.inl f, 0)
  | .inr a => if (tk t n a).2.2.1 = 36 then (.inr (tk t n a).2.1, (tk t n a).2.2.2.1) else (.inl (ftk (tk t n a).2.2.1, (tk t n a).1), 0)
noncomputable def nuS (t : Int → Int) (n : Int) : Sum (Int × Int) Int → Sum (Int × Int) Int × Int
  | .inl f => (.inl f, 0)
  | .inr a => if (tk t n a).2.2.1 = 34 then (.inr (tk t n a).2.1, (tk t n a).2.2.2.2) else (.inl (ftk (tk t n a).2.2.1, (tk t n a).1), 0)
theorem ftk_pos (ty : Int) : 0 < ftk ty ∧ ftk ty ≤ 4 := by unfold ftk; (repeat' split) <;> omega
theorem inp_nm {t : Int → Int} {n a x : Int} {sh : List Int} {I : Ip} {f : Nat} (hx : x ≠ 110) (han : a ≤ n) : (∀ z, (nmS t n (.inr a)).1 = .inl z → inp t n (f + 1) a (x :: sh) I = .inl z) ∧ (∀ q, (nmS t n (.inr a)).1 = .inr q → a < q ∧ q ≤ n ∧ inp t n (f + 1) a (x :: sh) I = inp t n f q sh (ipP I x (nmS t n (.inr a)).2)) := by
  have hk := tk_ok (t := t) han
  have e : inp t n (f + 1) a (x :: sh) I = if (tk t n a).2.2.1 = 36 then inp t n f (tk t n a).2.1 sh (ipP I x (tk t n a).2.2.2.1) else .inl (ftk (tk t n a).2.2.1, (tk t n a).1) := by
    rw [inp, if_neg hx, if_neg hx]
  have e2 : nmS t n (.inr a) = if (tk t n a).2.2.1 = 36 then (.inr (tk t n a).2.1, (tk t n a).2.2.2.1) else (.inl (ftk (tk t n a).2.2.1, (tk t n a).1), 0) := rfl
  rw [e, e2]
  by_cases h : (tk t n a).2.2.1 = 36
  · rw [if_pos h, if_pos h]
    have := tkn_q hk (by omega)
    exact ⟨fun z hz => (by cases hz), fun q hq => by cases hq; exact ⟨by omega, by omega, rfl⟩⟩
  · rw [if_neg h, if_neg h]
    exact ⟨fun z hz => (by cases hz; rfl), fun q hq => by cases hq⟩
theorem inp_nu {t : Int → Int} {n a : Int} {sh : List Int} {I : Ip} {f : Nat} (han : a ≤ n) : (∀ z, (nuS t n (.inr a)).1 = .inl z → inp t n (f + 1) a (110 :: sh) I = .inl z) ∧ (∀ q, (nuS t n (.inr a)).1 = .inr q → a < q ∧ q ≤ n ∧ inp t n (f + 1) a (110 :: sh) I = inp t n f q sh (ipP I 110 (nuS t n (.inr a)).2)) := by
  have hk := tk_ok (t := t) han
  have e : inp t n (f + 1) a (110 :: sh) I = if (tk t n a).2.2.1 = 34 then inp t n f (tk t n a).2.1 sh (ipP I 110 (tk t n a).2.2.2.2) else .inl (ftk (tk t n a).2.2.1, (tk t n a).1) := by
    rw [inp, if_pos rfl, if_pos rfl]
  have e2 : nuS t n (.inr a) = if (tk t n a).2.2.1 = 34 then (.inr (tk t n a).2.1, (tk t n a).2.2.2.2) else (.inl (ftk (tk t n a).2.2.1, (tk t n a).1), 0) := rfl
  rw [e, e2]
  by_cases h : (tk t n a).2.2.1 = 34
  · rw [if_pos h, if_pos h]
    have := tkn_q hk (by omega)
    exact ⟨fun z hz => (by cases hz), fun q hq => by cases hq; exact ⟨by omega, by omega, rfl⟩⟩
  · rw [if_neg h, if_neg h]
    exact ⟨fun z hz => (by cases hz; rfl), fun q hq => by cases hq⟩
/-- one input behind its keyword: where it ends or why not, and its parts -/
noncomputable def in1 (t : Int → Int) (n ty q : Int) : Sum (Int × Int) Int × Int × Int × Int × Int :=
  if ty = 28 then ((nuS t n (nmS t n (nmS t n (nmS t n (.inr q)).1).1).1).1, (nmS t n (.inr q)).2, (nmS t n (nmS t n (.inr q)).1).2, (nmS t n (nmS t n (nmS t n (.inr q)).1).1).2, (nuS t n (nmS t n (nmS t n (nmS t n (.inr q)).1).1).1).2)
  else if ty = 29 then ((nuS t n (nmS t n (nmS t n (.inr q)).1).1).1, (nmS t n (.inr q)).2, (nmS t n (nmS t n (.inr q)).1).2, 0, (nuS t n (nmS t n (nmS t n (.inr q)).1).1).2)
  else (.inr q, 0, 0, 0, 0)
def ipF (I : Ip) (ty : Int) (x : Int × Int × Int × Int) : Ip :=
  if ty = 28 then ipP (ipP (ipP (ipP (ipB I ty) 49 x.1) 50 x.2.1) 51 x.2.2.1) 110 x.2.2.2
  else if ty = 29 then ipP (ipP (ipP (ipB I ty) 49 x.1) 50 x.2.1) 110 x.2.2.2 else ipB I ty
theorem inp_in1 {t : Int → Int} {n ty q : Int} {I : Ip} {f : Nat} (hq : q ≤ n) (hf : (n - q).toNat + 2 ≤ f) : (∀ z, (in1 t n ty q).1 = .inl z → inp t n f q (shI ty) (ipB I ty) = .inl z) ∧ (∀ a, (in1 t n ty q).1 = .inr a → q ≤ a ∧ a ≤ n ∧ ∃ f', f' ≤ f ∧ (n - a).toNat + 2 ≤ f' ∧ inp t n f q (shI ty) (ipB I ty) = inp t n f' a [] (ipF I ty (in1 t n ty q).2)) := by
  by_cases h28 : ty = 28
  · have e1 : shI ty = [49, 50, 51, 110] := if_pos h28
    have e2 := show in1 t n ty q = _ from if_pos h28
    have e3 : ∀ x, ipF I ty x = ipP (ipP (ipP (ipP (ipB I ty) 49 x.1) 50 x.2.1) 51 x.2.2.1) 110 x.2.2.2 := fun x => if_pos h28
    rw [e1, e2, e3]
    dsimp only
    obtain ⟨f, rfl⟩ : ∃ g, f = g + 1 := ⟨f - 1, by omega⟩
    obtain ⟨a1, a2⟩ := inp_nm (t := t) (x := 49) (sh := [50, 51, 110]) (I := ipB I ty) (f := f) (by decide) hq
    cases h1 : (nmS t n (.inr q)).1 with
    | inl z => exact ⟨fun w hw => (by cases hw; exact a1 z h1), fun a ha => by cases ha⟩
    | inr q1 =>
      obtain ⟨b1, b2, b3⟩ := a2 q1 h1
      rw [b3]
      obtain ⟨f, rfl⟩ : ∃ g, f = g + 1 := ⟨f - 1, by omega⟩
      obtain ⟨a1, a2⟩ := inp_nm (t := t) (x := 50) (sh := [51, 110]) (I := ipP (ipB I ty) 49 (nmS t n (.inr q)).2) (f := f) (by decide) b2
      cases h2 : (nmS t n (.inr q1)).1 with
      | inl z => exact ⟨fun w hw => (by cases hw; exact a1 z h2), fun a ha => by cases ha⟩
      | inr q2 =>
        obtain ⟨c1, c2, c3⟩ := a2 q2 h2
        rw [c3]
        obtain ⟨f, rfl⟩ : ∃ g, f = g + 1 := ⟨f - 1, by omega⟩
        obtain ⟨a1, a2⟩ := inp_nm (t := t) (x := 51) (sh := [110]) (I := ipP (ipP (ipB I ty) 49 (nmS t n (.inr q)).2) 50 (nmS t n (.inr q1)).2) (f := f) (by decide) c2
        cases h3 : (nmS t n (.inr q2)).1 with
        | inl z => exact ⟨fun w hw => (by cases hw; exact a1 z h3), fun a ha => by cases ha⟩
        | inr q3 =>
          obtain ⟨d1, d2, d3⟩ := a2 q3 h3
          rw [d3]
          obtain ⟨f, rfl⟩ : ∃ g, f = g + 1 := ⟨f - 1, by omega⟩
          obtain ⟨a1, a2⟩ := inp_nu (t := t) (sh := []) (I := ipP (ipP (ipP (ipB I ty) 49 (nmS t n (.inr q)).2) 50 (nmS t n (.inr q1)).2) 51 (nmS t n (.inr q2)).2) (f := f) d2
          refine ⟨fun z hz => a1 z hz, fun a ha => ?_⟩
          obtain ⟨g1, g2, g3⟩ := a2 a ha
          exact ⟨by omega, g2, f, by omega, by omega, g3⟩
  · by_cases h29 : ty = 29
    · have e1 : shI ty = [49, 50, 110] := (if_neg h28).trans (if_pos h29)
      have e2 := show in1 t n ty q = _ from (if_neg h28).trans (if_pos h29)
      have e3 : ∀ x, ipF I ty x = ipP (ipP (ipP (ipB I ty) 49 x.1) 50 x.2.1) 110 x.2.2.2 := fun x => (if_neg h28).trans (if_pos h29)
      rw [e1, e2, e3]
      dsimp only
      obtain ⟨f, rfl⟩ : ∃ g, f = g + 1 := ⟨f - 1, by omega⟩
      obtain ⟨a1, a2⟩ := inp_nm (t := t) (x := 49) (sh := [50, 110]) (I := ipB I ty) (f := f) (by decide) hq
      cases h1 : (nmS t n (.inr q)).1 with
      | inl z => exact ⟨fun w hw => (by cases hw; exact a1 z h1), fun a ha => by cases ha⟩
      | inr q1 =>
        obtain ⟨b1, b2, b3⟩ := a2 q1 h1
        rw [b3]
        obtain ⟨f, rfl⟩ : ∃ g, f = g + 1 := ⟨f - 1, by omega⟩
        obtain ⟨a1, a2⟩ := inp_nm (t := t) (x := 50) (sh := [110]) (I := ipP (ipB I ty) 49 (nmS t n (.inr q)).2) (f := f) (by decide) b2
        cases h2 : (nmS t n (.inr q1)).1 with
        | inl z => exact ⟨fun w hw => (by cases hw; exact a1 z h2), fun a ha => by cases ha⟩
        | inr q2 =>
          obtain ⟨c1, c2, c3⟩ := a2 q2 h2
          rw [c3]
          obtain ⟨f, rfl⟩ : ∃ g, f = g + 1 := ⟨f - 1, by omega⟩
          obtain ⟨a1, a2⟩ := inp_nu (t := t) (sh := []) (I := ipP (ipP (ipB I ty) 49 (nmS t n (.inr q)).2) 50 (nmS t n (.inr q1)).2) (f := f) c2
          refine ⟨fun z hz => a1 z hz, fun a ha => ?_⟩
          obtain ⟨g1, g2, g3⟩ := a2 a ha
          exact ⟨by omega, g2, f, by omega, by omega, g3⟩
    · have e1 : shI ty = [] := (if_neg h28).trans (if_neg h29)
      have e2 := show in1 t n ty q = _ from (if_neg h28).trans (if_neg h29)
      have e3 : ∀ x, ipF I ty x = ipB I ty := fun x => (if_neg h28).trans (if_neg h29)
      rw [e1, e2, e3]
      exact ⟨fun z hz => (by cases hz), fun a ha => by cases ha; exact ⟨Int.le_refl _, hq, f, Nat.le_refl _, hf, rfl⟩⟩
/-- the i-th of inputs -/
def ipI (I : Ip) (i : Int) : Int × Int × Int × Int × Int := (I.2.1 i, I.2.2.1 i, I.2.2.2.1 i, I.2.2.2.2.1 i, I.2.2.2.2.2 i)
theorem ipF_o {I : Ip} {ty i : Int} {x : Int × Int × Int × Int} (h : i ≠ I.1) : ipI (ipF I ty x) i = ipI I i := by
  have h' : i ≠ I.1 + 1 - 1 := by omega
  unfold ipF
  by_cases h28 : ty = 28
  · rw [if_pos h28]
    show (im_up I.2.1 I.1 ty i, im_up (im_up I.2.2.1 I.1 0) (I.1 + 1 - 1) x.1 i, im_up (im_up I.2.2.2.1 I.1 0) (I.1 + 1 - 1) x.2.1 i, im_up (im_up I.2.2.2.2.1 I.1 0) (I.1 + 1 - 1) x.2.2.1 i, im_up I.2.2.2.2.2 (I.1 + 1 - 1) x.2.2.2 i) = _
    rw [im_up_ne _ _ h, im_up_ne _ _ h', im_up_ne _ _ h', im_up_ne _ _ h', im_up_ne _ _ h', im_up_ne _ _ h, im_up_ne _ _ h, im_up_ne _ _ h]
    rfl
  · by_cases h29 : ty = 29
    · rw [if_neg h28, if_pos h29]
      show (im_up I.2.1 I.1 ty i, im_up (im_up I.2.2.1 I.1 0) (I.1 + 1 - 1) x.1 i, im_up (im_up I.2.2.2.1 I.1 0) (I.1 + 1 - 1) x.2.1 i, im_up I.2.2.2.2.1 I.1 0 i, im_up I.2.2.2.2.2 (I.1 + 1 - 1) x.2.2.2 i) = _
      rw [im_up_ne _ _ h, im_up_ne _ _ h', im_up_ne _ _ h', im_up_ne _ _ h', im_up_ne _ _ h, im_up_ne _ _ h, im_up_ne _ _ h]
      rfl
    · rw [if_neg h28, if_neg h29]
      show (im_up I.2.1 I.1 ty i, im_up I.2.2.1 I.1 0 i, im_up I.2.2.2.1 I.1 0 i, im_up I.2.2.2.2.1 I.1 0 i, I.2.2.2.2.2 i) = _
      rw [im_up_ne _ _ h, im_up_ne _ _ h, im_up_ne _ _ h, im_up_ne _ _ h]
      rfl
theorem ipF_n {I : Ip} {ty : Int} {x : Int × Int × Int × Int} : (ipF I ty x).1 = I.1 + 1 := by
  unfold ipF
  by_cases h28 : ty = 28
  · rw [if_pos h28]; rfl
  · by_cases h29 : ty = 29
    · rw [if_neg h28, if_pos h29]; rfl
    · rw [if_neg h28, if_neg h29]; rfl
theorem ipF_s {I : Ip} {ty : Int} {x : Int × Int × Int × Int} : (ipF I ty x).2.1 I.1 = ty ∧ (ty = 28 → ipI (ipF I ty x) I.1 = (ty, x)) ∧ (ty = 29 → ipI (ipF I ty x) I.1 = (ty, x.1, x.2.1, 0, x.2.2.2)) := by
  have h' : I.1 + 1 - 1 = I.1 := by omega
  unfold ipF
  by_cases h28 : ty = 28
  · rw [if_pos h28]
    have e : ipI (ipP (ipP (ipP (ipP (ipB I ty) 49 x.1) 50 x.2.1) 51 x.2.2.1) 110 x.2.2.2) I.1 = (ty, x) := by
      show (im_up I.2.1 I.1 ty I.1, im_up (im_up I.2.2.1 I.1 0) (I.1 + 1 - 1) x.1 I.1, im_up (im_up I.2.2.2.1 I.1 0) (I.1 + 1 - 1) x.2.1 I.1, im_up (im_up I.2.2.2.2.1 I.1 0) (I.1 + 1 - 1) x.2.2.1 I.1, im_up I.2.2.2.2.2 (I.1 + 1 - 1) x.2.2.2 I.1) = _
      rw [h', im_up_eq, im_up_eq, im_up_eq, im_up_eq, im_up_eq]
    exact ⟨congrArg Prod.fst e, fun _ => e, fun z => by omega⟩
  · by_cases h29 : ty = 29
    · rw [if_neg h28, if_pos h29]
      have e : ipI (ipP (ipP (ipP (ipB I ty) 49 x.1) 50 x.2.1) 110 x.2.2.2) I.1 = (ty, x.1, x.2.1, 0, x.2.2.2) := by
        show (im_up I.2.1 I.1 ty I.1, im_up (im_up I.2.2.1 I.1 0) (I.1 + 1 - 1) x.1 I.1, im_up (im_up I.2.2.2.1 I.1 0) (I.1 + 1 - 1) x.2.1 I.1, im_up I.2.2.2.2.1 I.1 0 I.1, im_up I.2.2.2.2.2 (I.1 + 1 - 1) x.2.2.2 I.1) = _
        rw [h', im_up_eq, im_up_eq, im_up_eq, im_up_eq, im_up_eq]
      exact ⟨congrArg Prod.fst e, fun z => by omega, fun _ => e⟩
    · rw [if_neg h28, if_neg h29]
      exact ⟨im_up_eq _ _ _, fun z => absurd z h28, fun z => absurd z h29⟩

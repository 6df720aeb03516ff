/-! THE MACHINE OVER WHOLE NUMBERS (im_): a heap is a shape (a list: tag, length, fixed references) and a memory of whole numbers; locals by place; a judgement im_T that carries what holds behind. -/
abbrev im_M : Type := Nat → Int → Int
abbrev im_Sh : Type := Nat × Nat × List Int
abbrev im_E : Type := List im_Sh
abbrev im_g : Type := (Nat → Int32) × Nat
abbrev im_G (g : im_g) : am_G := am_P (am_sp g.1 g.2)
abbrev im_L : Type := List (Option Value)
def vI (x : Int) : Value := .int (Int32.ofInt x)
def vL (x : Int) : Value := .long (Int64.ofInt x)
def im_rv (x : Int) : Value := if x < 0 then .null else .ref x.toNat
def im_fr (rs : List Int) (f : Int → Int) (k : Nat) : Int := match rs[k]? with
  | some b => if 0 ≤ b then b else f k
  | none => f k
def im_ft (ty : FieldType) (rs : List Int) (f : Int → Int) (k : Nat) : Value := match ty with
  | .long => vL (f k)
  | .int => vI (f k)
  | .boolean => vI (f k)
  | _ => im_rv (im_fr rs f k)
def im_fv (ci : Nat) (rs : List Int) (f : Int → Int) (k : Nat) : Value := im_ft (am_tyF ci k) rs f k
/-- a cell of a shape with its contents -/
def im_c (s : im_Sh) (f : Int → Int) : va_E := match s.1 with
  | 0 => .inl (0, s.2.1, .inl (fun j => Int32.ofInt (f j)))
  | 1 => .inl (1, s.2.1, .inl (fun j => Int32.ofInt (f j)))
  | 2 => .inl (2, s.2.1, .inr (.inl (fun j => Int64.ofInt (f j))))
  | 3 => .inl (3, s.2.1, .inl (fun j => Int32.ofInt (f j)))
  | 4 => .inl (4, s.2.1, .inr (.inr (.inr (.inr (fun j => if f j < 0 then none else some (f j).toNat)))))
  | 5 => .inl (5, s.2.1, .inr (.inr (.inr (.inr (fun j => if f j < 0 then none else some (f j).toNat)))))
  | c + 10 => .inr (c, (List.range s.2.1).map (im_fv c s.2.2 f))
  | _ => .inr (99, [.null, .null, .null, .null, .null, .null])
abbrev im_i32 (x : Int) : Prop := -2147483648 ≤ x ∧ x ≤ 2147483647
abbrev im_i64 (x : Int) : Prop := -9223372036854775808 ≤ x ∧ x ≤ 9223372036854775807
def im_rt (ty : FieldType) (x : Int) : Prop := match ty with
  | .long => im_i64 x
  | .int => im_i32 x
  | .boolean => 0 ≤ x ∧ x ≤ 1
  | _ => True
def im_rg (s : im_Sh) (j x : Int) : Prop := match s.1 with
  | 0 => -128 ≤ x ∧ x ≤ 127
  | 1 => im_i32 x
  | 2 => im_i64 x
  | 3 => 0 ≤ x ∧ x ≤ 1
  | c + 10 => im_rt (am_tyF c j.toNat) x
  | _ => True
def im_W (sh : im_E) (M : im_M) (h : am_H) : Prop := h.length = sh.length ∧ ∀ a s, sh[a]? = some s → h[a]? = some (im_c s (M a)) ∧ ∀ j : Int, 0 ≤ j → j < s.2.1 → im_rg s j (M a j)
def im_up (f : Int → Int) (j v : Int) : Int → Int := fun i => if i = j then v else f i
def im_u (M : im_M) (a : Nat) (j v : Int) : im_M := fun b => if b = a then im_up (M a) j v else M b
theorem im_u_eq (M : im_M) (a : Nat) (j v : Int) : im_u M a j v a = im_up (M a) j v := by unfold im_u; rw [if_pos rfl]
theorem im_u_ne (M : im_M) {a b : Nat} (j v : Int) (h : b ≠ a) : im_u M a j v b = M b := by unfold im_u; rw [if_neg h]
theorem im_up_eq (f : Int → Int) (j v : Int) : im_up f j v j = v := by unfold im_up; rw [if_pos rfl]
theorem im_up_ne (f : Int → Int) {i j : Int} (v : Int) (h : i ≠ j) : im_up f j v i = f i := by unfold im_up; rw [if_neg h]
theorem im_W.set {sh : im_E} {M : im_M} {h : am_H} (hw : im_W sh M h) {a : Nat} {s : im_Sh} (hs : sh[a]? = some s) {j v : Int} (hr : im_rg s j v) : im_W sh (im_u M a j v) (h.set a (im_c s (im_up (M a) j v))) := by
  refine ⟨by rw [List.length_set]; exact hw.1, fun b t hb => ?_⟩
  by_cases e : b = a
  · subst e
    have e2 : t = s := by rw [hs] at hb; cases hb; rfl
    subst e2
    rw [im_u_eq]
    have hl : b < h.length := by rw [hw.1]; exact (List.getElem?_eq_some_iff.mp hs).1
    refine ⟨List.getElem?_set_self hl, fun i h0 h1 => ?_⟩
    by_cases e3 : i = j
    · subst e3; rw [im_up_eq]; exact hr
    · rw [im_up_ne _ _ e3]; exact (hw.2 b t hs).2 i h0 h1
  · rw [im_u_ne M j v e, List.getElem?_set_ne (fun z => e z.symm)]
    exact hw.2 b t hb
theorem im_W.push {sh : im_E} {M M' : im_M} {h : am_H} (hw : im_W sh M h) {s : im_Sh} (hm : ∀ a, a < sh.length → M' a = M a) (hr : ∀ j : Int, 0 ≤ j → j < s.2.1 → im_rg s j (M' sh.length j)) : im_W (sh ++ [s]) M' (h ++ [im_c s (M' sh.length)]) := by
  refine ⟨by rw [List.length_append, List.length_append, hw.1]; rfl, fun a t ha => ?_⟩
  by_cases hl : a < sh.length
  · rw [List.getElem?_append_left hl] at ha
    rw [List.getElem?_append_left (by rw [hw.1]; exact hl), hm a hl]
    exact hw.2 a t ha
  · rw [List.getElem?_append_right (by omega)] at ha
    have h1 : a - sh.length < 1 := (List.getElem?_eq_some_iff.mp ha).1
    have h2 : a = sh.length := by omega
    subst h2
    simp only [Nat.sub_self] at ha
    cases ha
    refine ⟨?_, hr⟩
    rw [← hw.1, List.getElem?_append_right (Nat.le_refl _), Nat.sub_self]
    rfl
/-- locals by place -/
def im_lv (L : im_L) (lv : am_L) : Prop := ∀ i v, L[i]? = some (some v) → am_ld lv i = some v
def im_cl (L : im_L) (i : Nat) : im_L := match i with
  | 0 => L
  | k + 1 => match L[k]? with
    | some (some v) => if v.category = 2 then L.set k none else L
    | _ => L
def im_s1 (L : im_L) (i : Nat) (v : Value) : im_L := (im_cl L i).set i (some v)
def im_s2 (L : im_L) (i : Nat) (v : Value) : im_L := ((im_cl L i).set (i + 1) none).set i (some v)
theorem im_cl_get {L : im_L} {i j : Nat} {w : Value} (h : (im_cl L i)[j]? = some (some w)) : L[j]? = some (some w) ∧ ¬ (j + 1 = i ∧ w.category = 2) := by
  unfold im_cl at h
  cases i with
  | zero => exact ⟨h, fun z => by omega⟩
  | succ k =>
    simp only at h
    split at h
    · rename_i v hv
      split at h
      · rename_i hc
        by_cases e : k = j
        · subst e
          rw [List.getElem?_set_self (List.getElem?_eq_some_iff.mp hv).1] at h
          cases h
        · rw [List.getElem?_set_ne e] at h
          exact ⟨h, fun z => e (by omega)⟩
      · rename_i hc
        refine ⟨h, fun z => ?_⟩
        have e : j = k := by omega
        subst e
        rw [hv] at h
        cases h
        exact hc z.2
    · rename_i hn
      refine ⟨h, fun z => ?_⟩
      have e : j = k := by omega
      subst e
      exact hn w h
theorem im_find {lv : am_L} {p : Nat × Value → Bool} {j : Nat} {w : Value} (h : am_ld lv j = some w) (hp : p (j, w) = true) : am_ld (lv.filter p) j = some w := by
  unfold am_ld at h ⊢
  induction lv with
  | nil => cases h
  | cons q r ih =>
    rw [List.find?_cons] at h
    by_cases e : (q.1 == j) = true
    · rw [e] at h
      simp only [Option.map_some, Option.some.injEq] at h
      have e1 : q = (j, w) := by
        obtain ⟨a, b⟩ := q
        have : a = j := by simpa using e
        subst this; subst h; rfl
      rw [List.filter_cons, e1, hp]
      simp [List.find?_cons]
    · rw [show (q.1 == j) = false from by simpa using e] at h
      rw [List.filter_cons]
      split
      · rw [List.find?_cons, show (q.1 == j) = false from by simpa using e]
        exact ih h
      · exact ih h
theorem im_lv.s1 {L : im_L} {lv : am_L} (h : im_lv L lv) (i : Nat) (v : Value) : im_lv (im_s1 L i v) (am_s1 lv i v) := by
  intro j w hj
  unfold im_s1 at hj
  by_cases e : i = j
  · subst e
    rw [List.getElem?_set] at hj
    simp only [if_true] at hj
    split at hj
    · cases hj
      unfold am_ld am_s1
      rw [List.find?_cons]
      simp
    · cases hj
  · rw [List.getElem?_set_ne e] at hj
    obtain ⟨h1, h2⟩ := im_cl_get hj
    have h3 := h j w h1
    unfold am_s1
    have h4 := im_find (p := fun q => !(q.1 == i) && !(q.1 + 1 == i && q.2.category == 2)) h3 (by
      have e1 : (j == i) = false := by simp; exact fun z => e z.symm
      simp only [e1, Bool.not_false, Bool.true_and, Bool.not_eq_true']
      rw [Bool.and_eq_false_iff]
      by_cases e2 : j + 1 = i
      · right
        simp only [beq_eq_false_iff_ne]
        exact fun z => h2 ⟨e2, z⟩
      · left
        simp only [beq_eq_false_iff_ne]
        exact e2)
    unfold am_ld at h4 ⊢
    rw [List.find?_cons, show ((i, v).1 == j) = false from by simp; exact e]
    exact h4
theorem im_lv.s2 {L : im_L} {lv : am_L} (h : im_lv L lv) (i : Nat) (v : Value) : im_lv (im_s2 L i v) (am_s2 lv i v) := by
  intro j w hj
  unfold im_s2 at hj
  by_cases e : i = j
  · subst e
    rw [List.getElem?_set] at hj
    simp only [if_true] at hj
    split at hj
    · cases hj
      unfold am_ld am_s2
      rw [List.find?_cons]
      simp
    · cases hj
  · rw [List.getElem?_set_ne e] at hj
    by_cases e5 : i + 1 = j
    · subst e5
      rw [List.getElem?_set] at hj
      simp only [if_true] at hj
      split at hj <;> cases hj
    · rw [List.getElem?_set_ne e5] at hj
      obtain ⟨h1, h2⟩ := im_cl_get hj
      have h3 := h j w h1
      unfold am_s2
      have h4 := im_find (p := fun q => !(q.1 == i) && (!(q.1 == i + 1) && !(q.1 + 1 == i && q.2.category == 2))) h3 (by
        have e1 : (j == i) = false := by simp; exact fun z => e z.symm
        have e6 : (j == i + 1) = false := by simp; exact fun z => e5 z.symm
        simp only [e1, e6, Bool.not_false, Bool.true_and, Bool.not_eq_true']
        rw [Bool.and_eq_false_iff]
        by_cases e2 : j + 1 = i
        · right
          simp only [beq_eq_false_iff_ne]
          exact fun z => h2 ⟨e2, z⟩
        · left
          simp only [beq_eq_false_iff_ne]
          exact e2)
      unfold am_ld at h4 ⊢
      rw [List.find?_cons, show ((i, v).1 == j) = false from by simp; exact e]
      exact h4
/-- fewer locals known -/
def im_wk : im_L → im_L → Prop
  | [], _ => True
  | none :: r, L => im_wk r L.tail
  | some v :: r, L => L.head? = some (some v) ∧ im_wk r L.tail
theorem im_wk_get : ∀ {L' L : im_L}, im_wk L' L → ∀ (i : Nat) (v : Value), L'[i]? = some (some v) → L[i]? = some (some v) := by
  intro L'
  induction L' with
  | nil => intro L _ i v h; cases h
  | cons o r ih =>
    intro L hw i v h
    cases L with
    | nil =>
      cases o with
      | none =>
        cases i with
        | zero => cases h
        | succ i => exact absurd (ih (L := []) hw i v h) (by simp)
      | some x => cases hw.1
    | cons p t =>
      cases o with
      | none =>
        cases i with
        | zero => cases h
        | succ i => exact ih (L := t) hw i v h
      | some x =>
        cases i with
        | zero =>
          have h1 : some p = some (some x) := hw.1
          cases h1
          exact h
        | succ i => exact ih (L := t) hw.2 i v h
theorem im_lv.wk {L' L : im_L} {lv : am_L} (h : im_lv L lv) (hw : im_wk L' L) : im_lv L' lv := fun i v hi => h i v (im_wk_get hw i v hi)

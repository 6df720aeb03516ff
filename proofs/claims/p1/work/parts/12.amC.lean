/-! Group B: the heap. A heap of the abstract machine is a list of cells by number; .inr (99, _) is a cell of which nothing is said. -/
abbrev am_H : Type := List va_E
def am_re (cy : Nat → ClassId) (b : Nat) (sa : Nat → Option Nat) : va_E → va_E
  | .inl (t, n, .inr (.inr (.inr (.inr f)))) => .inl (cy t, n, .inr (.inr (.inr (.inr (fun k => (f k).map (fun i => b + i))))))
  | .inl (t, a) => .inl (cy t, a)
  | .inr (ci, fs) => .inr (ci, fs.map (am_r b sa))
def am_op : va_E → Bool
  | .inr (ci, _) => decide (ci = 99)
  | _ => false
def am_sz : va_E → Nat
  | .inl (_, n, _) => n
  | .inr (_, fs) => fs.length
def am_sl (h : am_H) : Nat := (h.map am_sz).sum
/-- the world: the heap's cells from b on are those of h -/
def am_W (D : va_G) (cl : List vw_C) (cy : Nat → ClassId) (b : Nat) (sa : Nat → Option Nat) (h : am_H) (H : Heap) : Prop :=
  H.size = b + h.length ∧ ∀ (i : Nat) (e : va_E), h[i]? = some e → am_op e = false → va_at D cl (b + i, am_re cy b sa e) H
/-- the classes of arrays, by their tags -/
def am_tys (cy : Nat → ClassId) : List (ClassId × FieldType) := [(cy 0, .byte), (cy 1, .int), (cy 2, .long), (cy 3, .boolean), (cy 4, .object "PromisePlatform$Num"), (cy 5, .object "PromisePlatform$State")]
theorem am_sl_set {h : am_H} {i : Nat} {e e' : va_E} (hi : h[i]? = some e) (hz : am_sz e' = am_sz e) : am_sl (h.set i e') = am_sl h := by
  unfold am_sl
  rw [List.map_set, hz]
  congr 1
  apply List.ext_getElem?
  intro j
  rw [List.getElem?_set]
  split
  · rename_i q
    subst q
    rw [List.getElem?_map, hi]
    simp [(List.getElem?_eq_some_iff.mp hi).1]
  · rfl
theorem am_sl_push (h : am_H) (e : va_E) : am_sl (h ++ [e]) = am_sl h + am_sz e := by
  unfold am_sl
  simp
theorem am_W.set {D : va_G} {cl : List vw_C} {cy : Nat → ClassId} {b : Nat} {sa : Nat → Option Nat} {h : am_H} {H H1 : Heap} (hw : am_W D cl cy b sa h H) {i : Nat} {e' : va_E} (he : va_at D cl (b + i, am_re cy b sa e') H1) (z : H1.size = H.size) (oq : ∀ q : Nat, q ≠ b + i → H1[q]? = H[q]?) : am_W D cl cy b sa (h.set i e') H1 := by
  refine ⟨by rw [z, hw.1, List.length_set], fun j e hj ho => ?_⟩
  rw [List.getElem?_set] at hj
  split at hj
  · rename_i q
    subst q
    split at hj
    · cases hj
      exact he
    · cases hj
  · rename_i q
    exact (hw.2 j e hj ho).kept (oq _ (fun z => q (by have z : b + j = b + i := z; omega)))
theorem am_W.push {D : va_G} {cl : List vw_C} {cy : Nat → ClassId} {b : Nat} {sa : Nat → Option Nat} {h : am_H} {H H1 : Heap} (hw : am_W D cl cy b sa h H) {e' : va_E} (he : am_op e' = false → va_at D cl (H.size, am_re cy b sa e') H1) (z : H1.size = H.size + 1) (oq : ∀ q : Nat, q < H.size → H1[q]? = H[q]?) : am_W D cl cy b sa (h ++ [e']) H1 := by
  refine ⟨by rw [z, hw.1, List.length_append]; rfl, fun j e hj ho => ?_⟩
  by_cases hl : j < h.length
  · rw [List.getElem?_append_left hl] at hj
    exact (hw.2 j e hj ho).kept (oq _ (by have := hw.1; show b + j < H.size; omega))
  · rw [List.getElem?_append_right (by omega)] at hj
    have hz : j - h.length < 1 := (List.getElem?_eq_some_iff.mp hj).1
    have hj0 : j = h.length := by omega
    subst hj0
    simp only [Nat.sub_self] at hj
    cases hj
    rw [← hw.1]
    exact he ho
theorem am_W.one {D : va_G} {cl : List vw_C} {cy : Nat → ClassId} {b : Nat} {sa : Nat → Option Nat} {h : am_H} {H : Heap} (hw : am_W D cl cy b sa h H) {i : Nat} {e : va_E} (hi : h[i]? = some e) (ho : am_op e = false) : va_P D cl [(b + i, am_re cy b sa e)] H := by
  intro k q hk
  cases k with
  | zero => cases hk; exact hw.2 i e hi ho
  | succ k => cases hk
/-- what an instruction's links are: a field (class, place, 0 not final, 1 final and its own class's, 2 final), a class to make, a tag of an array of references to make -/
abbrev am_lk : Type := (Nat → Option (Nat × Nat × Nat)) × (Nat → Option Nat) × (Nat → Option Nat)
/-- a class's types of fields, and what a new object has -/
abbrev am_ci : Type := (Nat → Nat → FieldType) × (Nat → List Value)
abbrev am_B : Type := Option (Nat × List Value × am_H)
def am_tag : ArrayType → Option Nat
  | .byte => some 0
  | .int => some 1
  | .long => some 2
  | .boolean => some 3
  | _ => none
/-- which class an array of references holds -/
def am_cmp : Nat → Nat → Bool
  | 4, ci => decide (ci = 3)
  | 5, ci => decide (ci = 9)
  | _, _ => false
def am_v (r : Option Nat) : Value := match r with
  | some i => .ref i
  | none => .null
def am_nf : Value → Bool
  | .float _ => false
  | _ => true
/-- an instruction of the heap: where it goes, the stack, the heap -/
def am_b (X : am_ci) (K : am_lk) (ini : Bool) (ins : Instr) (pc : Nat) (st : List Value) (h : am_H) : am_B := match ins with
  | .getfield ix => match st with
    | .ref i :: r => (match K.1 ix, h[i]? with
      | some (ci, k, _), some (.inr (cj, fs)) => if ci = cj ∧ ¬ cj = 99 then (match fs[k]? with
        | some v => some (pc + 3, v :: r, h)
        | none => none) else none
      | _, _ => none)
    | _ => none
  | .putfield ix => match st with
    | v :: .ref i :: r => (match K.1 ix, h[i]? with
      | some (ci, k, md), some (.inr (cj, fs)) => if ci = cj ∧ ¬ cj = 99 ∧ k < fs.length ∧ (md = 0 ∨ (md = 1 ∧ ini = true)) ∧ narrow (X.1 ci k) v = v ∧ fits (X.1 ci k) v = true ∧ am_nf v = true then some (pc + 3, r, h.set i (.inr (cj, fs.set k v))) else none
      | _, _ => none)
    | _ => none
  | .iaload => match st with
    | .int j :: .ref i :: r => (match h[i]? with
      | some (.inl (1, n, .inl f)) => if j < 0 ∨ n ≤ j.toNatClampNeg then none else some (pc + 1, .int (f j.toNatClampNeg) :: r, h)
      | _ => none)
    | _ => none
  | .baload => match st with
    | .int j :: .ref i :: r => (match h[i]? with
      | some (.inl (0, n, .inl f)) => if j < 0 ∨ n ≤ j.toNatClampNeg then none else some (pc + 1, .int (f j.toNatClampNeg) :: r, h)
      | some (.inl (3, n, .inl f)) => if j < 0 ∨ n ≤ j.toNatClampNeg then none else some (pc + 1, .int (f j.toNatClampNeg) :: r, h)
      | _ => none)
    | _ => none
  | .laload => match st with
    | .int j :: .ref i :: r => (match h[i]? with
      | some (.inl (2, n, .inr (.inl f))) => if j < 0 ∨ n ≤ j.toNatClampNeg then none else some (pc + 1, .long (f j.toNatClampNeg) :: r, h)
      | _ => none)
    | _ => none
  | .aaload => match st with
    | .int j :: .ref i :: r => (match h[i]? with
      | some (.inl (t, n, .inr (.inr (.inr (.inr f))))) => if (t = 4 ∨ t = 5) ∧ ¬ (j < 0 ∨ n ≤ j.toNatClampNeg) then some (pc + 1, am_v (f j.toNatClampNeg) :: r, h) else none
      | _ => none)
    | _ => none
  | .iastore => match st with
    | .int x :: .int j :: .ref i :: r => (match h[i]? with
      | some (.inl (1, n, .inl f)) => if j < 0 ∨ n ≤ j.toNatClampNeg then none else some (pc + 1, r, h.set i (.inl (1, n, .inl (upd f j.toNatClampNeg x))))
      | _ => none)
    | _ => none
  | .bastore => match st with
    | .int x :: .int j :: .ref i :: r => (match h[i]? with
      | some (.inl (0, n, .inl f)) => if j < 0 ∨ n ≤ j.toNatClampNeg then none else some (pc + 1, r, h.set i (.inl (0, n, .inl (upd f j.toNatClampNeg (vp_nar .byte x)))))
      | some (.inl (3, n, .inl f)) => if j < 0 ∨ n ≤ j.toNatClampNeg then none else some (pc + 1, r, h.set i (.inl (3, n, .inl (upd f j.toNatClampNeg (vp_nar .boolean x)))))
      | _ => none)
    | _ => none
  | .lastore => match st with
    | .long x :: .int j :: .ref i :: r => (match h[i]? with
      | some (.inl (2, n, .inr (.inl f))) => if j < 0 ∨ n ≤ j.toNatClampNeg then none else some (pc + 1, r, h.set i (.inl (2, n, .inr (.inl (vp_updL f j.toNatClampNeg x)))))
      | _ => none)
    | _ => none
  | .aastore => match st with
    | .ref v :: .int j :: .ref i :: r => (match h[i]?, h[v]? with
      | some (.inl (t, n, .inr (.inr (.inr (.inr f))))), some (.inr (ci, _)) => if am_cmp t ci = true ∧ ¬ (j < 0 ∨ n ≤ j.toNatClampNeg) then some (pc + 1, r, h.set i (.inl (t, n, .inr (.inr (.inr (.inr (va_up f j.toNatClampNeg (some v)))))))) else none
      | _, _ => none)
    | _ => none
  | .arraylength => match st with
    | .ref i :: r => (match h[i]? with
      | some (.inl (t, n, _)) => if t < 6 then some (pc + 1, .int (Int32.ofNat n) :: r, h) else none
      | _ => none)
    | _ => none
  | .newarray ty => match st with
    | .int n :: r => (match am_tag ty with
      | some t => if n < 0 ∨ ¬ n.toNatClampNeg * componentBytes (newarray.typeOf ty) ≤ 536870912 then none else some (pc + 2, .ref h.length :: r, h ++ [.inl (t, n.toNatClampNeg, if t = 2 then .inr (.inl (fun _ => 0)) else .inl (fun _ => 0))])
      | none => none)
    | _ => none
  | .anewarray ix => match st with
    | .int n :: r => (match K.2.2 ix with
      | some t => if (t = 4 ∨ t = 5) ∧ ¬ n < 0 ∧ n.toNatClampNeg * 4 ≤ 536870912 then some (pc + 3, .ref h.length :: r, h ++ [.inl (t, n.toNatClampNeg, .inr (.inr (.inr (.inr (fun _ => none)))))]) else none
      | none => none)
    | _ => none
  | .new ix => match K.2.1 ix with
    | some ci => if ci = 99 then none else some (pc + 3, .ref h.length :: st, h ++ [.inr (ci, X.2 ci)])
    | none => none
  | _ => none

/-! Group C: the interpreter whole: specials, throws, calls, returns. -/
abbrev am_Out : Type := Option Value ⊕ String
/-- a program: instructions, constants, links, locals, constructors, classes, calls (kind, callee, arguments, receiver's class), throws, answers' types, handlers that answer a number, specials, whether a method has handlers -/
abbrev am_G : Type := (Nat → Nat → Option (Instr × Nat)) × (Nat → am_K) × (Nat → am_lk) × (Nat → Nat) × (Nat → Bool) × am_ci × (Nat → Nat → Option (Nat × Nat × Nat × Nat)) × (Nat → Nat → Option String) × (Nat → Option FieldType) × (Nat → Nat → String → Option Int32) × (Nat → Nat → List Value → Option (Nat × List Value)) × (Nat → Bool)
abbrev am_dec (G : am_G) := G.1
abbrev am_kk (G : am_G) := G.2.1
abbrev am_lkk (G : am_G) := G.2.2.1
abbrev am_mxl (G : am_G) := G.2.2.2.1
abbrev am_ini (G : am_G) := G.2.2.2.2.1
abbrev am_X (G : am_G) := G.2.2.2.2.2.1
abbrev am_cal (G : am_G) := G.2.2.2.2.2.2.1
abbrev am_thr (G : am_G) := G.2.2.2.2.2.2.2.1
abbrev am_rty (G : am_G) := G.2.2.2.2.2.2.2.2.1
abbrev am_hnd (G : am_G) := G.2.2.2.2.2.2.2.2.2.1
abbrev am_spc (G : am_G) := G.2.2.2.2.2.2.2.2.2.2.1
abbrev am_tab (G : am_G) := G.2.2.2.2.2.2.2.2.2.2.2
def am_cat (st : List Value) : Nat := (st.map fun v => v.category).sum
theorem am_cat_r (b : Nat) (sa : Nat → Option Nat) (st : List Value) : ((st.map (am_r b sa)).map fun v => v.category).sum = am_cat st := by
  unfold am_cat
  rw [List.map_map]
  congr 2
  funext v
  exact am_r_cat b sa v
/-- a return: what is answered -/
def am_rt (rty : Option FieldType) (ins : Instr) (st : List Value) : Option (Option Value) := match ins with
  | .ireturn => match st, rty with
    | [.int v], some ty => if narrow ty (.int v) = .int v then some (some (.int v)) else none
    | _, _ => none
  | .lreturn => match st, rty with
    | [.long v], some .long => some (some (.long v))
    | _, _ => none
  | .areturn => match st, rty with
    | [.ref i], some (.object _) => some (some (.ref i))
    | [.ref i], some (.array _) => some (some (.ref i))
    | [.float i], some (.object _) => some (some (.float i))
    | _, _ => none
  | .return_ => match st, rty with
    | [], none => some none
    | _, _ => none
  | _ => none
/-- a call: its kind, the callee, its arguments (the receiver first), the stack behind it. Kinds: 0 static, 6 static of a nest mate; 1 virtual, 7 of a nest mate, 9 of a constant text; 2 a constructor, 8 of a nest mate, 3 Object's -/
def am_inv (G : am_G) (M : Nat) (ins : Instr) (st : List Value) (h : am_H) : Option (Nat × Nat × Nat × List Value × List Value) := match ins with
  | .invokestatic ix => match am_cal G M ix with
    | some (k, y, n, _) => if (k = 0 ∨ k = 6) ∧ n ≤ st.length ∧ am_cat (st.drop n) ≤ 8 then some (k, y, ix, (st.take n).reverse, st.drop n) else none
    | none => none
  | .invokevirtual ix => match am_cal G M ix with
    | some (k, y, n, ci) => (match st.drop n with
      | .ref i :: r => (match h[i]? with
        | some (.inr (cj, _)) => if (k = 1 ∨ k = 7) ∧ ci = cj ∧ ¬ cj = 99 ∧ am_cat r ≤ 8 then some (k, y, ix, .ref i :: (st.take n).reverse, r) else none
        | _ => none)
      | .float u :: r => if k = 9 ∧ u.toNat < 30 ∧ am_cat r ≤ 8 then some (k, y, ix, .float u :: (st.take n).reverse, r) else none
      | _ => none)
    | none => none
  | .invokespecial ix => match am_cal G M ix with
    | some (k, y, n, _) => (match st.drop n with
      | .ref i :: r => if (k = 2 ∨ k = 8 ∨ (k = 3 ∧ n = 0)) ∧ am_cat r ≤ 8 then some (k, y, ix, .ref i :: (st.take n).reverse, r) else none
      | _ => none)
    | none => none
  | _ => none
/-- THE INTERPRETER: fuel, depth, method, place, locals, stack, heap -/
def am_run (G : am_G) : Nat → Nat → Nat → Nat → am_L → List Value → am_H → Option (am_Out × am_H)
  | 0, _, _, _, _, _, _ => none
  | f + 1, d, M, pc, lv, st, h => match am_spc G M pc st with
    | some (pc', st') => am_run G f d M pc' lv st' h
    | none => match am_thr G M pc with
      | some E => if am_cat st ≤ 8 ∧ am_tab G M = false then some (.inr E, h ++ [.inr (99, [.null, .null, .null, .null, .null, .null])]) else none
      | none => match am_dec G M pc with
        | none => none
        | some (ins, _) => match am_a (am_kk G M) (am_mxl G M) ins pc lv st with
          | some (pc', lv', st') => am_run G f d M pc' lv' st' h
          | none => match am_b (am_X G) (am_lkk G M) (am_ini G M) ins pc st h with
            | some (pc', st', h') => am_run G f d M pc' lv st' h'
            | none => match am_rt (am_rty G M) ins st with
              | some v => some (.inl v, h)
              | none => match am_inv G M ins st h with
                | none => none
                | some (k, y, _, vs, r) => if k = 3 then am_run G f d M (pc + 3) lv r h else if (lg_sl vs).length ≤ am_mxl G y then (match d with
                  | 0 => none
                  | d' + 1 => match am_run G f d' y 0 (lv_args 0 vs) [] h with
                    | none => none
                    | some (.inl v, h1) => am_run G f (d' + 1) M (pc + 3) lv (v.toList ++ r) h1
                    | some (.inr E, h1) => if k = 2 ∨ k = 6 ∨ k = 7 ∨ k = 8 then none else match am_hnd G M pc E with
                      | some c => some (.inl (some (.int c)), h1)
                      | none => if am_tab G M = false then some (.inr E, h1) else none) else none
/-! the heap only grows -/
def am_le (h h' : am_H) : Prop := h.length ≤ h'.length ∧ am_sl h ≤ am_sl h'
theorem am_le.rf (h : am_H) : am_le h h := ⟨Nat.le_refl _, Nat.le_refl _⟩
theorem am_le.tr {h h' h'' : am_H} (a : am_le h h') (b : am_le h' h'') : am_le h h'' := ⟨Nat.le_trans a.1 b.1, Nat.le_trans a.2 b.2⟩
theorem am_le.push (h : am_H) (e : va_E) : am_le h (h ++ [e]) := ⟨by rw [List.length_append]; omega, by rw [am_sl_push]; omega⟩
theorem am_le.set {h : am_H} {i : Nat} {e e' : va_E} (hi : h[i]? = some e) (hz : am_sz e' = am_sz e) : am_le h (h.set i e') := ⟨by rw [List.length_set]; exact Nat.le_refl _, by rw [am_sl_set hi hz]; exact Nat.le_refl _⟩
set_option maxHeartbeats 4000000 in
theorem am_b_le {X : am_ci} {K : am_lk} {ini : Bool} {ins : Instr} {pc pc' : Nat} {st st' : List Value} {h h' : am_H} (hs : am_b X K ini ins pc st h = some (pc', st', h')) : am_le h h' := by
  cases ins <;> simp only [am_b] at hs
  all_goals first | (cases hs; done) | skip
  all_goals (repeat' (split at hs))
  all_goals first | (cases hs; done) | skip
  all_goals cases hs
  all_goals first | exact am_le.rf _ | exact am_le.push _ _ | exact am_le.set (by assumption) (by simp [am_sz]) | skip
theorem am_run_le (G : am_G) : ∀ (f d M pc : Nat) (lv : am_L) (st : List Value) (h : am_H) (o : am_Out) (h' : am_H), am_run G f d M pc lv st h = some (o, h') → am_le h h' := by
  intro f
  induction f with
  | zero => intro d M pc lv st h o h' hs; cases hs
  | succ f ih =>
    intro d M pc lv st h o h' hs
    rw [am_run] at hs
    split at hs
    · exact ih _ _ _ _ _ _ _ _ hs
    · split at hs
      · split at hs
        · cases hs; exact am_le.push _ _
        · cases hs
      · split at hs
        · cases hs
        · split at hs
          · exact ih _ _ _ _ _ _ _ _ hs
          · split at hs
            · rename_i hb
              exact (am_b_le hb).tr (ih _ _ _ _ _ _ _ _ hs)
            · split at hs
              · cases hs; exact am_le.rf _
              · split at hs
                · cases hs
                · split at hs
                  · exact ih _ _ _ _ _ _ _ _ hs
                  · split at hs
                    · split at hs
                      · cases hs
                      · split at hs
                        · cases hs
                        · rename_i hc
                          exact (ih _ _ _ _ _ _ _ _ hc).tr (ih _ _ _ _ _ _ _ _ hs)
                        · rename_i hc
                          split at hs
                          · cases hs
                          · split at hs
                            · cases hs; exact ih _ _ _ _ _ _ _ _ hc
                            · split at hs
                              · cases hs; exact ih _ _ _ _ _ _ _ _ hc
                              · cases hs
                    · cases hs

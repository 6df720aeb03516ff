/-! WHAT HOLDS BEHIND: am_T G d M pc lv st h k: it comes to an end, and k holds there. Calls are walked in place; k carries what is left to do. -/
def am_T (G : am_G) (d M pc : Nat) (lv : am_L) (st : List Value) (h : am_H) (k : am_Out → am_H → Prop) : Prop := ∃ o h', am_R G d M pc lv st h o h' ∧ k o h'
/-- what becomes of an exception of a callee -/
def am_thx (G : am_G) (kd M pc : Nat) (E : String) : Option am_Out := if kd = 0 ∨ kd = 1 then (match am_hnd G M pc E with
  | some c => some (.inl (some (.int c)))
  | none => if am_tab G M = false then some (.inr E) else none) else none
/-- behind a call -/
def am_bk (G : am_G) (d M pc kd : Nat) (lv : am_L) (r : List Value) (k : am_Out → am_H → Prop) (o : am_Out) (h1 : am_H) : Prop := match o with
  | .inl v => am_T G (d + 1) M (pc + 3) lv (v.toList ++ r) h1 k
  | .inr E => ∃ o', am_thx G kd M pc E = some o' ∧ k o' h1
section AMT
variable {G : am_G} {d M pc : Nat} {lv : am_L} {st : List Value} {h : am_H} {k : am_Out → am_H → Prop}
theorem am_T.of {o : am_Out} {h' : am_H} (hr : am_R G d M pc lv st h o h') (hk : k o h') : am_T G d M pc lv st h k := ⟨o, h', hr, hk⟩
theorem am_T.mono {k1 : am_Out → am_H → Prop} (ht : am_T G d M pc lv st h k1) (hk : ∀ o h', k1 o h' → k o h') : am_T G d M pc lv st h k := by
  obtain ⟨o, h', a, b⟩ := ht
  exact ⟨o, h', a, hk _ _ b⟩
theorem am_T.one {pc' : Nat} {lv' : am_L} {st' : List Value} {h1 : am_H} (hs : am_one G M pc lv st h = some (pc', lv', st', h1)) (kk : am_T G d M pc' lv' st' h1 k) : am_T G d M pc lv st h k := by
  obtain ⟨o, h', a, b⟩ := kk
  exact ⟨o, h', am_R.one hs a, b⟩
theorem am_T.fin {v : Option Value} (hs : am_fin G M pc lv st h = some v) (kk : k (.inl v) h) : am_T G d M pc lv st h k := ⟨_, _, am_R.fin hs, kk⟩
theorem am_T.obj {y ix : Nat} {vs r : List Value} (hs : am_cll G M pc lv st h = some (3, y, ix, vs, r)) (kk : am_T G d M (pc + 3) lv r h k) : am_T G d M pc lv st h k := by
  obtain ⟨o, h', a, b⟩ := kk
  exact ⟨o, h', am_R.obj hs a, b⟩
theorem am_T.thrw {E : String} (h0 : am_spc G M pc st = none) (hs : am_thr G M pc = some E) (hc : am_cat st ≤ 8) (ht : am_tab G M = false) (kk : k (.inr E) (h ++ [.inr (99, [.null, .null, .null, .null, .null, .null])])) : am_T G d M pc lv st h k := ⟨_, _, am_R.throw h0 hs hc ht, kk⟩
theorem am_T.call {kd y ix : Nat} {vs r : List Value} (hs : am_cll G M pc lv st h = some (kd, y, ix, vs, r)) (hk : ¬ kd = 3) (kk : am_T G d y 0 (lv_args 0 vs) [] h (am_bk G d M pc kd lv r k)) : am_T G (d + 1) M pc lv st h k := by
  obtain ⟨o, h1, a, b⟩ := kk
  cases o with
  | inl v =>
    obtain ⟨o2, h2, a2, b2⟩ := b
    exact ⟨o2, h2, am_R.call hs hk a a2, b2⟩
  | inr E =>
    obtain ⟨o2, hx, b2⟩ := b
    unfold am_thx at hx
    split at hx
    · rename_i hkd
      cases hh : am_hnd G M pc E with
      | some c =>
        simp only [hh] at hx
        cases hx
        exact ⟨_, _, am_R.caught hs hkd a hh, b2⟩
      | none =>
        simp only [hh] at hx
        split at hx
        · rename_i ht
          cases hx
          exact ⟨_, _, am_R.past hs hkd a hh ht, b2⟩
        · cases hx
    · cases hx
theorem am_T.deep {d' : Nat} (hr : am_T G d M pc lv st h k) (hd : d ≤ d') : am_T G d' M pc lv st h k := by
  obtain ⟨o, h', a, b⟩ := hr
  exact ⟨o, h', am_R.deep a hd, b⟩
/-- branches -/
theorem am_T.jt {t e : Nat} {c : Jvm.ClassFile.Cond} {x y : Int32} (hc : am_tst c x y = true) (kk : am_T G d M t lv st h k) : am_T G d M (if am_tst c x y = true then t else e) lv st h k := by
  rw [if_pos hc]; exact kk
theorem am_T.jf {t e : Nat} {c : Jvm.ClassFile.Cond} {x y : Int32} (hc : am_tst c x y = false) (kk : am_T G d M e lv st h k) : am_T G d M (if am_tst c x y = true then t else e) lv st h k := by
  rw [if_neg (by rw [hc]; exact Bool.false_ne_true)]; exact kk
theorem am_T.js {t e : Nat} {c : Jvm.ClassFile.Cond} {x y : Int32} (k1 : am_tst c x y = true → am_T G d M t lv st h k) (k2 : am_tst c x y = false → am_T G d M e lv st h k) : am_T G d M (if am_tst c x y = true then t else e) lv st h k := by
  by_cases hc : am_tst c x y = true
  · exact am_T.jt hc (k1 hc)
  · exact am_T.jf (Bool.not_eq_true _ ▸ hc) (k2 (Bool.not_eq_true _ ▸ hc))
end AMT
/-! AN OVERLAY: cells by literal numbers, above a heap of which nothing else is said. -/
abbrev am_O : Type := List (Nat × va_E)
def am_ov (ov : am_O) (h : am_H) : am_H := ov.foldr (fun p g => g.set p.1 p.2) h
def am_fd (i : Nat) : am_O → Option va_E
  | [] => none
  | (j, c) :: r => bif Nat.beq i j then some c else am_fd i r
def am_get (N : Nat) (ov : am_O) (i : Nat) : Option va_E := bif Nat.blt i N then am_fd i ov else none
theorem am_ov_len (ov : am_O) (h : am_H) : (am_ov ov h).length = h.length := by
  induction ov with
  | nil => rfl
  | cons p r ih => show ((am_ov r h).set p.1 p.2).length = _; rw [List.length_set, ih]
theorem am_ov_get {N : Nat} {ov : am_O} {h : am_H} {i : Nat} {c : va_E} (hN : N ≤ h.length) (hg : am_get N ov i = some c) : (am_ov ov h)[i]? = some c := by
  unfold am_get at hg
  cases hb : Nat.blt i N with
  | false => rw [hb] at hg; cases hg
  | true =>
    rw [hb] at hg
    have hi : i < h.length := Nat.lt_of_lt_of_le (Nat.le_of_ble_eq_true hb) hN
    replace hg : am_fd i ov = some c := hg
    clear hb
    induction ov with
    | nil => cases hg
    | cons p r ih =>
      obtain ⟨j, e⟩ := p
      show ((am_ov r h).set j e)[i]? = _
      unfold am_fd at hg
      cases hq : Nat.beq i j with
      | true =>
        rw [hq] at hg
        have hj : i = j := Nat.eq_of_beq_eq_true hq
        subst hj
        replace hg : some e = some c := hg
        rw [List.getElem?_set_self (by rw [am_ov_len]; exact hi)]
        exact hg
      | false =>
        rw [hq] at hg
        have hj : ¬ j = i := fun z => by subst z; rw [Nat.beq_refl] at hq; cases hq
        rw [List.getElem?_set_ne hj]
        exact ih hg
theorem am_ov_set (ov : am_O) (h : am_H) (i : Nat) (c : va_E) : (am_ov ov h).set i c = am_ov ((i, c) :: ov) h := rfl
theorem am_ov_push (ov : am_O) (h : am_H) (e : am_H) (hb : ∀ p ∈ ov, p.1 < h.length) : am_ov ov h ++ e = am_ov ov (h ++ e) := by
  induction ov with
  | nil => rfl
  | cons p r ih =>
    show (am_ov r h).set p.1 p.2 ++ e = (am_ov r (h ++ e)).set p.1 p.2
    rw [← ih (fun q hq => hb q (List.mem_cons_of_mem _ hq)), List.set_append_left _ _ (by rw [am_ov_len]; exact hb p (List.mem_cons_self ..))]
def am_pz (ty : FieldType) (v : Value) : Bool := match ty, v with
  | .int, .int _ => true
  | .long, .long _ => true
  | .object _, .null => true
  | .object _, .ref _ => true
  | .array _, .null => true
  | .array _, .ref _ => true
  | .boolean, .int x => decide (x = 0) || decide (x = 1)
  | _, _ => false
theorem am_pz_ok {ty : FieldType} {v : Value} (h : am_pz ty v = true) : narrow ty v = v ∧ fits ty v = true ∧ am_nf v = true := by
  unfold am_pz at h
  split at h
  all_goals first | exact ⟨rfl, rfl, rfl⟩ | (cases h; done) | skip
  rename_i x
  simp only [Bool.or_eq_true, decide_eq_true_eq] at h
  rcases h with h | h
  · subst h; exact ⟨rfl, rfl, rfl⟩
  · subst h; exact ⟨rfl, rfl, rfl⟩
def am_bO (X : am_ci) (K : am_lk) (ini : Bool) (N : Nat) (ins : Instr) (pc : Nat) (st : List Value) (ov : am_O) : Option (Nat × List Value × am_O) := match ins with
  | .getfield ix => match st with
    | .ref i :: r => (match K.1 ix, am_get N ov i with
      | some (ci, k, _), some (.inr (cj, fs)) => if ci = cj ∧ ¬ cj = 99 then (match fs[k]? with
        | some v => some (pc + 3, v :: r, ov)
        | none => none) else none
      | _, _ => none)
    | _ => none
  | .putfield ix => match st with
    | v :: .ref i :: r => (match K.1 ix, am_get N ov i with
      | some (ci, k, md), some (.inr (cj, fs)) => if ci = cj ∧ ¬ cj = 99 ∧ k < fs.length ∧ (md = 0 ∨ (md = 1 ∧ ini = true)) ∧ am_pz (X.1 ci k) v = true then some (pc + 3, r, (i, .inr (cj, fs.set k v)) :: ov) else none
      | _, _ => none)
    | _ => none
  | .iaload => match st with
    | .int j :: .ref i :: r => (match am_get N ov i with
      | some (.inl (1, n, .inl f)) => if j < 0 ∨ n ≤ j.toNatClampNeg then none else some (pc + 1, .int (f j.toNatClampNeg) :: r, ov)
      | _ => none)
    | _ => none
  | .baload => match st with
    | .int j :: .ref i :: r => (match am_get N ov i with
      | some (.inl (0, n, .inl f)) => if j < 0 ∨ n ≤ j.toNatClampNeg then none else some (pc + 1, .int (f j.toNatClampNeg) :: r, ov)
      | some (.inl (3, n, .inl f)) => if j < 0 ∨ n ≤ j.toNatClampNeg then none else some (pc + 1, .int (f j.toNatClampNeg) :: r, ov)
      | _ => none)
    | _ => none
  | .laload => match st with
    | .int j :: .ref i :: r => (match am_get N ov i with
      | some (.inl (2, n, .inr (.inl f))) => if j < 0 ∨ n ≤ j.toNatClampNeg then none else some (pc + 1, .long (f j.toNatClampNeg) :: r, ov)
      | _ => none)
    | _ => none
  | .aaload => match st with
    | .int j :: .ref i :: r => (match am_get N ov i with
      | some (.inl (t, n, .inr (.inr (.inr (.inr f))))) => if (t = 4 ∨ t = 5) ∧ ¬ (j < 0 ∨ n ≤ j.toNatClampNeg) then some (pc + 1, am_v (f j.toNatClampNeg) :: r, ov) else none
      | _ => none)
    | _ => none
  | .iastore => match st with
    | .int x :: .int j :: .ref i :: r => (match am_get N ov i with
      | some (.inl (1, n, .inl f)) => if j < 0 ∨ n ≤ j.toNatClampNeg then none else some (pc + 1, r, (i, .inl (1, n, .inl (upd f j.toNatClampNeg x))) :: ov)
      | _ => none)
    | _ => none
  | .bastore => match st with
    | .int x :: .int j :: .ref i :: r => (match am_get N ov i with
      | some (.inl (0, n, .inl f)) => if j < 0 ∨ n ≤ j.toNatClampNeg then none else some (pc + 1, r, (i, .inl (0, n, .inl (upd f j.toNatClampNeg (vp_nar .byte x)))) :: ov)
      | some (.inl (3, n, .inl f)) => if j < 0 ∨ n ≤ j.toNatClampNeg then none else some (pc + 1, r, (i, .inl (3, n, .inl (upd f j.toNatClampNeg (vp_nar .boolean x)))) :: ov)
      | _ => none)
    | _ => none
  | .lastore => match st with
    | .long x :: .int j :: .ref i :: r => (match am_get N ov i with
      | some (.inl (2, n, .inr (.inl f))) => if j < 0 ∨ n ≤ j.toNatClampNeg then none else some (pc + 1, r, (i, .inl (2, n, .inr (.inl (vp_updL f j.toNatClampNeg x)))) :: ov)
      | _ => none)
    | _ => none
  | .aastore => match st with
    | .ref v :: .int j :: .ref i :: r => (match am_get N ov i, am_get N ov v with
      | some (.inl (t, n, .inr (.inr (.inr (.inr f))))), some (.inr (ci, _)) => if am_cmp t ci = true ∧ ¬ (j < 0 ∨ n ≤ j.toNatClampNeg) then some (pc + 1, r, (i, .inl (t, n, .inr (.inr (.inr (.inr (va_up f j.toNatClampNeg (some v))))))) :: ov) else none
      | _, _ => none)
    | _ => none
  | .arraylength => match st with
    | .ref i :: r => (match am_get N ov i with
      | some (.inl (t, n, _)) => if t < 6 then some (pc + 1, .int (Int32.ofNat n) :: r, ov) else none
      | _ => none)
    | _ => none
  | _ => none
set_option maxHeartbeats 4000000 in
theorem am_bO_ok {X : am_ci} {K : am_lk} {ini : Bool} {N : Nat} {ins : Instr} {pc pc' : Nat} {st st' : List Value} {ov ov' : am_O} {h : am_H} (hN : N ≤ h.length) (hs : am_bO X K ini N ins pc st ov = some (pc', st', ov')) : am_b X K ini ins pc st (am_ov ov h) = some (pc', st', am_ov ov' h) := by
  cases ins <;> simp only [am_bO] at hs
  all_goals first | (cases hs; done) | skip
  case getfield =>
    split at hs
    · split at hs
      · rename_i hk hg
        split at hs
        · rename_i hc
          split at hs
          · rename_i hv
            cases hs
            simp only [am_b, hk, am_ov_get hN hg]
            rw [if_pos hc]
            simp only [hv]
          · cases hs
        · cases hs
      · cases hs
    · cases hs
  case putfield =>
    split at hs
    · split at hs
      · rename_i hk hg
        split at hs
        · rename_i hc
          cases hs
          obtain ⟨c1, c2, c3, c4, c5⟩ := hc
          simp only [am_b, hk, am_ov_get hN hg]
          rw [if_pos ⟨c1, c2, c3, c4, am_pz_ok c5⟩]
          rfl
        · cases hs
      · cases hs
    · cases hs
  case iaload =>
    split at hs
    · split at hs
      · rename_i hg
        split at hs
        · cases hs
        · rename_i hj
          cases hs
          simp only [am_b, am_ov_get hN hg]
          rw [if_neg hj]
      · cases hs
    · cases hs
  case baload =>
    split at hs
    · split at hs
      · rename_i hg
        split at hs
        · cases hs
        · rename_i hj
          cases hs
          simp only [am_b, am_ov_get hN hg]
          rw [if_neg hj]
      · rename_i hg
        split at hs
        · cases hs
        · rename_i hj
          cases hs
          simp only [am_b, am_ov_get hN hg]
          rw [if_neg hj]
      · cases hs
    · cases hs
  case laload =>
    split at hs
    · split at hs
      · rename_i hg
        split at hs
        · cases hs
        · rename_i hj
          cases hs
          simp only [am_b, am_ov_get hN hg]
          rw [if_neg hj]
      · cases hs
    · cases hs
  case aaload =>
    split at hs
    · split at hs
      · rename_i hg
        split at hs
        · rename_i hj
          cases hs
          simp only [am_b, am_ov_get hN hg]
          rw [if_pos hj]
        · cases hs
      · cases hs
    · cases hs
  case iastore =>
    split at hs
    · split at hs
      · rename_i hg
        split at hs
        · cases hs
        · rename_i hj
          cases hs
          simp only [am_b, am_ov_get hN hg]
          rw [if_neg hj]
          rfl
      · cases hs
    · cases hs
  case bastore =>
    split at hs
    · split at hs
      · rename_i hg
        split at hs
        · cases hs
        · rename_i hj
          cases hs
          simp only [am_b, am_ov_get hN hg]
          rw [if_neg hj]
          rfl
      · rename_i hg
        split at hs
        · cases hs
        · rename_i hj
          cases hs
          simp only [am_b, am_ov_get hN hg]
          rw [if_neg hj]
          rfl
      · cases hs
    · cases hs
  case lastore =>
    split at hs
    · split at hs
      · rename_i hg
        split at hs
        · cases hs
        · rename_i hj
          cases hs
          simp only [am_b, am_ov_get hN hg]
          rw [if_neg hj]
          rfl
      · cases hs
    · cases hs
  case aastore =>
    split at hs
    · split at hs
      · rename_i hg hv
        split at hs
        · rename_i hj
          cases hs
          simp only [am_b, am_ov_get hN hg, am_ov_get hN hv]
          rw [if_pos hj]
          rfl
        · cases hs
      · cases hs
    · cases hs
  case arraylength =>
    split at hs
    · split at hs
      · rename_i hg
        split at hs
        · rename_i hj
          cases hs
          simp only [am_b, am_ov_get hN hg]
          rw [if_pos hj]
        · cases hs
      · cases hs
    · cases hs
/-- a step within a method, over an overlay -/
def am_oneO (G : am_G) (N M pc : Nat) (lv : am_L) (st : List Value) (ov : am_O) : Option (Nat × am_L × List Value × am_O) := match am_spc G M pc st with
  | some (pc', st') => some (pc', lv, st', ov)
  | none => match am_thr G M pc with
    | some _ => none
    | none => match am_dec G M pc with
      | none => none
      | some (ins, _) => match am_a (am_kk G M) (am_mxl G M) ins pc lv st with
        | some (pc', lv', st') => some (pc', lv', st', ov)
        | none => match am_bO (am_X G) (am_lkk G M) (am_ini G M) N ins pc st ov with
          | some (pc', st', ov') => some (pc', lv, st', ov')
          | none => none
/-- a return -/
def am_rtO (rty : Option FieldType) (ins : Instr) (st : List Value) : Option (Option Value) := match ins with
  | .ireturn => match st, rty with
    | [.int v], some ty => if am_pz ty (.int v) = true then some (some (.int v)) else none
    | _, _ => none
  | .lreturn => match st, rty with
    | [.long v], some .long => some (some (.long v))
    | _, _ => none
  | .areturn => match st, rty with
    | [.ref i], some (.object _) => some (some (.ref i))
    | [.ref i], some (.array _) => some (some (.ref i))
    | [.float i], some (.object _) => some (some (.float i))
    | _, _ => none
  | .return_ => match st, rty with
    | [], none => some none
    | _, _ => none
  | _ => none
theorem am_rtO_ok {rty : Option FieldType} {ins : Instr} {st : List Value} {v : Option Value} (hs : am_rtO rty ins st = some v) : am_rt rty ins st = some v := by
  cases ins <;> simp only [am_rtO] at hs
  all_goals first | (cases hs; done) | skip
  case ireturn =>
    split at hs
    · split at hs
      · rename_i hc
        cases hs
        simp only [am_rt]
        rw [if_pos (am_pz_ok hc).1]
      · cases hs
    · cases hs
  case lreturn => exact hs
  case areturn => exact hs
  case return_ => exact hs
theorem am_rt_a {K : am_K} {nL pc : Nat} {lv : am_L} {rty : Option FieldType} {ins : Instr} {st : List Value} {v : Option Value} (hs : am_rt rty ins st = some v) : am_a K nL ins pc lv st = none := by
  cases ins <;> simp only [am_rt] at hs
  all_goals first | (cases hs; done) | rfl
theorem am_rt_b {X : am_ci} {K : am_lk} {ini : Bool} {pc : Nat} {h : am_H} {rty : Option FieldType} {ins : Instr} {st : List Value} {v : Option Value} (hs : am_rt rty ins st = some v) : am_b X K ini ins pc st h = none := by
  cases ins <;> simp only [am_rt] at hs
  all_goals first | (cases hs; done) | rfl
def am_finO (G : am_G) (M pc : Nat) (st : List Value) : Option (Option Value) := match am_spc G M pc st with
  | some _ => none
  | none => match am_thr G M pc with
    | some _ => none
    | none => match am_dec G M pc with
      | none => none
      | some (ins, _) => am_rtO (am_rty G M) ins st
/-- a call, over an overlay: its kind (not 3), the callee, its arguments, the stack behind it -/
def am_invO (G : am_G) (N M : Nat) (ins : Instr) (st : List Value) (ov : am_O) : Option (Nat × Nat × Nat × List Value × List Value) := match ins with
  | .invokestatic ix => match am_cal G M ix with
    | some (k, y, n, _) => bif (Nat.beq k 0 || Nat.beq k 6) && (Nat.ble n st.length && Nat.ble (am_cat (st.drop n)) 8) then some (k, y, ix, (st.take n).reverse, st.drop n) else none
    | none => none
  | .invokevirtual ix => match am_cal G M ix with
    | some (k, y, n, ci) => (match st.drop n with
      | .ref i :: r => (match am_get N ov i with
        | some (.inr (cj, _)) => bif (Nat.beq k 1 || Nat.beq k 7) && (Nat.beq ci cj && (!(Nat.beq cj 99) && Nat.ble (am_cat r) 8)) then some (k, y, ix, .ref i :: (st.take n).reverse, r) else none
        | _ => none)
      | .float u :: r => bif Nat.beq k 9 && (Nat.blt u.toNat 30 && Nat.ble (am_cat r) 8) then some (k, y, ix, .float u :: (st.take n).reverse, r) else none
      | _ => none)
    | none => none
  | .invokespecial ix => match am_cal G M ix with
    | some (k, y, n, _) => (match st.drop n with
      | .ref i :: r => bif (Nat.beq k 2 || Nat.beq k 8) && Nat.ble (am_cat r) 8 then some (k, y, ix, .ref i :: (st.take n).reverse, r) else none
      | _ => none)
    | none => none
  | _ => none
theorem am_invO_ok {G : am_G} {N M : Nat} {ins : Instr} {st : List Value} {ov : am_O} {h : am_H} {q : Nat × Nat × Nat × List Value × List Value} (hN : N ≤ h.length) (hs : am_invO G N M ins st ov = some q) : am_inv G M ins st (am_ov ov h) = some q ∧ ¬ q.1 = 3 := by
  cases ins <;> simp only [am_invO] at hs
  all_goals first | (cases hs; done) | skip
  case invokestatic =>
    split at hs
    · rename_i hc
      rw [cond_eq_if] at hs
      split at hs
      · rename_i hb
        cases hs
        simp only [Bool.and_eq_true, Bool.or_eq_true, Nat.beq_eq, Nat.ble_eq] at hb
        simp only [am_inv, hc]
        rw [if_pos hb]
        exact ⟨rfl, by omega⟩
      · cases hs
    · cases hs
  case invokevirtual =>
    split at hs
    · rename_i hc
      split at hs
      · rename_i hd
        split at hs
        · rename_i hg
          rw [cond_eq_if] at hs
          split at hs
          · rename_i hb
            cases hs
            simp only [Bool.and_eq_true, Bool.or_eq_true, Nat.beq_eq, Nat.ble_eq, Bool.not_eq_true'] at hb
            simp only [am_inv, hc, hd, am_ov_get hN hg]
            rw [if_pos ⟨hb.1, hb.2.1, fun z => by rw [z] at hb; exact absurd hb.2.2.1 (by decide), hb.2.2.2⟩]
            exact ⟨rfl, by omega⟩
          · cases hs
        · cases hs
      · rename_i hd
        rw [cond_eq_if] at hs
        split at hs
        · rename_i hb
          cases hs
          simp only [Bool.and_eq_true, Nat.beq_eq, Nat.ble_eq, Nat.blt_eq] at hb
          simp only [am_inv, hc, hd]
          rw [if_pos hb]
          exact ⟨rfl, by omega⟩
        · cases hs
      · cases hs
    · cases hs
  case invokespecial =>
    split at hs
    · rename_i hc
      split at hs
      · rename_i hd
        rw [cond_eq_if] at hs
        split at hs
        · rename_i hb
          cases hs
          simp only [Bool.and_eq_true, Bool.or_eq_true, Nat.beq_eq, Nat.ble_eq] at hb
          simp only [am_inv, hc, hd]
          rw [if_pos ⟨by omega, hb.2⟩]
          exact ⟨rfl, by omega⟩
        · cases hs
      · cases hs
    · cases hs
theorem am_inv_a {K : am_K} {nL pc : Nat} {lv : am_L} {G : am_G} {M : Nat} {ins : Instr} {st : List Value} {h : am_H} {q : Nat × Nat × Nat × List Value × List Value} (hs : am_inv G M ins st h = some q) : am_a K nL ins pc lv st = none := by
  cases ins <;> simp only [am_inv] at hs
  all_goals first | (cases hs; done) | rfl
theorem am_inv_b {X : am_ci} {K : am_lk} {ini : Bool} {pc : Nat} {G : am_G} {M : Nat} {ins : Instr} {st : List Value} {h : am_H} {q : Nat × Nat × Nat × List Value × List Value} (hs : am_inv G M ins st h = some q) : am_b X K ini ins pc st h = none := by
  cases ins <;> simp only [am_inv] at hs
  all_goals first | (cases hs; done) | rfl
theorem am_inv_r {rty : Option FieldType} {G : am_G} {M : Nat} {ins : Instr} {st : List Value} {h : am_H} {q : Nat × Nat × Nat × List Value × List Value} (hs : am_inv G M ins st h = some q) : am_rt rty ins st = none := by
  cases ins <;> simp only [am_inv] at hs
  all_goals first | (cases hs; done) | rfl
def am_cllO (G : am_G) (N M pc : Nat) (st : List Value) (ov : am_O) : Option (Nat × Nat × Nat × List Value × List Value) := match am_spc G M pc st with
  | some _ => none
  | none => match am_thr G M pc with
    | some _ => none
    | none => match am_dec G M pc with
      | none => none
      | some (ins, _) => match am_invO G N M ins st ov with
        | none => none
        | some (kd, y, ix, vs, r) => bif Nat.ble (lg_sl vs).length (am_mxl G y) then some (kd, y, ix, vs, r) else none
section AMTO
variable {G : am_G} {d M pc N : Nat} {lv : am_L} {st : List Value} {h : am_H} {k : am_Out → am_H → Prop} {ov : am_O}
theorem am_T.stp {pc' : Nat} {lv' : am_L} {st' : List Value} {ov' : am_O} (hN : N ≤ h.length) (hs : am_oneO G N M pc lv st ov = some (pc', lv', st', ov')) (kk : am_T G d M pc' lv' st' (am_ov ov' h) k) : am_T G d M pc lv st (am_ov ov h) k := by
  refine am_T.one ?_ kk
  unfold am_oneO at hs
  unfold am_one
  cases h1 : am_spc G M pc st with
  | some q => simp only [h1] at hs ⊢; cases hs; rfl
  | none =>
    simp only [h1] at hs ⊢
    cases h2 : am_thr G M pc with
    | some E => simp only [h2] at hs; cases hs
    | none =>
      simp only [h2] at hs ⊢
      cases h3 : am_dec G M pc with
      | none => simp only [h3] at hs; cases hs
      | some q =>
        obtain ⟨ins, len⟩ := q
        simp only [h3] at hs ⊢
        cases h4 : am_a (am_kk G M) (am_mxl G M) ins pc lv st with
        | some q => simp only [h4] at hs ⊢; cases hs; rfl
        | none =>
          simp only [h4] at hs ⊢
          cases h5 : am_bO (am_X G) (am_lkk G M) (am_ini G M) N ins pc st ov with
          | some q =>
            obtain ⟨q1, q2, q3⟩ := q
            simp only [h5] at hs
            cases hs
            simp only [am_bO_ok hN h5]
          | none => simp only [h5] at hs; cases hs
theorem am_T.ret {v : Option Value} (hs : am_finO G M pc st = some v) (kk : k (.inl v) h) : am_T G d M pc lv st h k := by
  refine am_T.fin ?_ kk
  unfold am_finO at hs
  unfold am_fin
  cases h1 : am_spc G M pc st with
  | some q => simp only [h1] at hs; cases hs
  | none =>
    simp only [h1] at hs ⊢
    cases h2 : am_thr G M pc with
    | some E => simp only [h2] at hs; cases hs
    | none =>
      simp only [h2] at hs ⊢
      cases h3 : am_dec G M pc with
      | none => simp only [h3] at hs; cases hs
      | some q =>
        obtain ⟨ins, len⟩ := q
        simp only [h3] at hs ⊢
        have h4 := am_rtO_ok hs
        simp only [am_rt_a h4, am_rt_b h4, h4]
theorem am_T.go {kd y ix : Nat} {vs r : List Value} (hN : N ≤ h.length) (hs : am_cllO G N M pc st ov = some (kd, y, ix, vs, r)) (kk : am_T G d y 0 (lv_args 0 vs) [] (am_ov ov h) (am_bk G d M pc kd lv r k)) : am_T G (d + 1) M pc lv st (am_ov ov h) k := by
  unfold am_cllO at hs
  cases h1 : am_spc G M pc st with
  | some q => simp only [h1] at hs; cases hs
  | none =>
    simp only [h1] at hs
    cases h2 : am_thr G M pc with
    | some E => simp only [h2] at hs; cases hs
    | none =>
      simp only [h2] at hs
      cases h3 : am_dec G M pc with
      | none => simp only [h3] at hs; cases hs
      | some q =>
        obtain ⟨ins, len⟩ := q
        simp only [h3] at hs
        cases h4 : am_invO G N M ins st ov with
        | none => simp only [h4] at hs; cases hs
        | some q =>
          obtain ⟨q1, q2, q3, q4, q5⟩ := q
          simp only [h4] at hs
          rw [cond_eq_if] at hs
          split at hs
          · rename_i hb
            cases hs
            obtain ⟨h5, h6⟩ := am_invO_ok hN h4
            exact am_T.call (am_cll_of ⟨h1, h2, len, h3⟩ (am_inv_a h5) (am_inv_b h5) (am_inv_r h5) h5 (Or.inr (Nat.le_of_ble_eq_true hb))) h6 kk
          · cases hs
end AMTO


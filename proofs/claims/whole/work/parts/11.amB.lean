/-- a jump from pc by off -/
def am_to (pc : Nat) (off : Int) : Option Nat := if 0 ≤ (pc : Int) + off then some ((pc : Int) + off).toNat else none
theorem am_to_eq {pc tgt : Nat} {off : Int} (h : am_to pc off = some tgt) : (pc : Int) + off = (tgt : Int) := by
  unfold am_to at h
  split at h
  · cases h
    omega
  · cases h
/-- the constants of a method's class by their entries -/
abbrev am_K : Type := (Nat → Option Int32) × (Nat → Option Int64)
abbrev am_A : Type := Option (Nat × am_L × List Value)
/-- an instruction that touches neither heap nor callers: where it goes, the locals, the stack -/
def am_a (kk : am_K) (nL : Nat) (ins : Instr) (pc : Nat) (lv : am_L) (st : List Value) : am_A := match ins with
  | .iadd => match st with | .int y :: .int x :: r => some (pc + 1, lv, .int (x + y) :: r) | _ => none
  | .isub => match st with | .int y :: .int x :: r => some (pc + 1, lv, .int (x - y) :: r) | _ => none
  | .imul => match st with | .int y :: .int x :: r => some (pc + 1, lv, .int (x * y) :: r) | _ => none
  | .iand => match st with | .int y :: .int x :: r => some (pc + 1, lv, .int (x &&& y) :: r) | _ => none
  | .ior => match st with | .int y :: .int x :: r => some (pc + 1, lv, .int (x ||| y) :: r) | _ => none
  | .ixor => match st with | .int y :: .int x :: r => some (pc + 1, lv, .int (x ^^^ y) :: r) | _ => none
  | .ishl => match st with | .int y :: .int x :: r => some (pc + 1, lv, .int (x <<< (y &&& 31)) :: r) | _ => none
  | .ishr => match st with | .int y :: .int x :: r => some (pc + 1, lv, .int (x >>> (y &&& 31)) :: r) | _ => none
  | .ladd => match st with | .long y :: .long x :: r => some (pc + 1, lv, .long (x + y) :: r) | _ => none
  | .lsub => match st with | .long y :: .long x :: r => some (pc + 1, lv, .long (x - y) :: r) | _ => none
  | .lmul => match st with | .long y :: .long x :: r => some (pc + 1, lv, .long (x * y) :: r) | _ => none
  | .land => match st with | .long y :: .long x :: r => some (pc + 1, lv, .long (x &&& y) :: r) | _ => none
  | .lor => match st with | .long y :: .long x :: r => some (pc + 1, lv, .long (x ||| y) :: r) | _ => none
  | .lxor => match st with | .long y :: .long x :: r => some (pc + 1, lv, .long (x ^^^ y) :: r) | _ => none
  | .iushr => match st with | .int y :: .int x :: r => some (pc + 1, lv, .int ((x.toUInt32 >>> (y.toUInt32 &&& Int32.toUInt32 31)).toInt32) :: r) | _ => none
  | .lshl => match st with | .int y :: .long x :: r => some (pc + 1, lv, .long (x <<< (y.toInt64 &&& 63)) :: r) | _ => none
  | .lshr => match st with | .int y :: .long x :: r => some (pc + 1, lv, .long (x >>> (y.toInt64 &&& 63)) :: r) | _ => none
  | .lushr => match st with | .int y :: .long x :: r => some (pc + 1, lv, .long ((x.toUInt64 >>> (y.toInt64.toUInt64 &&& Int64.toUInt64 63)).toInt64) :: r) | _ => none
  | .idiv => match st with | .int y :: .int x :: r => if y = 0 then none else some (pc + 1, lv, .int (x / y) :: r) | _ => none
  | .irem => match st with | .int y :: .int x :: r => if y = 0 then none else some (pc + 1, lv, .int (x - x / y * y) :: r) | _ => none
  | .ldiv => match st with | .long y :: .long x :: r => if y = 0 then none else some (pc + 1, lv, .long (x / y) :: r) | _ => none
  | .lrem => match st with | .long y :: .long x :: r => if y = 0 then none else some (pc + 1, lv, .long (x - x / y * y) :: r) | _ => none
  | .lcmp => match st with | .long y :: .long x :: r => some (pc + 1, lv, .int (lg_cmp x y) :: r) | _ => none
  | .ineg => match st with | .int x :: r => some (pc + 1, lv, .int (-x) :: r) | _ => none
  | .lneg => match st with | .long x :: r => some (pc + 1, lv, .long (-x) :: r) | _ => none
  | .i2l => match st with | .int x :: r => some (pc + 1, lv, .long (x.toInt64) :: r) | _ => none
  | .l2i => match st with | .long x :: r => some (pc + 1, lv, .int (x.toInt32) :: r) | _ => none
  | .i2b => match st with | .int x :: r => some (pc + 1, lv, .int (x.toInt8.toInt32) :: r) | _ => none
  | .i2c => match st with | .int x :: r => some (pc + 1, lv, .int ((x.toUInt32 % 65536).toInt32) :: r) | _ => none
  | .iconst n => some (pc + 1, lv, .int (Int32.ofInt n) :: st)
  | .bipush n => some (pc + 2, lv, .int ((Int8.ofInt n).toInt32) :: st)
  | .sipush n => some (pc + 3, lv, .int ((Int16.ofInt n).toInt32) :: st)
  | .lconst n => some (pc + 1, lv, .long (Int64.ofNat (n : Nat)) :: st)
  | .ldc i => match kk.1 i with | some v => some (pc + 2, lv, .int v :: st) | none => none
  | .ldc_w i => match kk.1 i with | some v => some (pc + 3, lv, .int v :: st) | none => none
  | .ldc2_w i => match kk.2 i with | some v => some (pc + 3, lv, .long v :: st) | none => none
  | .iload_n k => match am_ld lv (k : Nat) with | some (.int x) => some (pc + 1, lv, .int x :: st) | _ => none
  | .lload_n k => match am_ld lv (k : Nat) with | some (.long x) => some (pc + 1, lv, .long x :: st) | _ => none
  | .aload_n k => match am_ld lv (k : Nat) with | some (.ref x) => some (pc + 1, lv, .ref x :: st) | some (.float x) => if x.toNat < 900 then some (pc + 1, lv, .float x :: st) else none | some .null => some (pc + 1, lv, .null :: st) | _ => none
  | .iload k => match am_ld lv k with | some (.int x) => some (pc + 2, lv, .int x :: st) | _ => none
  | .lload k => match am_ld lv k with | some (.long x) => some (pc + 2, lv, .long x :: st) | _ => none
  | .aload k => match am_ld lv k with | some (.ref x) => some (pc + 2, lv, .ref x :: st) | some (.float x) => if x.toNat < 900 then some (pc + 2, lv, .float x :: st) else none | some .null => some (pc + 2, lv, .null :: st) | _ => none
  | .istore_n k => match st with | .int x :: r => if (k : Nat) < nL then some (pc + 1, am_s1 lv (k : Nat) (.int x), r) else none | _ => none
  | .lstore_n k => match st with | .long x :: r => if (k : Nat) + 1 < nL then some (pc + 1, am_s2 lv (k : Nat) (.long x), r) else none | _ => none
  | .astore_n k => match st with | .ref x :: r => if (k : Nat) < nL then some (pc + 1, am_s1 lv (k : Nat) (.ref x), r) else none | .float x :: r => if (k : Nat) < nL ∧ x.toNat < 900 then some (pc + 1, am_s1 lv (k : Nat) (.float x), r) else none | .null :: r => if (k : Nat) < nL then some (pc + 1, am_s1 lv (k : Nat) .null, r) else none | _ => none
  | .istore k => match st with | .int x :: r => if k < nL then some (pc + 2, am_s1 lv k (.int x), r) else none | _ => none
  | .lstore k => match st with | .long x :: r => if k + 1 < nL then some (pc + 2, am_s2 lv k (.long x), r) else none | _ => none
  | .astore k => match st with | .ref x :: r => if k < nL then some (pc + 2, am_s1 lv k (.ref x), r) else none | .float x :: r => if k < nL ∧ x.toNat < 900 then some (pc + 2, am_s1 lv k (.float x), r) else none | .null :: r => if k < nL then some (pc + 2, am_s1 lv k .null, r) else none | _ => none
  | .iinc k n => match am_ld lv k with | some (.int x) => if k < nL then some (pc + 3, am_s1 lv k (.int (x + Int32.ofInt n)), st) else none | _ => none
  | .pop => match st with | v :: r => if v.category = 1 then some (pc + 1, lv, r) else none | _ => none
  | .dup => match st with | v :: r => if v.category = 1 then some (pc + 1, lv, v :: v :: r) else none | _ => none
  | .dup2 => match st with | v :: w :: r => if v.category = 1 ∧ w.category = 1 then some (pc + 1, lv, v :: w :: v :: w :: r) else none | _ => none
  | .goto off => match am_to pc off with | some t => some (t, lv, st) | none => none
  | .ifCond c off => match st with | .int x :: r => (match am_to pc off with | some t => some (if am_tst c x 0 then t else pc + 3, lv, r) | none => none) | _ => none
  | .if_icmp c off => match st with | .int y :: .int x :: r => (match am_to pc off with | some t => some (if am_tst c x y then t else pc + 3, lv, r) | none => none) | _ => none
  | .ifnonnull off => match st with | .ref _ :: r => (match am_to pc off with | some t => some (t, lv, r) | none => none) | .null :: r => some (pc + 3, lv, r) | _ => none
  | .tableswitch dflt lo hi offs => match st with | .int x :: r => if ¬ (x.toInt < lo ∨ hi < x.toInt) → (offs[(x.toInt - lo).toNat]?).isSome = true then (match am_to pc (if x.toInt < lo ∨ hi < x.toInt then dflt else (offs[(x.toInt - lo).toNat]?).getD dflt) with | some t => some (t, lv, r) | none => none) else none | _ => none
  | .lookupswitch dflt ps => match st with | .int x :: r => if (ps.toList.zip (ps.toList.drop 1)).all (fun (a, next) => a.1 < next.1) = true then (match am_to pc (Op.lookupswitch.offset ps.toList dflt x.toInt) with | some t => some (t, lv, r) | none => none) else none | _ => none
  | _ => none
/-- how long an instruction is -/
def am_len (ins : Instr) : Nat := match ins with
  | .bipush _ => 2
  | .sipush _ => 3
  | .ldc _ => 2
  | .ldc_w _ => 3
  | .ldc2_w _ => 3
  | .iload _ => 2
  | .lload _ => 2
  | .aload _ => 2
  | .istore _ => 2
  | .lstore _ => 2
  | .astore _ => 2
  | .iinc _ _ => 3
  | .goto _ => 3
  | .ifCond _ _ => 3
  | .if_icmp _ _ => 3
  | .ifnonnull _ => 3
  | .getfield _ => 3
  | .putfield _ => 3
  | .new _ => 3
  | .anewarray _ => 3
  | .newarray _ => 2
  | .getstatic _ => 3
  | .invokestatic _ => 3
  | .invokevirtual _ => 3
  | .invokespecial _ => 3
  | _ => 1
def am_sw (ins : Instr) : Bool := match ins with
  | .tableswitch _ _ _ _ => true
  | .lookupswitch _ _ => true
  | _ => false
theorem am_fl {b : Nat} {sa : Nat → Option Nat} (hsa : ∀ u : Nat, u < 900 → ∃ a, sa u = some a) {x : UInt32} (h : x.toNat < 900) : ∃ a, am_r b sa (.float x) = .ref a := by
  obtain ⟨a, ha⟩ := hsa _ h
  exact ⟨a, by show va_rf (sa _) = _; rw [ha]; rfl⟩
section AMA0
variable {p : Program} {l : Launch} {e : Env} {R : Room} {s : State} {m : MethodId} {args : Array Value} {below : List Frame} {meth : Method} {c : Code} {H : Heap} {locs : List Loc} {cells slots : Nat} {Q : State → Prop}
theorem am_iinc {cc : ByteArray} {nL pc i : Nat} {n : Int} {x : Int32} {lv : am_L} {rest : List Value} {b : Nat} {sa : Nat → Option Nat} {ls : Array Slot} (hx : p.tables.exec = Jvm.exec) (hb : c.code = cc) (hd : decode cc pc = .ok (.iinc i n, 3)) (hl : lv_has ls nL (am_rl b sa lv)) (hv : am_ld lv i = some (.int x)) (hn : i < nL)
    (k : ∀ ls' : Array Slot, lv_has ls' nL (am_rl b sa (am_s1 lv i (.int (x + Int32.ofInt n)))) → W p l e R s m args below meth c H locs cells slots Q (F0 m (pc + 3) ls' rest)) : W p l e R s m args below meth c H locs cells slots Q (F0 m pc ls rest) := by
  unfold am_ld at hv
  cases hf : lv.find? (fun q => q.1 == i) with
  | none => rw [hf] at hv; cases hv
  | some q =>
    rw [hf] at hv
    cases q with
    | mk q1 q2 =>
    simp only [Option.map_some, Option.some.injEq] at hv
    subst hv
    have h1 := List.find?_some hf
    have h2 := List.mem_of_find?_eq_some hf
    have h3 : q1 = i := by simpa using h1
    subst h3
    have h4 : (q1, Value.int x) ∈ am_rl b sa lv := List.mem_map.mpr ⟨_, h2, rfl⟩
    obtain ⟨j, hj⟩ := List.mem_iff_getElem?.mp h4
    exact lv_iinc hx hb hd hl hj rfl hn (am_s1_r (v := .int _)) k
theorem am_tsw {cc : ByteArray} {pc tgt len : Nat} {dflt lo hi : Int} {offs : Array Int} {x : Int32} {rest : List Value} {ls : Array Slot} (hx : p.tables.exec = Jvm.exec) (hb : c.code = cc) (hd : decode cc pc = .ok (.tableswitch dflt lo hi offs, len))
    (h9 : (pc : Int) + (if x.toInt < lo ∨ hi < x.toInt then dflt else (offs[(x.toInt - lo).toNat]?).getD dflt) = (tgt : Int)) (hok : ¬ (x.toInt < lo ∨ hi < x.toInt) → (offs[(x.toInt - lo).toNat]?).isSome)
    (k : W p l e R s m args below meth c H locs cells slots Q (F0 m tgt ls rest)) : W p l e R s m args below meth c H locs cells slots Q (F0 m pc ls (.int x :: rest)) := by
  by_cases hq : x.toInt < lo ∨ hi < x.toInt
  · rw [if_pos hq] at h9
    exact lv_tableOut hx hb hd hq h9 k
  · rw [if_neg hq] at h9
    have h8 := hok hq
    cases ho : offs[(x.toInt - lo).toNat]? with
    | none => rw [ho] at h8; cases h8
    | some off =>
      rw [ho] at h9
      exact lv_tableIn hx hb hd (fun z => hq (Or.inl z)) (fun z => hq (Or.inr z)) ho h9 k
end AMA0
section AMA
variable {p : Program} {l : Launch} {e : Env} {R : Room} {s : State} {m : MethodId} {args : Array Value} {below : List Frame} {meth : Method} {c : Code} {H : Heap} {locs : List Loc} {cells slots : Nat} {Q : State → Prop}
set_option maxHeartbeats 4000000 in
theorem am_a_ok {cc : ByteArray} {own : String} {K : am_K} {nL len pc pc' : Nat} {ins : Instr} {lv lv' : am_L} {st st' : List Value} {b : Nat} {sa : Nat → Option Nat} {ls : Array Slot} (hx : p.tables.exec = Jvm.exec) (hb : c.code = cc) (hown : s.vm.findClass own = some m.cls) (hsa : ∀ u : Nat, u < 900 → ∃ a, sa u = some a)
    (hK1 : ∀ i v, K.1 i = some v → (Jvm.Cond.constant own i v).before args s = true) (hK2 : ∀ i v, K.2 i = some v → (Jvm.Cond.constantLong own i v).before args s = true)
    (hd : decode cc pc = .ok (ins, len)) (hlen : am_sw ins = false → len = am_len ins) (hl : lv_has ls nL (am_rl b sa lv)) (hs : am_a K nL ins pc lv st = some (pc', lv', st'))
    (k : ∀ ls' : Array Slot, lv_has ls' nL (am_rl b sa lv') → W p l e R s m args below meth c H locs cells slots Q (F0 m pc' ls' (st'.map (am_r b sa)))) : W p l e R s m args below meth c H locs cells slots Q (F0 m pc ls (st.map (am_r b sa))) := by
  cases ins
  case iadd =>
    have hlen := hlen rfl; simp only [am_len] at hlen; subst hlen
    simp only [am_a] at hs
    split at hs
    · cases hs; exact lv_iadd hx hb hd (k _ hl)
    · cases hs
  case isub =>
    have hlen := hlen rfl; simp only [am_len] at hlen; subst hlen
    simp only [am_a] at hs
    split at hs
    · cases hs; exact lv_isub hx hb hd (k _ hl)
    · cases hs
  case imul =>
    have hlen := hlen rfl; simp only [am_len] at hlen; subst hlen
    simp only [am_a] at hs
    split at hs
    · cases hs; exact lv_imul hx hb hd (k _ hl)
    · cases hs
  case iand =>
    have hlen := hlen rfl; simp only [am_len] at hlen; subst hlen
    simp only [am_a] at hs
    split at hs
    · cases hs; exact lv_iand hx hb hd (k _ hl)
    · cases hs
  case ior =>
    have hlen := hlen rfl; simp only [am_len] at hlen; subst hlen
    simp only [am_a] at hs
    split at hs
    · cases hs; exact lv_ior hx hb hd (k _ hl)
    · cases hs
  case ixor =>
    have hlen := hlen rfl; simp only [am_len] at hlen; subst hlen
    simp only [am_a] at hs
    split at hs
    · cases hs; exact lv_ixor hx hb hd (k _ hl)
    · cases hs
  case ishl =>
    have hlen := hlen rfl; simp only [am_len] at hlen; subst hlen
    simp only [am_a] at hs
    split at hs
    · cases hs; exact lv_ishl hx hb hd (k _ hl)
    · cases hs
  case ishr =>
    have hlen := hlen rfl; simp only [am_len] at hlen; subst hlen
    simp only [am_a] at hs
    split at hs
    · cases hs; exact lv_ishr hx hb hd (k _ hl)
    · cases hs
  case ladd =>
    have hlen := hlen rfl; simp only [am_len] at hlen; subst hlen
    simp only [am_a] at hs
    split at hs
    · cases hs; exact lv_ladd hx hb hd (k _ hl)
    · cases hs
  case lsub =>
    have hlen := hlen rfl; simp only [am_len] at hlen; subst hlen
    simp only [am_a] at hs
    split at hs
    · cases hs; exact lv_lsub hx hb hd (k _ hl)
    · cases hs
  case lmul =>
    have hlen := hlen rfl; simp only [am_len] at hlen; subst hlen
    simp only [am_a] at hs
    split at hs
    · cases hs; exact lv_lmul hx hb hd (k _ hl)
    · cases hs
  case land =>
    have hlen := hlen rfl; simp only [am_len] at hlen; subst hlen
    simp only [am_a] at hs
    split at hs
    · cases hs; exact lv_land hx hb hd (k _ hl)
    · cases hs
  case lor =>
    have hlen := hlen rfl; simp only [am_len] at hlen; subst hlen
    simp only [am_a] at hs
    split at hs
    · cases hs; exact lv_lor hx hb hd (k _ hl)
    · cases hs
  case lxor =>
    have hlen := hlen rfl; simp only [am_len] at hlen; subst hlen
    simp only [am_a] at hs
    split at hs
    · cases hs; exact lv_lxor hx hb hd (k _ hl)
    · cases hs
  case iushr =>
    have hlen := hlen rfl; simp only [am_len] at hlen; subst hlen
    simp only [am_a] at hs
    split at hs
    · cases hs; exact lv_iushr hx hb hd rfl (k _ hl)
    · cases hs
  case lshl =>
    have hlen := hlen rfl; simp only [am_len] at hlen; subst hlen
    simp only [am_a] at hs
    split at hs
    · cases hs; exact lv_lshl hx hb hd rfl (k _ hl)
    · cases hs
  case lshr =>
    have hlen := hlen rfl; simp only [am_len] at hlen; subst hlen
    simp only [am_a] at hs
    split at hs
    · cases hs; exact lv_lshr hx hb hd rfl (k _ hl)
    · cases hs
  case lushr =>
    have hlen := hlen rfl; simp only [am_len] at hlen; subst hlen
    simp only [am_a] at hs
    split at hs
    · cases hs; exact lv_lushr hx hb hd rfl (k _ hl)
    · cases hs
  case idiv =>
    have hlen := hlen rfl; simp only [am_len] at hlen; subst hlen
    simp only [am_a] at hs
    split at hs
    · split at hs
      · cases hs
      · rename_i hne; cases hs; exact lv_idiv hx hb hd hne (k _ hl)
    · cases hs
  case irem =>
    have hlen := hlen rfl; simp only [am_len] at hlen; subst hlen
    simp only [am_a] at hs
    split at hs
    · split at hs
      · cases hs
      · rename_i hne; cases hs; exact lv_irem hx hb hd hne (k _ hl)
    · cases hs
  case ldiv =>
    have hlen := hlen rfl; simp only [am_len] at hlen; subst hlen
    simp only [am_a] at hs
    split at hs
    · split at hs
      · cases hs
      · rename_i hne; cases hs; exact lv_ldiv hx hb hd hne (k _ hl)
    · cases hs
  case lrem =>
    have hlen := hlen rfl; simp only [am_len] at hlen; subst hlen
    simp only [am_a] at hs
    split at hs
    · split at hs
      · cases hs
      · rename_i hne; cases hs; exact lv_lrem hx hb hd hne (k _ hl)
    · cases hs
  case lcmp =>
    have hlen := hlen rfl; simp only [am_len] at hlen; subst hlen
    simp only [am_a] at hs
    split at hs
    · cases hs; exact W.lcmp hx hb hd (k _ hl)
    · cases hs
  case ineg =>
    have hlen := hlen rfl; simp only [am_len] at hlen; subst hlen
    simp only [am_a] at hs
    split at hs
    · cases hs; exact lv_ineg hx hb hd (k _ hl)
    · cases hs
  case lneg =>
    have hlen := hlen rfl; simp only [am_len] at hlen; subst hlen
    simp only [am_a] at hs
    split at hs
    · cases hs; exact lv_lneg hx hb hd (k _ hl)
    · cases hs
  case i2l =>
    have hlen := hlen rfl; simp only [am_len] at hlen; subst hlen
    simp only [am_a] at hs
    split at hs
    · cases hs; exact lv_i2l hx hb hd rfl (k _ hl)
    · cases hs
  case l2i =>
    have hlen := hlen rfl; simp only [am_len] at hlen; subst hlen
    simp only [am_a] at hs
    split at hs
    · cases hs; exact lv_l2i hx hb hd rfl (k _ hl)
    · cases hs
  case i2b =>
    have hlen := hlen rfl; simp only [am_len] at hlen; subst hlen
    simp only [am_a] at hs
    split at hs
    · cases hs; exact lv_i2b hx hb hd rfl (k _ hl)
    · cases hs
  case i2c =>
    have hlen := hlen rfl; simp only [am_len] at hlen; subst hlen
    simp only [am_a] at hs
    split at hs
    · cases hs; exact lv_i2c hx hb hd rfl (k _ hl)
    · cases hs
  case iconst n =>
    have hlen := hlen rfl; simp only [am_len] at hlen; subst hlen
    simp only [am_a] at hs
    cases hs; exact lv_iconst hx hb hd rfl (k _ hl)
  case bipush n =>
    have hlen := hlen rfl; simp only [am_len] at hlen; subst hlen
    simp only [am_a] at hs
    cases hs; exact lv_bipush hx hb hd rfl (k _ hl)
  case sipush n =>
    have hlen := hlen rfl; simp only [am_len] at hlen; subst hlen
    simp only [am_a] at hs
    cases hs; exact lv_sipush hx hb hd rfl (k _ hl)
  case lconst n =>
    have hlen := hlen rfl; simp only [am_len] at hlen; subst hlen
    simp only [am_a] at hs
    cases hs; exact lv_lconst hx hb hd rfl (k _ hl)
  case ldc i =>
    have hlen := hlen rfl; simp only [am_len] at hlen; subst hlen
    simp only [am_a] at hs
    split at hs
    · rename_i v hv; cases hs; exact lv_ldc hx hb hown (hK1 _ _ hv) hd (k _ hl)
    · cases hs
  case ldc_w i =>
    have hlen := hlen rfl; simp only [am_len] at hlen; subst hlen
    simp only [am_a] at hs
    split at hs
    · rename_i v hv; cases hs; exact lv_ldcw hx hb hown (hK1 _ _ hv) hd (k _ hl)
    · cases hs
  case ldc2_w i =>
    have hlen := hlen rfl; simp only [am_len] at hlen; subst hlen
    simp only [am_a] at hs
    split at hs
    · rename_i v hv; cases hs; exact lv_ldc2 hx hb hown (hK2 _ _ hv) hd (k _ hl)
    · cases hs
  case iload_n kx =>
    have hlen := hlen rfl; simp only [am_len] at hlen; subst hlen
    simp only [am_a] at hs
    split at hs
    · rename_i x hv; cases hs; exact lv_iload_n hx hb hd rfl (am_ld_has hl hv) (k _ hl)
    · cases hs
  case lload_n kx =>
    have hlen := hlen rfl; simp only [am_len] at hlen; subst hlen
    simp only [am_a] at hs
    split at hs
    · rename_i x hv; cases hs; exact lv_lload_n hx hb hd rfl (am_ld_has hl hv) (k _ hl)
    · cases hs
  case aload_n kx =>
    have hlen := hlen rfl; simp only [am_len] at hlen; subst hlen
    simp only [am_a] at hs
    split at hs
    · rename_i x hv; cases hs; exact lv_aload_n hx hb hd rfl (am_ld_has hl hv) (k _ hl)
    · rename_i x hv
      split at hs
      · rename_i h9
        obtain ⟨a9, e9⟩ := am_fl (b := b) hsa h9
        cases hs
        have k := k _ hl
        have g := am_ld_has hl hv
        rw [List.map_cons, e9] at k; rw [e9] at g
        exact lv_aload_n hx hb hd rfl g k
      · cases hs
    · rename_i hv; cases hs; exact lv_aload_nN hx hb hd rfl (am_ld_has hl hv) (k _ hl)
    · cases hs
  case iload kx =>
    have hlen := hlen rfl; simp only [am_len] at hlen; subst hlen
    simp only [am_a] at hs
    split at hs
    · rename_i x hv; cases hs; exact lv_iload hx hb hd (am_ld_has hl hv) (k _ hl)
    · cases hs
  case lload kx =>
    have hlen := hlen rfl; simp only [am_len] at hlen; subst hlen
    simp only [am_a] at hs
    split at hs
    · rename_i x hv; cases hs; exact lv_lload hx hb hd (am_ld_has hl hv) (k _ hl)
    · cases hs
  case aload kx =>
    have hlen := hlen rfl; simp only [am_len] at hlen; subst hlen
    simp only [am_a] at hs
    split at hs
    · rename_i x hv; cases hs; exact lv_aload hx hb hd (am_ld_has hl hv) (k _ hl)
    · rename_i x hv
      split at hs
      · rename_i h9
        obtain ⟨a9, e9⟩ := am_fl (b := b) hsa h9
        cases hs
        have k := k _ hl
        have g := am_ld_has hl hv
        rw [List.map_cons, e9] at k; rw [e9] at g
        exact lv_aload hx hb hd g k
      · cases hs
    · rename_i hv; cases hs; exact lv_aloadN hx hb hd (am_ld_has hl hv) (k _ hl)
    · cases hs
  case istore_n kx =>
    have hlen := hlen rfl; simp only [am_len] at hlen; subst hlen
    simp only [am_a] at hs
    split at hs
    · split at hs
      · rename_i hn; cases hs; exact lv_istore_n hx hb hd rfl hl hn (am_s1_r (v := .int _)) (fun ls9 hl9 => k ls9 hl9)
      · cases hs
    · cases hs
  case lstore_n kx =>
    have hlen := hlen rfl; simp only [am_len] at hlen; subst hlen
    simp only [am_a] at hs
    split at hs
    · split at hs
      · rename_i hn; cases hs; exact lv_lstore_n hx hb hd rfl hl hn (am_s2_r (v := .long _)) (fun ls9 hl9 => k ls9 hl9)
      · cases hs
    · cases hs
  case astore_n kx =>
    have hlen := hlen rfl; simp only [am_len] at hlen; subst hlen
    simp only [am_a] at hs
    split at hs
    · split at hs
      · rename_i hn; cases hs; exact lv_astore_n hx hb hd rfl hl hn (am_s1_r (v := .ref _)) (fun ls9 hl9 => k ls9 hl9)
      · cases hs
    · rename_i x9 r9
      split at hs
      · rename_i hn
        obtain ⟨a9, e9⟩ := am_fl (b := b) hsa hn.2
        cases hs
        have g := am_s1_r (b := b) (sa := sa) (lv := lv) (i := (kx : Nat)) (v := .float x9)
        rw [e9] at g
        rw [List.map_cons, e9]
        exact lv_astore_n hx hb hd rfl hl hn.1 g (fun ls9 hl9 => k ls9 hl9)
      · cases hs
    · split at hs
      · rename_i hn; cases hs; exact lv_astore_nN hx hb hd rfl hl hn (am_s1_r (v := .null)) (fun ls9 hl9 => k ls9 hl9)
      · cases hs
    · cases hs
  case istore kx =>
    have hlen := hlen rfl; simp only [am_len] at hlen; subst hlen
    simp only [am_a] at hs
    split at hs
    · split at hs
      · rename_i hn; cases hs; exact lv_istore hx hb hd hl hn (am_s1_r (v := .int _)) (fun ls9 hl9 => k ls9 hl9)
      · cases hs
    · cases hs
  case lstore kx =>
    have hlen := hlen rfl; simp only [am_len] at hlen; subst hlen
    simp only [am_a] at hs
    split at hs
    · split at hs
      · rename_i hn; cases hs; exact lv_lstore hx hb hd hl hn (am_s2_r (v := .long _)) (fun ls9 hl9 => k ls9 hl9)
      · cases hs
    · cases hs
  case astore kx =>
    have hlen := hlen rfl; simp only [am_len] at hlen; subst hlen
    simp only [am_a] at hs
    split at hs
    · split at hs
      · rename_i hn; cases hs; exact lv_astore hx hb hd hl hn (am_s1_r (v := .ref _)) (fun ls9 hl9 => k ls9 hl9)
      · cases hs
    · rename_i x9 r9
      split at hs
      · rename_i hn
        obtain ⟨a9, e9⟩ := am_fl (b := b) hsa hn.2
        cases hs
        have g := am_s1_r (b := b) (sa := sa) (lv := lv) (i := kx) (v := .float x9)
        rw [e9] at g
        rw [List.map_cons, e9]
        exact lv_astore hx hb hd hl hn.1 g (fun ls9 hl9 => k ls9 hl9)
      · cases hs
    · split at hs
      · rename_i hn; cases hs; exact lv_astoreN hx hb hd hl hn (am_s1_r (v := .null)) (fun ls9 hl9 => k ls9 hl9)
      · cases hs
    · cases hs
  case iinc kx n =>
    have hlen := hlen rfl; simp only [am_len] at hlen; subst hlen
    simp only [am_a] at hs
    split at hs
    · rename_i x hv
      split at hs
      · rename_i hn; cases hs
        exact am_iinc hx hb hd hl hv hn (fun ls9 hl9 => k ls9 hl9)
      · cases hs
    · cases hs
  case pop =>
    have hlen := hlen rfl; simp only [am_len] at hlen; subst hlen
    simp only [am_a] at hs
    split at hs
    · split at hs
      · rename_i hn; cases hs; exact lv_pop hx hb hd ((am_r_cat b sa _).trans hn) (k _ hl)
      · cases hs
    · cases hs
  case dup =>
    have hlen := hlen rfl; simp only [am_len] at hlen; subst hlen
    simp only [am_a] at hs
    split at hs
    · split at hs
      · rename_i hn; cases hs; exact lv_dup hx hb hd ((am_r_cat b sa _).trans hn) (k _ hl)
      · cases hs
    · cases hs
  case dup2 =>
    have hlen := hlen rfl; simp only [am_len] at hlen; subst hlen
    simp only [am_a] at hs
    split at hs
    · split at hs
      · rename_i hn; cases hs; exact lv_dup2_11 hx hb hd ((am_r_cat b sa _).trans hn.1) ((am_r_cat b sa _).trans hn.2) (k _ hl)
      · cases hs
    · cases hs
  case goto off =>
    have hlen := hlen rfl; simp only [am_len] at hlen; subst hlen
    simp only [am_a] at hs
    split at hs
    · rename_i t ht; cases hs; exact lv_goto hx hb hd (am_to_eq ht) (k _ hl)
    · cases hs
  case ifCond cx off =>
    have hlen := hlen rfl; simp only [am_len] at hlen; subst hlen
    simp only [am_a] at hs
    split at hs
    · split at hs
      · rename_i t ht
        have h9 := am_to_eq ht
        cases hs
        cases cx
        · refine lv_if_eq hx hb hd h9 (fun q => ?_) (fun q => ?_)
          · have k := k _ hl; rw [if_pos (by simpa [am_tst] using q)] at k; exact k
          · have k := k _ hl; rw [if_neg (by simpa [am_tst] using q)] at k; exact k
        · refine lv_if_ne hx hb hd h9 (fun q => ?_) (fun q => ?_)
          · have k := k _ hl; rw [if_pos (by simpa [am_tst] using q)] at k; exact k
          · have k := k _ hl; rw [if_neg (by simpa [am_tst] using q)] at k; exact k
        · refine lv_if_lt hx hb hd h9 (fun q => ?_) (fun q => ?_)
          · have k := k _ hl; rw [if_pos (by simpa [am_tst] using q)] at k; exact k
          · have k := k _ hl; rw [if_neg (by simpa [am_tst] using q)] at k; exact k
        · refine lv_if_ge hx hb hd h9 (fun q => ?_) (fun q => ?_)
          · have k := k _ hl; rw [if_pos (by simpa [am_tst] using q)] at k; exact k
          · have k := k _ hl; rw [if_neg (by simpa [am_tst] using q)] at k; exact k
        · refine lv_if_gt hx hb hd h9 (fun q => ?_) (fun q => ?_)
          · have k := k _ hl; rw [if_pos (by simpa [am_tst] using q)] at k; exact k
          · have k := k _ hl; rw [if_neg (by simpa [am_tst] using q)] at k; exact k
        · refine lv_if_le hx hb hd h9 (fun q => ?_) (fun q => ?_)
          · have k := k _ hl; rw [if_pos (by simpa [am_tst] using q)] at k; exact k
          · have k := k _ hl; rw [if_neg (by simpa [am_tst] using q)] at k; exact k
      · cases hs
    · cases hs
  case if_icmp cx off =>
    have hlen := hlen rfl; simp only [am_len] at hlen; subst hlen
    simp only [am_a] at hs
    split at hs
    · split at hs
      · rename_i t ht
        have h9 := am_to_eq ht
        cases hs
        cases cx
        · refine lv_icmp_eq hx hb hd h9 (fun q => ?_) (fun q => ?_)
          · have k := k _ hl; rw [if_pos (by simpa [am_tst] using q)] at k; exact k
          · have k := k _ hl; rw [if_neg (by simpa [am_tst] using q)] at k; exact k
        · refine lv_icmp_ne hx hb hd h9 (fun q => ?_) (fun q => ?_)
          · have k := k _ hl; rw [if_pos (by simpa [am_tst] using q)] at k; exact k
          · have k := k _ hl; rw [if_neg (by simpa [am_tst] using q)] at k; exact k
        · refine lv_icmp_lt hx hb hd h9 (fun q => ?_) (fun q => ?_)
          · have k := k _ hl; rw [if_pos (by simpa [am_tst] using q)] at k; exact k
          · have k := k _ hl; rw [if_neg (by simpa [am_tst] using q)] at k; exact k
        · refine lv_icmp_ge hx hb hd h9 (fun q => ?_) (fun q => ?_)
          · have k := k _ hl; rw [if_pos (by simpa [am_tst] using q)] at k; exact k
          · have k := k _ hl; rw [if_neg (by simpa [am_tst] using q)] at k; exact k
        · refine lv_icmp_gt hx hb hd h9 (fun q => ?_) (fun q => ?_)
          · have k := k _ hl; rw [if_pos (by simpa [am_tst] using q)] at k; exact k
          · have k := k _ hl; rw [if_neg (by simpa [am_tst] using q)] at k; exact k
        · refine lv_icmp_le hx hb hd h9 (fun q => ?_) (fun q => ?_)
          · have k := k _ hl; rw [if_pos (by simpa [am_tst] using q)] at k; exact k
          · have k := k _ hl; rw [if_neg (by simpa [am_tst] using q)] at k; exact k
      · cases hs
    · cases hs
  case ifnonnull off =>
    have hlen := hlen rfl; simp only [am_len] at hlen; subst hlen
    simp only [am_a] at hs
    split at hs
    · split at hs
      · rename_i t ht; cases hs; exact lv_ifnonnull hx hb hd (am_to_eq ht) (k _ hl)
      · cases hs
    · cases hs; exact lv_ifnonnullN hx hb hd (k _ hl)
    · cases hs
  case tableswitch dflt lo hi offs =>
    simp only [am_a] at hs
    split at hs
    · split at hs
      · rename_i hp
        split at hs
        · rename_i t ht
          have h9 := am_to_eq ht
          cases hs
          exact am_tsw hx hb hd h9 hp (k _ hl)
        · cases hs
      · cases hs
    · cases hs
  case lookupswitch dflt ps =>
    simp only [am_a] at hs
    split at hs
    · split at hs
      · rename_i hp
        split at hs
        · rename_i t ht; cases hs; exact lv_lookup hx hb hd hp rfl (am_to_eq ht) (k _ hl)
        · cases hs
      · cases hs
    · cases hs
  all_goals (simp only [am_a] at hs; cases hs)
end AMA

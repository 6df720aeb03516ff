/-! the judgement, and a rule an instruction -/
def im_dy (ci k : Nat) : Bool := (ci == 2 && (k == 4 || k == 5)) || (ci == 6 && k == 1) || (ci == 8 && k == 8)
def im_so (c : va_E) : im_Sh := match c with
  | .inl (t, n, _) => (t, n, [])
  | .inr (ci, fs) => (ci + 10, fs.length, fs.zipIdx.map (fun q => match q.1 with
    | .ref b => if im_dy ci q.2 then -1 else (b : Int)
    | _ => -1))
/-- the shape of the heap before the first call -/
def im_sh0 : im_E := pu_H.map im_so
abbrev im_K : Type := am_Out → im_E → im_M → Prop
def im_T (g : im_g) (d m pc : Nat) (L : im_L) (st : List Value) (e : im_E) (M : im_M) (K : im_K) : Prop := ∀ (lv : am_L) (h : am_H), im_lv L lv → im_W (im_sh0 ++ e) M h → am_T (im_G g) d m pc lv st h (fun o h' => ∃ e' M', im_W (im_sh0 ++ e') M' h' ∧ K o e' M')
/-- the instruction at a place, and the place behind it -/
def im_D (g : im_g) (m pc : Nat) (ins : Instr) (q : Nat) : Prop := am_thr (im_G g) m pc = none ∧ ∃ len, am_dec (im_G g) m pc = some (ins, len) ∧ pc + am_len ins = q
def im_nsp (ins : Instr) : Bool := match ins with
  | .iaload => false
  | .arraylength => false
  | .baload => false
  | .getfield _ => false
  | .getstatic _ => false
  | .ldc _ => false
  | .ldc_w _ => false
  | .invokestatic _ => false
  | _ => true
theorem im_spn {g : im_g} {m pc len : Nat} {ins : Instr} {st : List Value} (hd : am_dec (im_G g) m pc = some (ins, len)) (hi : im_nsp ins = true) : am_spc (im_G g) m pc st = none := by
  have hd : (am_2 am_tbs [] m).lookup pc = some (ins, len) := hd
  show am_sp g.1 g.2 m pc st = none
  unfold am_sp
  rw [hd]
  cases ins <;> first | rfl | cases hi
section IMR
variable {g : im_g} {d m pc q : Nat} {L : im_L} {st r : List Value} {e : im_E} {M : im_M} {K : im_K}
theorem im_T.mono {K1 : im_K} (h : im_T g d m pc L st e M K1) (hk : ∀ o e1 M1, K1 o e1 M1 → K o e1 M1) : im_T g d m pc L st e M K := by
  intro lv hh hl hw
  refine (h lv hh hl hw).mono ?_
  rintro o h' ⟨e1, M1, a, b⟩
  exact ⟨e1, M1, a, hk _ _ _ b⟩
theorem im_T.wk {L' : im_L} (h : im_T g d m pc L' st e M K) (hw : im_wk L' L) : im_T g d m pc L st e M K := fun lv hh hl ww => h lv hh (hl.wk hw) ww
theorem im_T.deep {d' : Nat} (h : im_T g d m pc L st e M K) (hd : d ≤ d') : im_T g d' m pc L st e M K := fun lv hh hl ww => (h lv hh hl ww).deep hd
/-- a step that touches no heap -/
theorem im_stp {ins : Instr} {L' : im_L} {st' : List Value} {t : Nat} (hD : im_D g m pc ins q) (hi : im_nsp ins = true) (ha : ∀ lv, im_lv L lv → ∃ lv', am_a (am_kk (im_G g) m) (am_mxl (im_G g) m) ins pc lv st = some (t, lv', st') ∧ im_lv L' lv') (k : im_T g d m t L' st' e M K) : im_T g d m pc L st e M K := by
  intro lv h hl hw
  obtain ⟨h1, len, h2, h3⟩ := hD
  obtain ⟨lv', ha, hl'⟩ := ha lv hl
  refine am_T.one (pc' := t) (lv' := lv') (st' := st') (h1 := h) ?_ (k lv' h hl' hw)
  unfold am_one
  simp only [im_spn h2 hi, h1, h2, ha]
theorem im_stk {ins : Instr} {st' : List Value} (hD : im_D g m pc ins q) (hi : im_nsp ins = true) (ha : ∀ lv, am_a (am_kk (im_G g) m) (am_mxl (im_G g) m) ins pc lv st = some (pc + am_len ins, lv, st')) (k : im_T g d m q L st' e M K) : im_T g d m pc L st e M K := by
  refine im_stp (t := q) hD hi (fun lv hl => ⟨lv, ?_, hl⟩) k
  rw [← hD.2.choose_spec.2]
  exact ha lv
/-- a special -/
theorem im_spc {st' : List Value} (hs : am_spc (im_G g) m pc st = some (q, st')) (k : im_T g d m q L st' e M K) : im_T g d m pc L st e M K := by
  intro lv h hl hw
  refine am_T.one (pc' := q) (lv' := lv) (st' := st') (h1 := h) ?_ (k lv h hl hw)
  unfold am_one
  simp only [hs]
section arith
variable {x y : Int}
theorem im_iadd (hD : im_D g m pc .iadd q) (k : im_T g d m q L (vI (x + y) :: r) e M K) : im_T g d m pc L (vI y :: vI x :: r) e M K :=
  im_stk hD rfl (fun lv => by simp only [am_a, vI, am_len, Int32.ofInt_add]) k
theorem im_isub (hD : im_D g m pc .isub q) (k : im_T g d m q L (vI (x - y) :: r) e M K) : im_T g d m pc L (vI y :: vI x :: r) e M K :=
  im_stk hD rfl (fun lv => by simp only [am_a, vI, am_len, Int32.ofInt_sub]) k
theorem im_imul (hD : im_D g m pc .imul q) (k : im_T g d m q L (vI (x * y) :: r) e M K) : im_T g d m pc L (vI y :: vI x :: r) e M K :=
  im_stk hD rfl (fun lv => by simp only [am_a, vI, am_len, Int32.ofInt_mul]) k
theorem im_ineg (hD : im_D g m pc .ineg q) (k : im_T g d m q L (vI (-x) :: r) e M K) : im_T g d m pc L (vI x :: r) e M K :=
  im_stk hD rfl (fun lv => by simp only [am_a, vI, am_len, Int32.ofInt_neg]) k
theorem im_ladd (hD : im_D g m pc .ladd q) (k : im_T g d m q L (vL (x + y) :: r) e M K) : im_T g d m pc L (vL y :: vL x :: r) e M K :=
  im_stk hD rfl (fun lv => by simp only [am_a, vL, am_len, Int64.ofInt_add]) k
theorem im_lsub (hD : im_D g m pc .lsub q) (k : im_T g d m q L (vL (x - y) :: r) e M K) : im_T g d m pc L (vL y :: vL x :: r) e M K :=
  im_stk hD rfl (fun lv => by simp only [am_a, vL, am_len, Int64.ofInt_sub]) k
theorem im_lmul (hD : im_D g m pc .lmul q) (k : im_T g d m q L (vL (x * y) :: r) e M K) : im_T g d m pc L (vL y :: vL x :: r) e M K :=
  im_stk hD rfl (fun lv => by simp only [am_a, vL, am_len, Int64.ofInt_mul]) k
def xiand (x y : Int) : Int := (Int32.ofInt x &&& Int32.ofInt y).toInt
def xior (x y : Int) : Int := (Int32.ofInt x ||| Int32.ofInt y).toInt
def xixor (x y : Int) : Int := (Int32.ofInt x ^^^ Int32.ofInt y).toInt
def xishl (x y : Int) : Int := (Int32.ofInt x <<< (Int32.ofInt y &&& 31)).toInt
def xishr (x y : Int) : Int := (Int32.ofInt x >>> (Int32.ofInt y &&& 31)).toInt
def xiushr (x y : Int) : Int := ((Int32.ofInt x).toUInt32 >>> ((Int32.ofInt y).toUInt32 &&& Int32.toUInt32 31)).toInt32.toInt
def xland (x y : Int) : Int := (Int64.ofInt x &&& Int64.ofInt y).toInt
def xlor (x y : Int) : Int := (Int64.ofInt x ||| Int64.ofInt y).toInt
def xlxor (x y : Int) : Int := (Int64.ofInt x ^^^ Int64.ofInt y).toInt
def xlshl (x y : Int) : Int := (Int64.ofInt x <<< ((Int32.ofInt y).toInt64 &&& 63)).toInt
def xlshr (x y : Int) : Int := (Int64.ofInt x >>> ((Int32.ofInt y).toInt64 &&& 63)).toInt
def xlushr (x y : Int) : Int := ((Int64.ofInt x).toUInt64 >>> ((Int32.ofInt y).toInt64.toUInt64 &&& Int64.toUInt64 63)).toInt64.toInt
theorem im_iand (hD : im_D g m pc .iand q) (k : im_T g d m q L (vI (xiand x y) :: r) e M K) : im_T g d m pc L (vI y :: vI x :: r) e M K :=
  im_stk hD rfl (fun lv => by simp only [am_a, vI, am_len, xiand, Int32.ofInt_toInt]) k
theorem im_ior (hD : im_D g m pc .ior q) (k : im_T g d m q L (vI (xior x y) :: r) e M K) : im_T g d m pc L (vI y :: vI x :: r) e M K :=
  im_stk hD rfl (fun lv => by simp only [am_a, vI, am_len, xior, Int32.ofInt_toInt]) k
theorem im_ixor (hD : im_D g m pc .ixor q) (k : im_T g d m q L (vI (xixor x y) :: r) e M K) : im_T g d m pc L (vI y :: vI x :: r) e M K :=
  im_stk hD rfl (fun lv => by simp only [am_a, vI, am_len, xixor, Int32.ofInt_toInt]) k
theorem im_ishl (hD : im_D g m pc .ishl q) (k : im_T g d m q L (vI (xishl x y) :: r) e M K) : im_T g d m pc L (vI y :: vI x :: r) e M K :=
  im_stk hD rfl (fun lv => by simp only [am_a, vI, am_len, xishl, Int32.ofInt_toInt]) k
theorem im_ishr (hD : im_D g m pc .ishr q) (k : im_T g d m q L (vI (xishr x y) :: r) e M K) : im_T g d m pc L (vI y :: vI x :: r) e M K :=
  im_stk hD rfl (fun lv => by simp only [am_a, vI, am_len, xishr, Int32.ofInt_toInt]) k
theorem im_iushr (hD : im_D g m pc .iushr q) (k : im_T g d m q L (vI (xiushr x y) :: r) e M K) : im_T g d m pc L (vI y :: vI x :: r) e M K :=
  im_stk hD rfl (fun lv => by simp only [am_a, vI, am_len, xiushr, Int32.ofInt_toInt]) k
theorem im_land (hD : im_D g m pc .land q) (k : im_T g d m q L (vL (xland x y) :: r) e M K) : im_T g d m pc L (vL y :: vL x :: r) e M K :=
  im_stk hD rfl (fun lv => by simp only [am_a, vL, am_len, xland, Int64.ofInt_toInt]) k
theorem im_lor (hD : im_D g m pc .lor q) (k : im_T g d m q L (vL (xlor x y) :: r) e M K) : im_T g d m pc L (vL y :: vL x :: r) e M K :=
  im_stk hD rfl (fun lv => by simp only [am_a, vL, am_len, xlor, Int64.ofInt_toInt]) k
theorem im_lxor (hD : im_D g m pc .lxor q) (k : im_T g d m q L (vL (xlxor x y) :: r) e M K) : im_T g d m pc L (vL y :: vL x :: r) e M K :=
  im_stk hD rfl (fun lv => by simp only [am_a, vL, am_len, xlxor, Int64.ofInt_toInt]) k
theorem im_lshl (hD : im_D g m pc .lshl q) (k : im_T g d m q L (vL (xlshl x y) :: r) e M K) : im_T g d m pc L (vI y :: vL x :: r) e M K :=
  im_stk hD rfl (fun lv => by simp only [am_a, vI, vL, am_len, xlshl, Int64.ofInt_toInt]) k
theorem im_lshr (hD : im_D g m pc .lshr q) (k : im_T g d m q L (vL (xlshr x y) :: r) e M K) : im_T g d m pc L (vI y :: vL x :: r) e M K :=
  im_stk hD rfl (fun lv => by simp only [am_a, vI, vL, am_len, xlshr, Int64.ofInt_toInt]) k
theorem im_lushr (hD : im_D g m pc .lushr q) (k : im_T g d m q L (vL (xlushr x y) :: r) e M K) : im_T g d m pc L (vI y :: vL x :: r) e M K :=
  im_stk hD rfl (fun lv => by simp only [am_a, vI, vL, am_len, xlushr, Int64.ofInt_toInt]) k
theorem im_o32 {x : Int} (h : im_i32 x) : (Int32.ofInt x).toInt = x := Int32.toInt_ofInt_of_le (by show -2147483648 ≤ x; omega) (by show x < 2147483648; omega)
theorem im_o64 {x : Int} (h : im_i64 x) : (Int64.ofInt x).toInt = x := Int64.toInt_ofInt_of_le (by show -9223372036854775808 ≤ x; omega) (by show x < 9223372036854775808; omega)
theorem im_ne0 {y : Int} (h : im_i32 y) (h0 : y ≠ 0) : ¬ Int32.ofInt y = 0 := fun z => h0 (by have := congrArg Int32.toInt z; rw [im_o32 h] at this; exact this)
theorem im_ne0L {y : Int} (h : im_i64 y) (h0 : y ≠ 0) : ¬ Int64.ofInt y = 0 := fun z => h0 (by have := congrArg Int64.toInt z; rw [im_o64 h] at this; exact this)
theorem im_idiv (hD : im_D g m pc .idiv q) (hx : im_i32 x) (hy : im_i32 y) (h0 : y ≠ 0) (k : im_T g d m q L (vI (x.tdiv y) :: r) e M K) : im_T g d m pc L (vI y :: vI x :: r) e M K :=
  im_stk hD rfl (fun lv => by
    simp only [am_a, vI, am_len]
    rw [if_neg (im_ne0 hy h0), Int32.ofInt_tdiv (by show -2147483648 ≤ x; omega) (by show x ≤ 2147483647; omega) (by show -2147483648 ≤ y; omega) (by show y ≤ 2147483647; omega)]) k
theorem im_irem (hD : im_D g m pc .irem q) (hx : im_i32 x) (hy : im_i32 y) (h0 : y ≠ 0) (k : im_T g d m q L (vI (x.tmod y) :: r) e M K) : im_T g d m pc L (vI y :: vI x :: r) e M K :=
  im_stk hD rfl (fun lv => by
    simp only [am_a, vI, am_len]
    rw [if_neg (im_ne0 hy h0), Int.tmod_def, Int32.ofInt_sub, Int32.ofInt_mul, Int32.ofInt_tdiv (by show -2147483648 ≤ x; omega) (by show x ≤ 2147483647; omega) (by show -2147483648 ≤ y; omega) (by show y ≤ 2147483647; omega), Int32.mul_comm]) k
theorem im_ldiv (hD : im_D g m pc .ldiv q) (hx : im_i64 x) (hy : im_i64 y) (h0 : y ≠ 0) (k : im_T g d m q L (vL (x.tdiv y) :: r) e M K) : im_T g d m pc L (vL y :: vL x :: r) e M K :=
  im_stk hD rfl (fun lv => by
    simp only [am_a, vL, am_len]
    rw [if_neg (im_ne0L hy h0), Int64.ofInt_tdiv (by show -9223372036854775808 ≤ x; omega) (by show x ≤ 9223372036854775807; omega) (by show -9223372036854775808 ≤ y; omega) (by show y ≤ 9223372036854775807; omega)]) k
theorem im_lrem (hD : im_D g m pc .lrem q) (hx : im_i64 x) (hy : im_i64 y) (h0 : y ≠ 0) (k : im_T g d m q L (vL (x.tmod y) :: r) e M K) : im_T g d m pc L (vL y :: vL x :: r) e M K :=
  im_stk hD rfl (fun lv => by
    simp only [am_a, vL, am_len]
    rw [if_neg (im_ne0L hy h0), Int.tmod_def, Int64.ofInt_sub, Int64.ofInt_mul, Int64.ofInt_tdiv (by show -9223372036854775808 ≤ x; omega) (by show x ≤ 9223372036854775807; omega) (by show -9223372036854775808 ≤ y; omega) (by show y ≤ 9223372036854775807; omega), Int64.mul_comm]) k
theorem im_i2l (hD : im_D g m pc .i2l q) (hx : im_i32 x) (k : im_T g d m q L (vL x :: r) e M K) : im_T g d m pc L (vI x :: r) e M K :=
  im_stk hD rfl (fun lv => by
    simp only [am_a, vL, vI, am_len]
    rw [Int32.toInt64_ofInt (by show -2147483648 ≤ x; omega) (by show x ≤ 2147483647; omega)]) k
theorem im_l2i (hD : im_D g m pc .l2i q) (k : im_T g d m q L (vI x :: r) e M K) : im_T g d m pc L (vL x :: r) e M K :=
  im_stk hD rfl (fun lv => by simp only [am_a, vL, vI, am_len, Int64.toInt32_ofInt]) k
theorem im_i2b (hD : im_D g m pc .i2b q) (k : im_T g d m q L (vI (x.bmod 256) :: r) e M K) : im_T g d m pc L (vI x :: r) e M K :=
  im_stk hD rfl (fun lv => by
    simp only [am_a, vI, am_len, Int32.toInt8_ofInt]
    have h : (Int8.ofInt x).toInt32 = Int32.ofInt (x.bmod 256) := by
      rw [← Int32.ofInt_int8ToInt, Int8.toInt_ofInt]
    rw [h]) k
theorem im_i2c (hD : im_D g m pc .i2c q) (h0 : 0 ≤ x) (h1 : x < 65536) (k : im_T g d m q L (vI x :: r) e M K) : im_T g d m pc L (vI x :: r) e M K :=
  im_stk hD rfl (fun lv => by
    simp only [am_a, vI, am_len]
    have h : ((Int32.ofInt x).toUInt32 % 65536).toInt32 = Int32.ofInt x := by
      obtain ⟨n, rfl⟩ := Int.eq_ofNat_of_zero_le h0
      have hn : n < 65536 := by omega
      have e1 : (Int32.ofInt (n : Int)).toUInt32 = UInt32.ofNat n := by
        rw [Int32.ofInt_eq_ofNat]; rfl
      rw [e1]
      have e2 : UInt32.ofNat n % 65536 = UInt32.ofNat n := by
        apply UInt32.toNat_inj.mp
        rw [UInt32.toNat_mod, UInt32.toNat_ofNat_of_lt' (by show n < 4294967296; omega)]
        exact Nat.mod_eq_of_lt hn
      rw [e2, Int32.ofInt_eq_ofNat]
      rfl
    rw [h]) k
def im_cmp (x y : Int) : Int := if y < x then 1 else if x = y then 0 else -1
theorem im_lcmp (hD : im_D g m pc .lcmp q) (hx : im_i64 x) (hy : im_i64 y) (k : im_T g d m q L (vI (im_cmp x y) :: r) e M K) : im_T g d m pc L (vL y :: vL x :: r) e M K :=
  im_stk hD rfl (fun lv => by
    simp only [am_a, vL, vI, am_len]
    have e1 : lg_cmp (Int64.ofInt x) (Int64.ofInt y) = Int32.ofInt (im_cmp x y) := by
      have h9 := pu_lgc (Int64.ofInt x) (Int64.ofInt y)
      rw [im_o64 hx, im_o64 hy] at h9
      apply Int32.toInt_inj.mp
      rw [h9]
      unfold im_cmp
      by_cases h1 : x < y
      · rw [if_pos h1, if_neg (by omega), if_neg (by omega)]; rfl
      · rw [if_neg h1]
        by_cases h2 : x = y
        · rw [if_pos h2, if_neg (by omega), if_pos h2]; rfl
        · rw [if_neg h2, if_pos (by omega)]; rfl
    rw [e1]) k
end arith
theorem im_iconst {n : Int} (hD : im_D g m pc (.iconst n) q) (k : im_T g d m q L (vI n :: st) e M K) : im_T g d m pc L st e M K :=
  im_stk hD rfl (fun lv => rfl) k
theorem im_bipush {n : Int} (hD : im_D g m pc (.bipush n) q) (hn : (Int8.ofInt n).toInt32 = Int32.ofInt n) (k : im_T g d m q L (vI n :: st) e M K) : im_T g d m pc L st e M K :=
  im_stk hD rfl (fun lv => by simp only [am_a, vI, am_len, hn]) k
theorem im_sipush {n : Int} (hD : im_D g m pc (.sipush n) q) (hn : (Int16.ofInt n).toInt32 = Int32.ofInt n) (k : im_T g d m q L (vI n :: st) e M K) : im_T g d m pc L st e M K :=
  im_stk hD rfl (fun lv => by simp only [am_a, vI, am_len, hn]) k
theorem im_ldc2 {i : Nat} {n : Int} (hD : im_D g m pc (.ldc2_w i) q) (hn : (am_kk (im_G g) m).2 i = some (Int64.ofInt n)) (k : im_T g d m q L (vL n :: st) e M K) : im_T g d m pc L st e M K :=
  im_stk hD rfl (fun lv => by simp only [am_a, vL, am_len, hn]) k
theorem im_dup {v : Value} (hD : im_D g m pc .dup q) (hv : v.category = 1) (k : im_T g d m q L (v :: v :: r) e M K) : im_T g d m pc L (v :: r) e M K :=
  im_stk hD rfl (fun lv => by simp only [am_a, am_len]; rw [if_pos hv]) k
theorem im_dup2 {v w : Value} (hD : im_D g m pc .dup2 q) (hv : v.category = 1) (hw : w.category = 1) (k : im_T g d m q L (v :: w :: v :: w :: r) e M K) : im_T g d m pc L (v :: w :: r) e M K :=
  im_stk hD rfl (fun lv => by simp only [am_a, am_len]; rw [if_pos ⟨hv, hw⟩]) k
theorem im_pop {v : Value} (hD : im_D g m pc .pop q) (hv : v.category = 1) (k : im_T g d m q L r e M K) : im_T g d m pc L (v :: r) e M K :=
  im_stk hD rfl (fun lv => by simp only [am_a, am_len]; rw [if_pos hv]) k
/-- loads -/
def im_ldi : Instr → Option Nat
  | .iload_n k => some k
  | .iload k => some k
  | .lload_n k => some k
  | .lload k => some k
  | .aload_n k => some k
  | .aload k => some k
  | _ => none
def im_ldk : Instr → Value → Bool
  | .iload_n _, .int _ => true
  | .iload _, .int _ => true
  | .lload_n _, .long _ => true
  | .lload _, .long _ => true
  | .aload_n _, .ref _ => true
  | .aload _, .ref _ => true
  | .aload_n _, .null => true
  | .aload _, .null => true
  | .aload_n _, .float u => Nat.blt u.toNat 900
  | .aload _, .float u => Nat.blt u.toNat 900
  | _, _ => false
theorem im_ld {ins : Instr} {i : Nat} {v : Value} (hD : im_D g m pc ins q) (hi : im_ldi ins = some i) (hl : L[i]? = some (some v)) (hk : im_ldk ins v = true) (k : im_T g d m q L (v :: st) e M K) : im_T g d m pc L st e M K := by
  have hn : im_nsp ins = true := by cases ins <;> first | rfl | cases hi
  refine im_stp (t := q) hD hn (fun lv h => ⟨lv, ?_, h⟩) k
  rw [← hD.2.choose_spec.2]
  have h9 := h i v hl
  cases ins <;> first | (cases hi; done) | skip
  all_goals (cases hi; cases v <;> first | (cases hk; done) | skip)
  all_goals simp only [am_a, h9, am_len]
  all_goals (exact if_pos (Nat.le_of_ble_eq_true hk))
/-- stores of one place, and of two -/
theorem im_st1 {i : Nat} {x : Int} {L' : im_L} {ins : Instr} (hD : im_D g m pc ins q) (hi : (∃ k, ins = .istore_n k ∧ (k : Nat) = i) ∨ ins = .istore i) (hm : i < am_mxl (im_G g) m) (hL : im_s1 L i (vI x) = L') (k : im_T g d m q L' r e M K) : im_T g d m pc L (vI x :: r) e M K := by
  have hn : im_nsp ins = true := by rcases hi with ⟨k, rfl, _⟩ | rfl <;> rfl
  subst hL
  refine im_stp (t := q) hD hn (fun lv h => ⟨am_s1 lv i (vI x), ?_, h.s1 i _⟩) k
  rw [← hD.2.choose_spec.2]
  rcases hi with ⟨k, rfl, rfl⟩ | rfl
  · simp only [am_a, vI, am_len]; rw [if_pos hm]
  · simp only [am_a, vI, am_len]; rw [if_pos hm]
theorem im_st2 {i : Nat} {x : Int} {L' : im_L} {ins : Instr} (hD : im_D g m pc ins q) (hi : (∃ k, ins = .lstore_n k ∧ (k : Nat) = i) ∨ ins = .lstore i) (hm : i + 1 < am_mxl (im_G g) m) (hL : im_s2 L i (vL x) = L') (k : im_T g d m q L' r e M K) : im_T g d m pc L (vL x :: r) e M K := by
  have hn : im_nsp ins = true := by rcases hi with ⟨k, rfl, _⟩ | rfl <;> rfl
  subst hL
  refine im_stp (t := q) hD hn (fun lv h => ⟨am_s2 lv i (vL x), ?_, h.s2 i _⟩) k
  rw [← hD.2.choose_spec.2]
  rcases hi with ⟨k, rfl, rfl⟩ | rfl
  · simp only [am_a, vL, am_len]; rw [if_pos hm]
  · simp only [am_a, vL, am_len]; rw [if_pos hm]
theorem im_stR {i a : Nat} {L' : im_L} {ins : Instr} (hD : im_D g m pc ins q) (hi : (∃ k, ins = .astore_n k ∧ (k : Nat) = i) ∨ ins = .astore i) (hm : i < am_mxl (im_G g) m) (hL : im_s1 L i (.ref a) = L') (k : im_T g d m q L' r e M K) : im_T g d m pc L (.ref a :: r) e M K := by
  have hn : im_nsp ins = true := by rcases hi with ⟨k, rfl, _⟩ | rfl <;> rfl
  subst hL
  refine im_stp (t := q) hD hn (fun lv h => ⟨am_s1 lv i (.ref a), ?_, h.s1 i _⟩) k
  rw [← hD.2.choose_spec.2]
  rcases hi with ⟨k, rfl, rfl⟩ | rfl
  · simp only [am_a, am_len]; rw [if_pos hm]
  · simp only [am_a, am_len]; rw [if_pos hm]
theorem im_stN {i : Nat} {L' : im_L} {ins : Instr} (hD : im_D g m pc ins q) (hi : (∃ k, ins = .astore_n k ∧ (k : Nat) = i) ∨ ins = .astore i) (hm : i < am_mxl (im_G g) m) (hL : im_s1 L i .null = L') (k : im_T g d m q L' r e M K) : im_T g d m pc L (.null :: r) e M K := by
  have hn : im_nsp ins = true := by rcases hi with ⟨k, rfl, _⟩ | rfl <;> rfl
  subst hL
  refine im_stp (t := q) hD hn (fun lv h => ⟨am_s1 lv i .null, ?_, h.s1 i _⟩) k
  rw [← hD.2.choose_spec.2]
  rcases hi with ⟨k, rfl, rfl⟩ | rfl
  · simp only [am_a, am_len]; rw [if_pos hm]
  · simp only [am_a, am_len]; rw [if_pos hm]
theorem im_stF {i : Nat} {u : UInt32} {L' : im_L} {ins : Instr} (hD : im_D g m pc ins q) (hi : (∃ k, ins = .astore_n k ∧ (k : Nat) = i) ∨ ins = .astore i) (hm : i < am_mxl (im_G g) m) (hu : u.toNat < 900) (hL : im_s1 L i (.float u) = L') (k : im_T g d m q L' r e M K) : im_T g d m pc L (.float u :: r) e M K := by
  have hn : im_nsp ins = true := by rcases hi with ⟨k, rfl, _⟩ | rfl <;> rfl
  subst hL
  refine im_stp (t := q) hD hn (fun lv h => ⟨am_s1 lv i (.float u), ?_, h.s1 i _⟩) k
  rw [← hD.2.choose_spec.2]
  rcases hi with ⟨k, rfl, rfl⟩ | rfl
  · simp only [am_a, am_len]; rw [if_pos ⟨hm, hu⟩]
  · simp only [am_a, am_len]; rw [if_pos ⟨hm, hu⟩]
theorem im_iinc {i : Nat} {n x : Int} {L' : im_L} (hD : im_D g m pc (.iinc i n) q) (hl : L[i]? = some (some (vI x))) (hm : i < am_mxl (im_G g) m) (hL : im_s1 L i (vI (x + n)) = L') (k : im_T g d m q L' st e M K) : im_T g d m pc L st e M K := by
  subst hL
  refine im_stp (t := q) hD rfl (fun lv h => ⟨am_s1 lv i (vI (x + n)), ?_, h.s1 i _⟩) k
  rw [← hD.2.choose_spec.2]
  have h9 : am_ld lv i = some (.int (Int32.ofInt x)) := h i _ hl
  simp only [am_a, h9, am_len]
  rw [if_pos hm, vI, Int32.ofInt_add]
/-- jumps and branches -/
theorem im_goto {off : Int} {t : Nat} (hD : im_D g m pc (.goto off) q) (ht : am_to pc off = some t) (k : im_T g d m t L st e M K) : im_T g d m pc L st e M K :=
  im_stp (t := t) hD rfl (fun lv h => ⟨lv, by simp only [am_a, ht], h⟩) k
/-- what a branch asks, of whole numbers -/
def im_tst (c : Jvm.ClassFile.Cond) (x y : Int) : Prop := match c with
  | .eq => x = y
  | .ne => ¬ x = y
  | .lt => x < y
  | .ge => y ≤ x
  | .gt => y < x
  | .le => x ≤ y
theorem im_tst_ok {c : Jvm.ClassFile.Cond} {x y : Int} (hx : im_i32 x) (hy : im_i32 y) : am_tst c (Int32.ofInt x) (Int32.ofInt y) = true ↔ im_tst c x y := by
  cases c <;> simp only [am_tst, im_tst, decide_eq_true_eq, Int32.lt_iff_toInt_lt, Int32.le_iff_toInt_le, ← Int32.toInt_inj, im_o32 hx, im_o32 hy]
theorem im_icmp {c : Jvm.ClassFile.Cond} {off x y : Int} {t : Nat} (hD : im_D g m pc (.if_icmp c off) q) (ht : am_to pc off = some t) (hx : im_i32 x) (hy : im_i32 y) (k1 : im_tst c x y → im_T g d m t L r e M K) (k2 : ¬ im_tst c x y → im_T g d m q L r e M K) : im_T g d m pc L (vI y :: vI x :: r) e M K := by
  have e3 : pc + 3 = q := hD.2.choose_spec.2
  by_cases hc : im_tst c x y
  · refine im_stp (t := t) hD rfl (fun lv h => ⟨lv, ?_, h⟩) (k1 hc)
    simp only [am_a, vI, ht]
    rw [if_pos ((im_tst_ok hx hy).mpr hc)]
  · refine im_stp (t := q) hD rfl (fun lv h => ⟨lv, ?_, h⟩) (k2 hc)
    simp only [am_a, vI, ht]
    rw [if_neg (fun z => hc ((im_tst_ok hx hy).mp z)), e3]
theorem im_ifc {c : Jvm.ClassFile.Cond} {off x : Int} {t : Nat} (hD : im_D g m pc (.ifCond c off) q) (ht : am_to pc off = some t) (hx : im_i32 x) (k1 : im_tst c x 0 → im_T g d m t L r e M K) (k2 : ¬ im_tst c x 0 → im_T g d m q L r e M K) : im_T g d m pc L (vI x :: r) e M K := by
  have e3 : pc + 3 = q := hD.2.choose_spec.2
  have h0 : (0 : Int32) = Int32.ofInt 0 := rfl
  by_cases hc : im_tst c x 0
  · refine im_stp (t := t) hD rfl (fun lv h => ⟨lv, ?_, h⟩) (k1 hc)
    simp only [am_a, vI, ht]
    rw [h0, if_pos ((im_tst_ok hx (by decide)).mpr hc)]
  · refine im_stp (t := q) hD rfl (fun lv h => ⟨lv, ?_, h⟩) (k2 hc)
    simp only [am_a, vI, ht]
    rw [h0, if_neg (fun z => hc ((im_tst_ok hx (by decide)).mp z)), e3]
end IMR

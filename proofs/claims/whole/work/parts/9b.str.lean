/-! constant texts: length, charAt -/
theorem S3_0 {g : im_g} : im_D g 3 0 (.aload_n 0) 1 := im_D.of (by decide +kernel)
theorem S3_1 {g : im_g} : im_D g 3 1 (.getfield 9) 4 := im_D.of (by decide +kernel)
theorem S3_4 {g : im_g} : im_D g 3 4 (.arraylength) 5 := im_D.of (by decide +kernel)
theorem S3_5 {g : im_g} : im_D g 3 5 (.aload_n 0) 6 := im_D.of (by decide +kernel)
theorem S3_6 {g : im_g} : im_D g 3 6 (.invokevirtual 335) 9 := im_D.of (by decide +kernel)
theorem S3_9 {g : im_g} : im_D g 3 9 (.ishr) 10 := im_D.of (by decide +kernel)
theorem S3_10 {g : im_g} : im_D g 3 10 (.ireturn) 11 := im_D.of (by decide +kernel)
theorem S4_0 {g : im_g} : im_D g 4 0 (.getstatic 38) 3 := im_D.of (by decide +kernel)
theorem S4_3 {g : im_g} : im_D g 4 3 (.ifCond .eq 10) 6 := im_D.of (by decide +kernel)
theorem S4_6 {g : im_g} : im_D g 4 6 (.aload_n 0) 7 := im_D.of (by decide +kernel)
theorem S4_7 {g : im_g} : im_D g 4 7 (.getfield 15) 10 := im_D.of (by decide +kernel)
theorem S4_10 {g : im_g} : im_D g 4 10 (.goto 4) 13 := im_D.of (by decide +kernel)
theorem S4_13 {g : im_g} : im_D g 4 13 (.iconst 1) 14 := im_D.of (by decide +kernel)
theorem S4_14 {g : im_g} : im_D g 4 14 (.ireturn) 15 := im_D.of (by decide +kernel)
theorem S5_0 {g : im_g} : im_D g 5 0 (.aload_n 0) 1 := im_D.of (by decide +kernel)
theorem S5_1 {g : im_g} : im_D g 5 1 (.invokevirtual 492) 4 := im_D.of (by decide +kernel)
theorem S5_4 {g : im_g} : im_D g 5 4 (.ifCond .eq 12) 7 := im_D.of (by decide +kernel)
theorem S5_7 {g : im_g} : im_D g 5 7 (.aload_n 0) 8 := im_D.of (by decide +kernel)
theorem S5_8 {g : im_g} : im_D g 5 8 (.getfield 9) 11 := im_D.of (by decide +kernel)
theorem S5_11 {g : im_g} : im_D g 5 11 (.iload_n 1) 12 := im_D.of (by decide +kernel)
theorem S5_12 {g : im_g} : im_D g 5 12 (.invokestatic 495) 15 := im_D.of (by decide +kernel)
theorem S5_15 {g : im_g} : im_D g 5 15 (.ireturn) 16 := im_D.of (by decide +kernel)
theorem S5_16 {g : im_g} : im_D g 5 16 (.aload_n 0) 17 := im_D.of (by decide +kernel)
theorem S5_17 {g : im_g} : im_D g 5 17 (.getfield 9) 20 := im_D.of (by decide +kernel)
theorem S5_20 {g : im_g} : im_D g 5 20 (.iload_n 1) 21 := im_D.of (by decide +kernel)
theorem S5_21 {g : im_g} : im_D g 5 21 (.invokestatic 498) 24 := im_D.of (by decide +kernel)
theorem S5_24 {g : im_g} : im_D g 5 24 (.ireturn) 25 := im_D.of (by decide +kernel)
theorem S6_0 {g : im_g} : im_D g 6 0 (.getstatic 38) 3 := im_D.of (by decide +kernel)
theorem S6_3 {g : im_g} : im_D g 6 3 (.ifCond .eq 14) 6 := im_D.of (by decide +kernel)
theorem S6_6 {g : im_g} : im_D g 6 6 (.aload_n 0) 7 := im_D.of (by decide +kernel)
theorem S6_7 {g : im_g} : im_D g 6 7 (.getfield 15) 10 := im_D.of (by decide +kernel)
theorem S6_10 {g : im_g} : im_D g 6 10 (.ifCond .ne 7) 13 := im_D.of (by decide +kernel)
theorem S6_13 {g : im_g} : im_D g 6 13 (.iconst 1) 14 := im_D.of (by decide +kernel)
theorem S6_14 {g : im_g} : im_D g 6 14 (.goto 4) 17 := im_D.of (by decide +kernel)
theorem S6_17 {g : im_g} : im_D g 6 17 (.iconst 0) 18 := im_D.of (by decide +kernel)
theorem S6_18 {g : im_g} : im_D g 6 18 (.ireturn) 19 := im_D.of (by decide +kernel)
theorem S7_0 {g : im_g} : im_D g 7 0 (.iload_n 1) 1 := im_D.of (by decide +kernel)
theorem S7_1 {g : im_g} : im_D g 7 1 (.aload_n 0) 2 := im_D.of (by decide +kernel)
theorem S7_2 {g : im_g} : im_D g 7 2 (.arraylength) 3 := im_D.of (by decide +kernel)
theorem S7_3 {g : im_g} : im_D g 7 3 (.invokestatic 9) 6 := im_D.of (by decide +kernel)
theorem S7_6 {g : im_g} : im_D g 7 6 (.aload_n 0) 7 := im_D.of (by decide +kernel)
theorem S7_7 {g : im_g} : im_D g 7 7 (.iload_n 1) 8 := im_D.of (by decide +kernel)
theorem S7_8 {g : im_g} : im_D g 7 8 (.baload) 9 := im_D.of (by decide +kernel)
theorem S7_9 {g : im_g} : im_D g 7 9 (.sipush 255) 12 := im_D.of (by decide +kernel)
theorem S7_12 {g : im_g} : im_D g 7 12 (.iand) 13 := im_D.of (by decide +kernel)
theorem S7_13 {g : im_g} : im_D g 7 13 (.i2c) 14 := im_D.of (by decide +kernel)
theorem S7_14 {g : im_g} : im_D g 7 14 (.ireturn) 15 := im_D.of (by decide +kernel)
theorem S8_0 {g : im_g} : im_D g 8 0 (.iload_n 0) 1 := im_D.of (by decide +kernel)
theorem S8_1 {g : im_g} : im_D g 8 1 (.iload_n 1) 2 := im_D.of (by decide +kernel)
theorem S8_2 {g : im_g} : im_D g 8 2 (.getstatic 1053) 5 := im_D.of (by decide +kernel)
theorem S8_5 {g : im_g} : im_D g 8 5 (.invokestatic 1059) 8 := im_D.of (by decide +kernel)
theorem S8_8 {g : im_g} : im_D g 8 8 (.pop) 9 := im_D.of (by decide +kernel)
theorem S8_9 {g : im_g} : im_D g 8 9 (.return_) 10 := im_D.of (by decide +kernel)
theorem S9_0 {g : im_g} : im_D g 9 0 (.iload_n 0) 1 := im_D.of (by decide +kernel)
theorem S9_1 {g : im_g} : im_D g 9 1 (.ifCond .lt 8) 4 := im_D.of (by decide +kernel)
theorem S9_4 {g : im_g} : im_D g 9 4 (.iload_n 0) 5 := im_D.of (by decide +kernel)
theorem S9_5 {g : im_g} : im_D g 9 5 (.iload_n 1) 6 := im_D.of (by decide +kernel)
theorem S9_6 {g : im_g} : im_D g 9 6 (.if_icmp .lt 10) 9 := im_D.of (by decide +kernel)
theorem S9_9 {g : im_g} : im_D g 9 9 (.aload_n 2) 10 := im_D.of (by decide +kernel)
theorem S9_10 {g : im_g} : im_D g 9 10 (.iload_n 0) 11 := im_D.of (by decide +kernel)
theorem S9_11 {g : im_g} : im_D g 9 11 (.iload_n 1) 12 := im_D.of (by decide +kernel)
theorem S9_12 {g : im_g} : im_D g 9 12 (.invokestatic 95) 15 := im_D.of (by decide +kernel)
theorem S9_15 {g : im_g} : im_D g 9 15 (.athrow) 16 := im_D.of (by decide +kernel)
theorem S9_16 {g : im_g} : im_D g 9 16 (.iload_n 0) 17 := im_D.of (by decide +kernel)
theorem S9_17 {g : im_g} : im_D g 9 17 (.ireturn) 18 := im_D.of (by decide +kernel)
def tx (u : UInt32) : List Int32 := am_txt.getD (am_tn u.toNat) []
section STRS
variable {g : im_g} {d : Nat} {e : im_E} {M : im_M} {K : im_K} {u : UInt32}
theorem c_coder (hu : Nat.blt u.toNat 30 = true) (hK : K (.inl (some (vI 0))) e M) : im_T g d 4 0 [some (.float u)] [] e M K := by
  have hu2 : u.toNat < 30 := Nat.le_of_ble_eq_true hu
  refine im_spc (q := 3) (st' := vI 1 :: _) rfl ?_
  refine im_ifc (q := 6) (t := 13) S4_3 rfl (by decide) (fun h => absurd (show (1 : Int) = 0 from h) (by decide)) (fun _ => ?_)
  refine im_ld (q := 7) (i := 0) (v := .float u) S4_6 rfl rfl (im_u9 hu) ?_
  refine im_spc (q := 10) (st' := [vI 0]) ?_ ?_
  · show (if u.toNat < 30 then _ else none) = _
    rw [if_pos hu2]
    rfl
  refine im_goto (q := 13) (t := 14) S4_10 rfl ?_
  exact im_retG (q := 15) (v := some (vI 0)) S4_14 rfl (fun _ => rfl) (fun _ => rfl) rfl hK
theorem c_isLatin1 (hu : Nat.blt u.toNat 30 = true) (hK : K (.inl (some (vI 1))) e M) : im_T g d 6 0 [some (.float u)] [] e M K := by
  have hu2 : u.toNat < 30 := Nat.le_of_ble_eq_true hu
  refine im_spc (q := 3) (st' := vI 1 :: _) rfl ?_
  refine im_ifc (q := 6) (t := 17) S6_3 rfl (by decide) (fun h => absurd (show (1 : Int) = 0 from h) (by decide)) (fun _ => ?_)
  refine im_ld (q := 7) (i := 0) (v := .float u) S6_6 rfl rfl (im_u9 hu) ?_
  refine im_spc (q := 10) (st' := [vI 0]) ?_ ?_
  · show (if u.toNat < 30 then _ else none) = _
    rw [if_pos hu2]
    rfl
  refine im_ifc (q := 13) (t := 17) S6_10 rfl (by decide) (fun h => absurd rfl h) (fun _ => ?_)
  refine im_iconst (q := 14) S6_13 ?_
  refine im_goto (q := 17) (t := 18) S6_14 rfl ?_
  exact im_zret (q := 19) S6_18 rfl (by decide) hK
theorem u30 (hu : u.toNat < 20) : (UInt32.ofNat (30 + u.toNat)).toNat = 30 + u.toNat := by
  show (30 + u.toNat) % 2 ^ 32 = _
  omega
theorem c_len (hu : u.toNat < 20) {m pc n : Nat} {r : List Value} {len : Nat} (hD : (am_2 am_tbs [] m).lookup pc = some (.arraylength, len)) (hn : (tx u).length = n) : am_spc (im_G g) m pc (.float (UInt32.ofNat (30 + u.toNat)) :: r) = some (pc + 1, vI n :: r) := by
  show am_sp g.1 g.2 m pc (Value.float (UInt32.ofNat (30 + u.toNat)) :: r) = some (pc + 1, vI (n : Int) :: r)
  unfold am_sp
  rw [hD]
  show (if UInt32.ofNat (30 + u.toNat) = 200 then _ else if 30 ≤ (UInt32.ofNat (30 + u.toNat)).toNat ∧ (UInt32.ofNat (30 + u.toNat)).toNat < 60 then some (pc + 1, Value.int (Int32.ofNat (am_txt.getD (am_tn ((UInt32.ofNat (30 + u.toNat)).toNat - 30)) []).length) :: r) else none) = _
  rw [if_neg (fun z => by have := congrArg UInt32.toNat z; rw [u30 hu] at this; have h2 : (200 : UInt32).toNat = 200 := rfl; rw [h2] at this; omega), u30 hu, if_pos (by omega), Nat.add_sub_cancel_left]
  have h3 : (am_txt.getD (am_tn u.toNat) []).length = n := hn
  rw [h3]
  rfl
theorem c_slen {n : Nat} (hu : u.toNat < 20) (hn : (tx u).length = n) (hn2 : n < 2000) (hd : 1 ≤ d) (hK : K (.inl (some (vI n))) e M) : im_T g d 3 0 [some (.float u)] [] e M K := by
  have hub : Nat.blt u.toNat 30 = true := Nat.ble_eq_true_of_le (by omega)
  refine im_ld (q := 1) (i := 0) (v := .float u) S3_0 rfl rfl (im_u9 hub) ?_
  refine im_spc (q := 4) (st' := [.float (UInt32.ofNat (30 + u.toNat))]) ?_ ?_
  · show (if u.toNat < 30 then _ else none) = _
    rw [if_pos (by omega)]
    rfl
  refine im_spc (q := 5) (st' := vI n :: _) (c_len hu rfl hn) ?_
  refine im_ld (q := 6) (i := 0) (v := .float u) S3_5 rfl rfl (im_u9 hub) ?_
  refine im_callF (q := 9) (kd := 9) (y := 4) (n := 0) (z := 0) (u := u) (vs := [.float u]) (r := [vI n]) (L2 := [some (.float u)]) S3_6 rfl rfl rfl hub rfl rfl rfl hd ⟨rfl, trivial⟩ ?_
  refine c_coder hub ?_
  refine im_bkS ?_
  refine im_ishr (q := 10) S3_9 ?_
  have h5 : xishr n 0 = n := by
    unfold xishr
    have h6 : (Int32.ofInt 0 &&& 31 : Int32) = 0 := by decide
    rw [h6]
    have h7 : (Int32.ofInt n >>> (0 : Int32)) = Int32.ofInt n := by
      apply Int32.toBitVec_inj.mp
      show (BitVec.ofInt 32 n).sshiftRight' ((0#32).smod 32#32) = BitVec.ofInt 32 n
      rw [show (0#32).smod 32#32 = 0#32 from by decide]
      simp
    rw [h7, Int32.toInt_ofInt_of_le (by omega) (by omega)]
  rw [h5]
  exact im_iret (q := 11) S3_10 rfl hK
theorem c_preIndex {i n : Int} {v : UInt32} (h0 : 0 ≤ i) (h1 : i < n) (h2 : n < 2000) (hv : Nat.blt v.toNat 1000 = true) (hK : K (.inl (some (vI i))) e M) : im_T g d 9 0 [some (vI i), some (vI n), some (.float v)] [] e M K := by
  refine im_ld (q := 1) (i := 0) (v := vI i) S9_0 rfl rfl rfl ?_
  refine im_ifc (q := 4) (t := 9) S9_1 rfl (by constructor <;> omega) (fun h => absurd h (by show ¬ i < 0; omega)) (fun _ => ?_)
  refine im_ld (q := 5) (i := 0) (v := vI i) S9_4 rfl rfl rfl ?_
  refine im_ld (q := 6) (i := 1) (v := vI n) S9_5 rfl rfl rfl ?_
  refine im_icmp (q := 9) (t := 16) S9_6 rfl (by constructor <;> omega) (by constructor <;> omega) (fun _ => ?_) (fun h => absurd h1 h)
  refine im_ld (q := 17) (i := 0) (v := vI i) S9_16 rfl rfl rfl ?_
  exact im_iret (q := 18) S9_17 rfl hK
theorem c_checkIndex {i n : Int} (h0 : 0 ≤ i) (h1 : i < n) (h2 : n < 2000) (hd : 1 ≤ d) (hK : K (.inl none) e M) : im_T g d 8 0 [some (vI i), some (vI n)] [] e M K := by
  refine im_ld (q := 1) (i := 0) (v := vI i) S8_0 rfl rfl rfl ?_
  refine im_ld (q := 2) (i := 1) (v := vI n) S8_1 rfl rfl rfl ?_
  refine im_spc (q := 5) (st' := .float 999 :: _) rfl ?_
  refine im_callS (q := 8) (kd := 0) (y := 9) (n := 3) (z := 0) (vs := [vI i, vI n, .float 999]) (r := []) (L2 := [some (vI i), some (vI n), some (.float 999)]) S8_5 rfl rfl (Or.inl rfl) rfl rfl rfl rfl rfl hd ⟨rfl, rfl, rfl, trivial⟩ ?_
  refine c_preIndex h0 h1 h2 rfl ?_
  refine im_bkS ?_
  refine im_pop (q := 9) S8_8 rfl ?_
  exact im_vret (q := 10) S8_9 rfl hK
theorem cret {x : Int} (h0 : 0 ≤ x) (h1 : x < 65536) : am_rt (some FieldType.char) .ireturn [vI x] = some (some (vI x)) := by
  have hv : narrow .char (vI x) = vI x := by
    show Value.int ((Int32.ofInt x).toUInt32.toUInt16.toUInt32.toInt32) = Value.int (Int32.ofInt x)
    congr 1
    apply Int32.toBitVec_inj.mp
    apply BitVec.eq_of_toNat_eq
    show (((BitVec.ofInt 32 x).setWidth 16).setWidth 32).toNat = (BitVec.ofInt 32 x).toNat
    rw [BitVec.toNat_setWidth, BitVec.toNat_setWidth, BitVec.toNat_ofInt]
    omega
  show (if narrow .char (vI x) = vI x then some (some (vI x)) else none) = _
  rw [if_pos hv]
theorem c_charL {n : Nat} {i : Nat} (hu : u.toNat < 20) (hn : (tx u).length = n) (hn2 : n < 2000) (hi : i < n) (hc : 0 ≤ ((tx u).getD i 0).toInt ∧ ((tx u).getD i 0).toInt < 256) (hd : 2 ≤ d) (hK : K (.inl (some (vI ((tx u).getD i 0).toInt))) e M) : im_T g d 7 0 [some (.float (UInt32.ofNat (30 + u.toNat))), some (vI i)] [] e M K := by
  have hub : Nat.blt (UInt32.ofNat (30 + u.toNat)).toNat 900 = true := Nat.ble_eq_true_of_le (by rw [u30 hu]; omega)
  refine im_ld (q := 1) (i := 1) (v := vI i) S7_0 rfl rfl rfl ?_
  refine im_ld (q := 2) (i := 0) (v := .float (UInt32.ofNat (30 + u.toNat))) S7_1 rfl rfl hub ?_
  refine im_spc (q := 3) (st' := vI n :: _) (c_len hu rfl hn) ?_
  refine im_callS (q := 6) (kd := 0) (y := 8) (n := 2) (z := 0) (vs := [vI i, vI n]) (r := []) (L2 := [some (vI i), some (vI n)]) S7_3 rfl rfl (Or.inl rfl) rfl rfl rfl rfl rfl (by omega) ⟨rfl, rfl, trivial⟩ ?_
  refine c_checkIndex (by omega) (by omega) (by omega) (by omega) ?_
  refine im_bkN ?_
  refine im_ld (q := 7) (i := 0) (v := .float (UInt32.ofNat (30 + u.toNat))) S7_6 rfl rfl hub ?_
  refine im_ld (q := 8) (i := 1) (v := vI i) S7_7 rfl rfl rfl ?_
  refine im_spc (q := 9) (st' := [vI ((tx u).getD i 0).toInt]) ?_ ?_
  · have hcl : (Int32.ofInt (i : Int)).toNatClampNeg = i := by
      show (Int32.ofInt (i : Int)).toInt.toNat = i
      rw [Int32.toInt_ofInt_of_le (by omega) (by omega)]
      omega
    have hnn : ¬ Int32.ofInt (i : Int) < 0 := by
      rw [Int32.lt_iff_toInt_lt, Int32.toInt_ofInt_of_le (by omega) (by omega)]
      have : (0 : Int32).toInt = 0 := rfl
      omega
    show (if (30 ≤ (UInt32.ofNat (30 + u.toNat)).toNat ∧ (UInt32.ofNat (30 + u.toNat)).toNat < 60) ∧ ¬ (Int32.ofInt (i : Int) < 0 ∨ (am_txt.getD (am_tn ((UInt32.ofNat (30 + u.toNat)).toNat - 30)) []).length ≤ (Int32.ofInt (i : Int)).toNatClampNeg) then some (8 + 1, Value.int ((am_txt.getD (am_tn ((UInt32.ofNat (30 + u.toNat)).toNat - 30)) []).getD (Int32.ofInt (i : Int)).toNatClampNeg 0) :: _) else none) = _
    rw [u30 hu, Nat.add_sub_cancel_left, hcl]
    have h3 : (am_txt.getD (am_tn u.toNat) []).length = n := hn
    rw [h3, if_pos ⟨by omega, fun z => by rcases z with z | z; exact hnn z; omega⟩]
    show some (8 + 1, Value.int ((tx u).getD i 0) :: _) = some (9, Value.int (Int32.ofInt ((tx u).getD i 0).toInt) :: _)
    rw [Int32.ofInt_toInt]
  refine im_sipush (q := 12) S7_9 rfl ?_
  refine im_iand (q := 13) S7_12 ?_
  rw [xiand_255, show ((tx u).getD i 0).toInt % 256 = ((tx u).getD i 0).toInt from by omega]
  refine im_i2c (q := 14) S7_13 (by omega) (by omega) ?_
  refine im_retG (q := 15) (v := some (vI ((tx u).getD i 0).toInt)) S7_14 rfl (fun _ => rfl) (fun _ => rfl) ?_ hK
  exact cret hc.1 (by omega)
theorem c_char {n : Nat} {i : Nat} (hu : u.toNat < 20) (hn : (tx u).length = n) (hn2 : n < 2000) (hi : i < n) (hc : 0 ≤ ((tx u).getD i 0).toInt ∧ ((tx u).getD i 0).toInt < 256) (hd : 3 ≤ d) (hK : K (.inl (some (vI ((tx u).getD i 0).toInt))) e M) : im_T g d 5 0 [some (.float u), some (vI i)] [] e M K := by
  have hub : Nat.blt u.toNat 30 = true := Nat.ble_eq_true_of_le (by omega)
  refine im_ld (q := 1) (i := 0) (v := .float u) S5_0 rfl rfl (im_u9 hub) ?_
  refine im_callF (q := 4) (kd := 9) (y := 6) (n := 0) (z := 0) (u := u) (vs := [.float u]) (r := []) (L2 := [some (.float u)]) S5_1 rfl rfl rfl hub rfl rfl rfl (by omega) ⟨rfl, trivial⟩ ?_
  refine c_isLatin1 hub ?_
  refine im_bkS ?_
  refine im_ifc (q := 7) (t := 16) S5_4 rfl (by decide) (fun h => absurd (show (1 : Int) = 0 from h) (by decide)) (fun _ => ?_)
  refine im_ld (q := 8) (i := 0) (v := .float u) S5_7 rfl rfl (im_u9 hub) ?_
  refine im_spc (q := 11) (st' := [.float (UInt32.ofNat (30 + u.toNat))]) ?_ ?_
  · show (if u.toNat < 30 then _ else none) = _
    rw [if_pos (by omega)]
    rfl
  refine im_ld (q := 12) (i := 1) (v := vI i) S5_11 rfl rfl rfl ?_
  refine im_callS (q := 15) (kd := 0) (y := 7) (n := 2) (z := 0) (vs := [.float (UInt32.ofNat (30 + u.toNat)), vI i]) (r := []) (L2 := [some (.float (UInt32.ofNat (30 + u.toNat))), some (vI i)]) S5_12 rfl rfl (Or.inl rfl) rfl rfl rfl rfl rfl (by omega) ⟨rfl, rfl, trivial⟩ ?_
  refine c_charL hu hn hn2 hi hc (by omega) ?_
  refine im_bkS ?_
  refine im_retG (q := 16) (v := some (vI ((tx u).getD i 0).toInt)) S5_15 rfl (fun _ => rfl) (fun _ => rfl) ?_ hK
  exact cret hc.1 (by omega)
end STRS

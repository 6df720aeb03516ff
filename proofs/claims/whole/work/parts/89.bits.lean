/-! bits of whole numbers -/
theorem xiand_255 (x : Int) : xiand x 255 = x % 256 := by
  unfold xiand
  have h : (Int32.ofInt x &&& Int32.ofInt 255).toBitVec = BitVec.ofInt 32 x &&& 255#32 := rfl
  rw [← Int32.toInt_toBitVec, h]
  have h2 : (BitVec.ofInt 32 x &&& 255#32).toNat = (x % 256).toNat := by
    rw [BitVec.toNat_and, BitVec.toNat_ofInt]
    show ((x % ((2 ^ 32 : Nat) : Int)).toNat &&& (2 ^ 8 - 1)) = _
    rw [Nat.and_two_pow_sub_one_eq_mod]
    omega
  rw [BitVec.toInt_eq_toNat_of_lt (by rw [h2]; omega), h2]
  omega
theorem xland_255 (x : Int) : xland x 255 = x % 256 := by
  unfold xland
  have h : (Int64.ofInt x &&& Int64.ofInt 255).toBitVec = BitVec.ofInt 64 x &&& 255#64 := rfl
  rw [← Int64.toInt_toBitVec, h]
  have h2 : (BitVec.ofInt 64 x &&& 255#64).toNat = (x % 256).toNat := by
    rw [BitVec.toNat_and, BitVec.toNat_ofInt]
    show ((x % ((2 ^ 64 : Nat) : Int)).toNat &&& (2 ^ 8 - 1)) = _
    rw [Nat.and_two_pow_sub_one_eq_mod]
    omega
  rw [BitVec.toInt_eq_toNat_of_lt (by rw [h2]; omega), h2]
  omega
theorem xlshl_8 {v : Int} (h0 : 0 ≤ v) (h1 : v < 36028797018963968) : xlshl v 8 = v * 256 := by
  unfold xlshl
  have hs : ((Int32.ofInt 8).toInt64 &&& 63 : Int64) = 8 := by decide
  rw [hs]
  have h : (Int64.ofInt v <<< (8 : Int64)).toBitVec = BitVec.ofInt 64 v <<< ((8#64).smod 64#64) := rfl
  have hm : (8#64).smod 64#64 = 8#64 := by decide
  rw [← Int64.toInt_toBitVec, h, hm]
  have h2 : (BitVec.ofInt 64 v <<< (8#64)).toNat = (v * 256).toNat := by
    rw [BitVec.shiftLeft_eq', BitVec.toNat_shiftLeft, BitVec.toNat_ofInt, Nat.shiftLeft_eq]
    show (v % ((2 ^ 64 : Nat) : Int)).toNat * 2 ^ 8 % 2 ^ 64 = _
    omega
  rw [BitVec.toInt_eq_toNat_of_lt (by rw [h2]; omega), h2]
  omega
theorem xlor_8 {v b : Int} (h0 : 0 ≤ v) (h1 : v < 36028797018963968) (b0 : 0 ≤ b) (b1 : b < 256) : xlor (xlshl v 8) b = v * 256 + b := by
  rw [xlshl_8 h0 h1]
  unfold xlor
  have h : (Int64.ofInt (v * 256) ||| Int64.ofInt b).toBitVec = BitVec.ofInt 64 (v * 256) ||| BitVec.ofInt 64 b := rfl
  rw [← Int64.toInt_toBitVec, h]
  have h2 : (BitVec.ofInt 64 (v * 256) ||| BitVec.ofInt 64 b).toNat = (v * 256 + b).toNat := by
    rw [BitVec.toNat_or, BitVec.toNat_ofInt, BitVec.toNat_ofInt]
    have e1 : ((v * 256) % ((2 ^ 64 : Nat) : Int)).toNat = v.toNat <<< 8 := by rw [Nat.shiftLeft_eq]; omega
    have e2 : (b % ((2 ^ 64 : Nat) : Int)).toNat = b.toNat := by omega
    rw [e1, e2, ← Nat.shiftLeft_add_eq_or_of_lt (by omega), Nat.shiftLeft_eq]
    omega
  rw [BitVec.toInt_eq_toNat_of_lt (by rw [h2]; omega), h2]
  omega
theorem xsh_amt : ∀ k : Fin 64, (((Int32.ofInt ((k : Nat) : Int)).toInt64 &&& 63).toBitVec.smod 64#64).toNat = (k : Nat) := by decide +kernel
theorem xsh_amtu : ∀ k : Fin 64, (((Int32.ofInt ((k : Nat) : Int)).toInt64.toUInt64 &&& Int64.toUInt64 63).toBitVec % 64#64).toNat = (k : Nat) := by decide +kernel
theorem xlshr_n {v : Int} {k : Nat} (h0 : -9223372036854775808 ≤ v) (h1 : v ≤ 9223372036854775807) (hk : k < 64) : xlshr v k = v / 2 ^ k := by
  unfold xlshr
  have h : (Int64.ofInt v >>> ((Int32.ofInt (k : Int)).toInt64 &&& 63)).toBitVec = (BitVec.ofInt 64 v).sshiftRight' (((Int32.ofInt (k : Int)).toInt64 &&& 63).toBitVec.smod 64#64) := rfl
  rw [← Int64.toInt_toBitVec, h]
  have ha := xsh_amt ⟨k, hk⟩
  show ((BitVec.ofInt 64 v).sshiftRight (((Int32.ofInt (k : Int)).toInt64 &&& 63).toBitVec.smod 64#64).toNat).toInt = _
  rw [show (((Int32.ofInt (k : Int)).toInt64 &&& 63).toBitVec.smod 64#64).toNat = k from ha, BitVec.toInt_sshiftRight, BitVec.toInt_ofInt_eq_self (by decide) (by omega) (by omega), Int.shiftRight_eq_div_pow]
  rfl
theorem xlushr_n {v : Int} {k : Nat} (hk : k < 64) (h : v % 18446744073709551616 / 2 ^ k < 9223372036854775808) : xlushr v k = v % 18446744073709551616 / 2 ^ k := by
  unfold xlushr
  have h9 : ((Int64.ofInt v).toUInt64 >>> ((Int32.ofInt (k : Int)).toInt64.toUInt64 &&& Int64.toUInt64 63)).toInt64.toBitVec = BitVec.ofInt 64 v >>> (((Int32.ofInt (k : Int)).toInt64.toUInt64 &&& Int64.toUInt64 63).toBitVec % 64#64) := rfl
  rw [← Int64.toInt_toBitVec, h9, BitVec.ushiftRight_eq']
  have ha := xsh_amtu ⟨k, hk⟩
  rw [show (((Int32.ofInt (k : Int)).toInt64.toUInt64 &&& Int64.toUInt64 63).toBitVec % 64#64).toNat = k from ha]
  have hnn : 0 ≤ v % 18446744073709551616 := by omega
  have h2 : ((BitVec.ofInt 64 v >>> k).toNat : Int) = v % 18446744073709551616 / 2 ^ k := by
    rw [BitVec.toNat_ushiftRight, BitVec.toNat_ofInt, Nat.shiftRight_eq_div_pow]
    have e1 : (v % ((2 ^ 64 : Nat) : Int)).toNat = (v % 18446744073709551616).toNat := by omega
    rw [e1, Int.natCast_ediv, Int.toNat_of_nonneg hnn]
    rw [Int.natCast_pow]
    rfl
  rw [BitVec.toInt_eq_toNat_of_lt (by omega), h2]

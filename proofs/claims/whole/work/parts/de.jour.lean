/-! THE JOURNAL: bytes of a record, and how far they come -/
def mx (c b : Int) : Int := ((xixor c (b % 256)) * 16777619).bmod 4294967296
def chk (β : Int → Int) : Nat → Int
  | 0 => -2128831035
  | k + 1 => mx (chk β k) (β k)
theorem chk_congr {β γ : Int → Int} : ∀ k : Nat, (∀ i : Int, 0 ≤ i → i < k → β i = γ i) → chk β k = chk γ k := by
  intro k
  induction k with
  | zero => intro _; rfl
  | succ k ih =>
    intro h
    show mx _ _ = mx _ _
    rw [ih (fun i a b => h i a (by omega)), h k (by omega) (by omega)]
theorem mx_i32 (c b : Int) : im_i32 (mx c b) := bm_i32 _
theorem chk_i32 (β : Int → Int) (k : Nat) : im_i32 (chk β k) := by
  cases k with
  | zero => show im_i32 (-2128831035); decide
  | succ k => exact mx_i32 _ _
theorem mx_m (c b : Int) : mx c (b % 256) = mx c b := by unfold mx; rw [Int.emod_emod_of_dvd _ (Int.dvd_refl _)]
def pl4 (c p : Int) : Int := mx (mx (mx (mx c (p / 16777216)) (p / 65536)) (p / 256)) p
/-- the bytes of a record before its check -/
def rbt (kd many len a b c : Int) (t : Int → Int) (i : Int) : Int :=
  if i = 0 then len / 256 else if i = 1 then len % 256 else if i = 2 then kd else if i < 3 + 8 * many then ((if (i - 3) / 8 = 0 then a else if (i - 3) / 8 = 1 then b else c) / 2 ^ (56 - 8 * ((i - 3) % 8)).toNat) % 256 else t (i - (3 + 8 * many))
def rck (kd many len a b c : Int) (t : Int → Int) (u : Int) : Int := pl4 (chk (rbt kd many len a b c t) (len - 4).toNat) u
def rby (kd many len a b c : Int) (t : Int → Int) (u i : Int) : Int := if i < len - 4 then rbt kd many len a b c t i else (rck kd many len a b c t u / 2 ^ (24 - 8 * (i - (len - 4))).toNat) % 256
/-- how many bytes come to the disk -/
def cnt (lf : Int) (i : Int) : Int := if lf < 0 then i else if i ≤ lf then i else lf
def lft (lf i : Int) : Int := if lf < 0 then lf else lf - cnt lf i
def drk (lf i : Int) : Int := if 0 ≤ lf ∧ lf < i then 1 else 0
def wrD (dk : Int → Int) (u : Int) (β : Int → Int) (c x : Int) : Int := if u ≤ x ∧ x < u + c then β (x - u) else dk x
theorem wrD_s {dk β : Int → Int} {u c x : Int} (hc : 0 ≤ c) : wrD dk u β (c + 1) x = if x = u + c then β c else wrD dk u β c x := by
  unfold wrD
  by_cases h : x = u + c
  · rw [if_pos h, if_pos (by omega), h]
    have : u + c - u = c := by omega
    rw [this]
  · rw [if_neg h]
    by_cases h2 : u ≤ x ∧ x < u + c
    · rw [if_pos h2, if_pos (by omega)]
    · rw [if_neg h2, if_neg (by omega)]
theorem bm8 (b : Int) : (b.bmod 256).bmod 256 = if b % 256 < 128 then b % 256 else b % 256 - 256 := by
  rw [Int.bmod_bmod]
  unfold Int.bmod
  dsimp only
  split <;> split <;> omega
theorem txt_set {B D : Int → Int} {p b n x : Int} (h : txt B D n) (hx : x = (b.bmod 256).bmod 256) : txt (fun i => if i = p then x else B i) (fun i => if i = p then b % 256 else D i) n := by
  intro i i0 i1
  dsimp only
  by_cases hp : i = p
  · rw [if_pos hp, if_pos hp, hx, bm8]
    split <;> omega
  · rw [if_neg hp, if_neg hp]; exact h i i0 i1
/-- the class's disk while a record is written -/
def JP (M : im_M) (dk : Int → Int) (u lf : Int) (β : Int → Int) (i : Nat) : Prop := M 2068 5 = u + cnt lf i ∧ M 2068 3 = lft lf i ∧ M 2068 4 = drk lf i ∧ M 2068 6 = chk β i ∧ txt (M 2069) (wrD dk u β (cnt lf i)) 16384
def JF (M M' : im_M) : Prop := (∀ x, x ≠ 2068 → x ≠ 2069 → M' x = M x) ∧ (∀ k, k < 3 ∨ 6 < k → M' 2068 k = M 2068 k)
theorem JF.rf (M : im_M) : JF M M := ⟨fun _ _ _ => rfl, fun _ _ => rfl⟩
theorem JF.trans {M M1 M2 : im_M} (h : JF M M1) (h' : JF M1 M2) : JF M M2 := ⟨fun x a b => (h'.1 x a b).trans (h.1 x a b), fun k a => (h'.2 k a).trans (h.2 k a)⟩
theorem txt_congr {B B' D D' : Int → Int} {n : Int} (h : txt B D n) (hb : ∀ i, 0 ≤ i → i < n → B' i = B i) (hd : ∀ i, 0 ≤ i → i < n → D' i = D i) : txt B' D' n := fun i a b => by
  rw [hb i a b, hd i a b]; exact h i a b
theorem xlu8 {v : Int} {k : Nat} (h0 : -9223372036854775808 ≤ v) (h1 : v ≤ 9223372036854775807) (hk : k = 0 ∨ k = 8 ∨ k = 16 ∨ k = 24 ∨ k = 32 ∨ k = 40 ∨ k = 48 ∨ k = 56) : xlushr v k % 256 = v / 2 ^ k % 256 := by
  rcases hk with rfl | hk
  · have h0' : xlushr v ((0 : Nat) : Int) = v := by
      unfold xlushr
      have h9 : ((Int64.ofInt v).toUInt64 >>> ((Int32.ofInt (((0 : Nat) : Int))).toInt64.toUInt64 &&& Int64.toUInt64 63)).toInt64.toBitVec = BitVec.ofInt 64 v >>> (((Int32.ofInt (((0 : Nat) : Int))).toInt64.toUInt64 &&& Int64.toUInt64 63).toBitVec % 64#64) := rfl
      rw [← Int64.toInt_toBitVec, h9, BitVec.ushiftRight_eq']
      have ha := xsh_amtu ⟨0, by decide⟩
      rw [show (((Int32.ofInt (((0 : Nat) : Int))).toInt64.toUInt64 &&& Int64.toUInt64 63).toBitVec % 64#64).toNat = 0 from ha, BitVec.ushiftRight_zero, BitVec.toInt_ofInt_eq_self (by decide) (by omega) (by omega)]
    rw [h0']
    have : v / 2 ^ 0 = v := by omega
    rw [this]
  · have hlt : k < 64 := by omega
    rw [xlushr_n hlt (by rcases hk with rfl | rfl | rfl | rfl | rfl | rfl | rfl <;> omega)]
    rcases hk with rfl | rfl | rfl | rfl | rfl | rfl | rfl <;> omega
theorem xshi_amtu : ∀ k : Fin 32, ((((Int32.ofInt ((k : Nat) : Int)).toUInt32 &&& Int32.toUInt32 31)).toBitVec % 32#32).toNat = (k : Nat) := by decide
theorem xiu8 {p : Int} {k : Nat} (h0 : 0 ≤ p) (h1 : p ≤ 2147483647) (hk : k < 32) : xiushr p k = p / 2 ^ k := by
  unfold xiushr
  have h9 : ((Int32.ofInt p).toUInt32 >>> ((Int32.ofInt (k : Int)).toUInt32 &&& Int32.toUInt32 31)).toInt32.toBitVec = BitVec.ofInt 32 p >>> (((Int32.ofInt (k : Int)).toUInt32 &&& Int32.toUInt32 31).toBitVec % 32#32) := rfl
  rw [← Int32.toInt_toBitVec, h9, BitVec.ushiftRight_eq']
  have ha := xshi_amtu ⟨k, hk⟩
  rw [show ((((Int32.ofInt (k : Int)).toUInt32 &&& Int32.toUInt32 31)).toBitVec % 32#32).toNat = k from ha]
  have h2 : ((BitVec.ofInt 32 p >>> k).toNat : Int) = p / 2 ^ k := by
    rw [BitVec.toNat_ushiftRight, BitVec.toNat_ofInt, Nat.shiftRight_eq_div_pow]
    have e1 : (p % ((2 ^ 32 : Nat) : Int)).toNat = p.toNat := by omega
    rw [e1, Int.natCast_ediv, Int.toNat_of_nonneg h0, Int.natCast_pow]
    rfl
  have h3 : p / 2 ^ k ≤ p := Int.ediv_le_self _ h0
  rw [BitVec.toInt_eq_toNat_of_lt (by omega), h2]
section JOUR
variable {g : im_g} {d : Nat} {e : im_E} {M M0 : im_M} {K : im_K} {dk β : Int → Int} {u lf : Int}
theorem c_mixed {c b : Int} (hK : K (.inl (some (vI (mx c b)))) e M) : im_T g d 31 0 [some (vI c), some (vI b)] [] e M K := by
  refine k_Journal_mixed_0 ?_
  rw [xiand_255, ← vI_bm]
  exact hK
theorem c_putByte {b : Int} {i : Nat} (h : JP M dk u lf β i) (hb : b % 256 = β i) (hu : 0 ≤ u ∧ u + i < 16384) (hl : im_i32 lf) (hd : 1 ≤ d) (hK : ∀ M', JF M M' → JP M' dk u lf β (i + 1) → K (.inl none) e M') : im_T g d 81 0 [some (.ref 2068), some (vI b)] [] e M K := by
  obtain ⟨h5, h3, h4, h6, hT⟩ := h
  refine k_Journal_putByte_0 hd ?_
  rw [h6]
  refine c_mixed ⟨_, rfl, rfl, mx_i32 _ _, ?_⟩
  have hc : mx (chk β i) b = chk β (i + 1) := by show _ = mx _ (β i); rw [← hb, mx_m]
  rw [hc, h3, h4, h5]
  unfold lft drk cnt
  unfold lft at h3
  unfold drk at h4
  unfold cnt at h5 h3 hT
  have e1 : ∀ (N : im_M) (w : Int), im_u N 2068 6 w 2069 = N 2069 := fun N w => im_u_ne _ _ _ (by decide)
  refine ⟨fun hne => ⟨fun hd0 => ?_, fun hor => ?_⟩, fun h0 => ?_⟩
  · have hcase : lf < 0 ∨ (i : Int) < lf := by
      by_cases hn : lf < 0
      · exact Or.inl hn
      · rw [if_neg hn] at hne
        split at hne <;> omega
    have ec : (if lf < 0 then (i : Int) else if (i : Int) ≤ lf then (i : Int) else lf) = i := by
      split
      · rfl
      · rw [if_pos (by omega)]
    rw [ec] at hT h5 h3 ⊢
    have ec1 : cnt lf ((i + 1 : Nat) : Int) = i + 1 := by
      unfold cnt
      split
      · omega
      · rw [if_pos (by omega)]; omega
    refine fun _ => ⟨⟨by omega, by omega⟩, by constructor <;> omega, fun hle => ?_, fun hgt => ⟨?_, ?_⟩⟩
    · have hn : lf < 0 := by
        rcases hcase with h | h
        · exact h
        · rw [if_neg (by omega)] at hle; omega
      refine hK _ ⟨fun x a b => by rw [im_u_ne _ _ _ a, im_u_ne _ _ _ b, im_u_ne _ _ _ a], fun k hk => by rw [im_rdk _ _ _ (by omega), im_rdn _ _ _ _ (by decide), im_rdk _ _ _ (by omega)]⟩ ⟨?_, ?_, ?_, ?_, ?_⟩
      · rw [im_rds, ec1]; omega
      · rw [im_rdk _ _ _ (by decide), im_rdn _ _ _ _ (by decide), im_rdk _ _ _ (by decide), h3, if_pos hn]; unfold lft; rw [if_pos hn]
      · rw [im_rdk _ _ _ (by decide), im_rdn _ _ _ _ (by decide), im_rdk _ _ _ (by decide), h4]; unfold drk; rw [if_neg (by omega), if_neg (by omega)]
      · rw [im_rdk _ _ _ (by decide), im_rdn _ _ _ _ (by decide), im_rds]
      · rw [ec1]
        refine txt_congr (txt_set (p := u + i) (b := b) hT rfl) (fun j _ _ => ?_) (fun j _ _ => ?_)
        · rw [im_rdn _ _ _ _ (by decide), im_rdx, im_u_ne _ _ _ (by decide)]
        · rw [wrD_s (by omega), hb]
    · constructor <;> omega
    · have hn : ¬ lf < 0 := fun h => by rw [if_pos h] at hgt; omega
      rw [if_neg hn] at h3 ⊢
      refine hK _ ⟨fun x a b => by rw [im_u_ne _ _ _ a, im_u_ne _ _ _ a, im_u_ne _ _ _ b, im_u_ne _ _ _ a], fun k hk => by rw [im_rdk _ _ _ (by omega), im_rdk _ _ _ (by omega), im_rdn _ _ _ _ (by decide), im_rdk _ _ _ (by omega)]⟩ ⟨?_, ?_, ?_, ?_, ?_⟩
      · rw [im_rdk _ _ _ (by decide), im_rds, ec1]; omega
      · rw [im_rds]; unfold lft; rw [if_neg hn, ec1]; omega
      · rw [im_rdk _ _ _ (by decide), im_rdk _ _ _ (by decide), im_rdn _ _ _ _ (by decide), im_rdk _ _ _ (by decide), h4]; unfold drk; rw [if_neg (by omega), if_neg (by omega)]
      · rw [im_rdk _ _ _ (by decide), im_rdk _ _ _ (by decide), im_rdn _ _ _ _ (by decide), im_rds]
      · rw [ec1]
        refine txt_congr (txt_set (p := u + i) (b := b) hT rfl) (fun j _ _ => ?_) (fun j _ _ => ?_)
        · rw [im_rdn _ _ _ _ (by decide), im_rdn _ _ _ _ (by decide), im_rdx, im_u_ne _ _ _ (by decide)]
        · rw [wrD_s (by omega), hb]
  · exfalso
    by_cases hn : lf < 0
    · rw [if_pos hn] at hor hne
      rw [if_neg (by omega)] at hor; omega
    · by_cases hle : (i : Int) ≤ lf
      · rw [if_neg (show ¬ (0 ≤ lf ∧ lf < (i : Int)) by omega), if_neg hn, if_pos hle] at hor
        omega
      · rw [if_neg hn, if_neg hn, if_neg hle] at hne
        omega
  · have hn : 0 ≤ lf ∧ lf ≤ i := by
      by_cases hn : lf < 0
      · rw [if_pos hn] at h0; omega
      · rw [if_neg hn] at h0; split at h0 <;> omega
    have ec : (if lf < 0 then (i : Int) else if (i : Int) ≤ lf then (i : Int) else lf) = lf := by
      rw [if_neg (by omega)]
      split <;> omega
    rw [ec] at hT h5 h3
    have ec1 : cnt lf ((i + 1 : Nat) : Int) = lf := by unfold cnt; rw [if_neg (by omega), if_neg (by omega)]
    refine hK _ ⟨fun x a b => by rw [im_u_ne _ _ _ a, im_u_ne _ _ _ a], fun k hk => by rw [im_rdk _ _ _ (by omega), im_rdk _ _ _ (by omega)]⟩ ⟨?_, ?_, ?_, ?_, ?_⟩
    · rw [im_rdk _ _ _ (by decide), im_rdk _ _ _ (by decide), h5, ec1]
    · rw [im_rdk _ _ _ (by decide), im_rdk _ _ _ (by decide), h3]; unfold lft; rw [ec1]
    · rw [im_rds]; unfold drk; rw [if_pos (by omega)]
    · rw [im_rdk _ _ _ (by decide), im_rds]
    · rw [im_u_ne _ _ _ (by decide), im_u_ne _ _ _ (by decide), ec1]; exact hT
theorem l_putNumber {v : Int} (hv : im_i64 v) (hu : 0 ≤ u) (hl : im_i32 lf) (hd : 2 ≤ d) :
    ∀ (j i : Nat) (M : im_M), j ≤ 8 → JP M dk u lf β i → u + i + j ≤ 16384 → (∀ k : Nat, k < j → β (i + k : Nat) = v / 2 ^ (8 * (j - 1 - k)) % 256) → (∀ M', JF M M' → JP M' dk u lf β (i + j) → K (.inl none) e M') → im_T g d 80 9 [some (.ref 2068), some (vL v), none, none, some (vI (8 * (j : Int) - 8))] [] e M K := by
  intro j
  induction j with
  | zero =>
    intro i M h8 h hn hβ hK
    exact k_Journal_putNumber_9 (by omega) ⟨by constructor <;> omega, fun _ => hK M (JF.rf M) h, fun z => by omega⟩
  | succ j ih =>
    intro i M h8 h hn hβ hK
    refine k_Journal_putNumber_9 (by omega) ⟨by constructor <;> omega, fun z => by omega, fun _ => ?_⟩
    have hb := hβ 0 (by omega)
    rw [show 8 * ((j + 1 : Nat) : Int) - 8 = ((8 * j : Nat) : Int) from by omega]
    refine c_putByte (i := i) h ?_ ⟨hu, by omega⟩ hl (by omega) (fun M1 F1 h1 => ⟨rfl, rfl, ?_⟩)
    · rw [xlu8 hv.1 hv.2 (by omega)]
      rw [show i + 0 = i from rfl, show j + 1 - 1 - 0 = j from by omega] at hb
      exact hb.symm
    · rw [show ((8 * j : Nat) : Int) + -8 = 8 * (j : Int) - 8 from by omega]
      refine ih (i + 1) M1 (by omega) h1 (by omega) (fun k hk => ?_) (fun M2 F2 h2 => hK M2 (F1.trans F2) ?_)
      · have := hβ (k + 1) (by omega)
        rw [show i + 1 + k = i + (k + 1) from by omega, this, show j + 1 - 1 - (k + 1) = j - 1 - k from by omega]
      · rw [show i + (j + 1) = i + 1 + j from by omega]; exact h2
theorem c_putNumber {v : Int} {i j : Nat} (hv : im_i64 v) (h : JP M dk u lf β i) (hj : j ≤ 8) (hu : 0 ≤ u ∧ u + i + j ≤ 16384) (hl : im_i32 lf) (hd : 2 ≤ d) (hβ : ∀ k : Nat, k < j → β (i + k : Nat) = v / 2 ^ (8 * (j - 1 - k)) % 256) (hK : ∀ M', JF M M' → JP M' dk u lf β (i + j) → K (.inl none) e M') : im_T g d 80 0 [some (.ref 2068), some (vL v), none, some (vI j), none] [] e M K :=
  k_Journal_putNumber_0 (l_putNumber hv hu.1 hl hd j i M hj h hu.2 hβ hK)
theorem c_checkPlace {c p : Int} (h0 : 0 ≤ p ∧ p ≤ 16384) (hd : 1 ≤ d) (hK : K (.inl (some (vI (pl4 c p)))) e M) : im_T g d 33 0 [some (vI c), some (vI p), none, none] [] e M K := by
  refine k_Journal_checkWithPlace_0 (k_Journal_checkWithPlace_5 hd ⟨by decide, fun z => absurd z (by decide), fun _ => c_mixed ⟨_, rfl, rfl, ?_⟩⟩)
  refine k_Journal_checkWithPlace_5 hd ⟨by decide, fun z => absurd z (by decide), fun _ => c_mixed ⟨_, rfl, rfl, ?_⟩⟩
  refine k_Journal_checkWithPlace_5 hd ⟨by decide, fun z => absurd z (by decide), fun _ => c_mixed ⟨_, rfl, rfl, ?_⟩⟩
  refine k_Journal_checkWithPlace_5 hd ⟨by decide, fun z => absurd z (by decide), fun _ => c_mixed ⟨_, rfl, rfl, ?_⟩⟩
  refine k_Journal_checkWithPlace_5 hd ⟨by decide, fun _ => ?_, fun z => absurd z (by decide)⟩
  have e1 : xiushr p 24 = p / 16777216 := xiu8 (k := 24) (by omega) (by omega) (by decide)
  have e2 : xiushr p (24 + -8) = p / 65536 := xiu8 (k := 16) (by omega) (by omega) (by decide)
  have e3 : xiushr p (24 + -8 + -8) = p / 256 := xiu8 (k := 8) (by omega) (by omega) (by decide)
  have e4 : xiushr p (24 + -8 + -8 + -8) = p := (xiu8 (k := 0) (by omega) (by omega) (by decide)).trans (by omega)
  rw [e1, e2, e3, e4]
  exact hK
end JOUR

/-! SHORT CALLS: word, show, feed -/
theorem xsh_am32 : ∀ k : Fin 32, ((Int32.ofInt ((k : Nat) : Int) &&& 31).toBitVec.smod 32#32).toNat = (k : Nat) := by decide +kernel
theorem xsh_am32u : ∀ k : Fin 32, (((Int32.ofInt ((k : Nat) : Int)).toUInt32 &&& Int32.toUInt32 31).toBitVec % 32#32).toNat = (k : Nat) := by decide +kernel
theorem xishr_n {v : Int} {k : Nat} (h : im_i32 v) (hk : k < 32) : xishr v k = v / 2 ^ k := by
  unfold xishr
  have h9 : (Int32.ofInt v >>> (Int32.ofInt (k : Int) &&& 31)).toBitVec = (BitVec.ofInt 32 v).sshiftRight' ((Int32.ofInt (k : Int) &&& 31).toBitVec.smod 32#32) := rfl
  rw [← Int32.toInt_toBitVec, h9]
  have ha := xsh_am32 ⟨k, hk⟩
  show ((BitVec.ofInt 32 v).sshiftRight ((Int32.ofInt (k : Int) &&& 31).toBitVec.smod 32#32).toNat).toInt = _
  rw [show ((Int32.ofInt (k : Int) &&& 31).toBitVec.smod 32#32).toNat = k from ha, BitVec.toInt_sshiftRight, BitVec.toInt_ofInt_eq_self (by decide) (by omega) (by omega), Int.shiftRight_eq_div_pow]
  rfl
theorem xiushr_b {v : Int} {k : Nat} (hk : k < 32) : xiushr v k % 4294967296 = v % 4294967296 / 2 ^ k := by
  unfold xiushr
  have h9 : ((Int32.ofInt v).toUInt32 >>> ((Int32.ofInt (k : Int)).toUInt32 &&& Int32.toUInt32 31)).toInt32.toBitVec = BitVec.ofInt 32 v >>> (((Int32.ofInt (k : Int)).toUInt32 &&& Int32.toUInt32 31).toBitVec % 32#32) := rfl
  rw [← Int32.toInt_toBitVec, h9, BitVec.ushiftRight_eq']
  have ha := xsh_am32u ⟨k, hk⟩
  rw [show (((Int32.ofInt (k : Int)).toUInt32 &&& Int32.toUInt32 31).toBitVec % 32#32).toNat = k from ha]
  have h2 : ((BitVec.ofInt 32 v >>> k).toNat : Int) = v % 4294967296 / 2 ^ k := by
    rw [BitVec.toNat_ushiftRight, BitVec.toNat_ofInt, Nat.shiftRight_eq_div_pow]
    have e1 : (v % ((2 ^ 32 : Nat) : Int)).toNat = (v % 4294967296).toNat := by omega
    rw [e1, Int.natCast_ediv, Int.toNat_of_nonneg (by omega)]
    rw [Int.natCast_pow]
    rfl
  have h3 : (BitVec.ofInt 32 v >>> k).toInt % 4294967296 = ((BitVec.ofInt 32 v >>> k).toNat : Int) % 4294967296 := by
    have := (BitVec.ofInt 32 v >>> k).toInt_eq_toNat_bmod
    rw [this]
    have := Int.bmod_emod (x := ((BitVec.ofInt 32 v >>> k).toNat : Int)) (m := 2 ^ 32)
    have e : ((2 ^ 32 : Nat) : Int) = 4294967296 := by decide
    rw [e] at this
    exact this
  rw [h3, h2]
  have hlt : (BitVec.ofInt 32 v >>> k).toNat < 2 ^ 32 := (BitVec.ofInt 32 v >>> k).isLt
  rw [Int.emod_eq_of_lt (by rw [← h2]; omega) (by rw [← h2]; omega)]
/-- the k-th byte of an int, from the left -/
def by4 (v : Int) (k : Nat) : Int := if k = 0 then v / 16777216 % 256 else if k = 1 then v / 65536 % 256 else if k = 2 then v / 256 % 256 else v % 256
theorem by4_s {v : Int} {k : Nat} (h : im_i32 v) (hk : k < 4) : xishr v (24 - 8 * (k : Int)) % 256 = by4 v k := by
  have e : (24 - 8 * (k : Int)) = ((24 - 8 * k : Nat) : Int) := by omega
  rw [e, xishr_n h (by omega)]
  unfold by4
  match k, hk with
  | 0, _ => rfl
  | 1, _ => rfl
  | 2, _ => rfl
  | 3, _ => show v / 1 % 256 = v % 256; rw [Int.ediv_one]
theorem by4_u {v : Int} {k : Nat} (hk : k < 4) : xiushr v (24 - 8 * (k : Int)) % 256 = by4 v k := by
  have e : (24 - 8 * (k : Int)) = ((24 - 8 * k : Nat) : Int) := by omega
  have h := xiushr_b (v := v) (k := 24 - 8 * k) (by omega)
  rw [e]
  have h2 : xiushr v ((24 - 8 * k : Nat) : Int) % 256 = (v % 4294967296 / 2 ^ (24 - 8 * k)) % 256 := by rw [← h]; omega
  rw [h2]
  unfold by4
  match k, hk with
  | 0, _ => show v % 4294967296 / 16777216 % 256 = v / 16777216 % 256; omega
  | 1, _ => show v % 4294967296 / 65536 % 256 = v / 65536 % 256; omega
  | 2, _ => show v % 4294967296 / 256 % 256 = v / 256 % 256; omega
  | 3, _ => show v % 4294967296 / 1 % 256 = v % 256; omega
theorem by4_r (v : Int) (k : Nat) : 0 ≤ by4 v k ∧ by4 v k < 256 := by unfold by4; (repeat' split) <;> omega
/-- the word at i, its first k bytes -/
def wdV (t : Int → Int) (n i : Int) : Nat → Int
  | 0 => 0
  | k + 1 => xlor (xlshl (wdV t n i k) 8) (if (0 ≤ i ∧ i ≤ 2047) ∧ 8 * i + k < n then t (8 * i + k) else 0)
theorem wdV_out {t : Int → Int} {n i : Int} (h : ¬ (0 ≤ i ∧ i ≤ 2047)) (k : Nat) : wdV t n i k = 0 := by
  induction k with
  | zero => rfl
  | succ k ih => unfold wdV; rw [ih, if_neg (fun z => h z.1)]; decide +kernel
/-- five ints -/
def fdV (a b c d' e' : Int) (k : Nat) : Int := if k < 4 then by4 a k else if k < 8 then by4 b (k - 4) else if k < 12 then by4 c (k - 8) else if k < 16 then by4 d' (k - 12) else by4 e' (k - 16)
def fdT (t : Int → Int) (n : Int) (f : Nat → Int) (k : Nat) (i : Int) : Int := if n ≤ i ∧ i < n + k then f (i - n).toNat else t i
section FEED
variable {g : im_g} {d : Nat} {e : im_E} {M : im_M} {K : im_K} {w : Wd}
theorem l_word {t : Int → Int} {n i : Int} (ho : M 7 1 = n) (ht : txt (M 8) t n) (hn : n ≤ 16384) (hi : 0 ≤ i ∧ i ≤ 2047) (hK : K (.inl (some (vL (wdV t n i 8)))) e M) : ∀ (j k : Nat), k + j = 8 → im_T g d 159 25 [some (.ref 0), some (vI i), some (vL (wdV t n i k)), none, some (vI (8 * i + k))] [] e M K := by
  intro j
  induction j with
  | zero =>
    intro k hk
    have : k = 8 := by omega
    subst this
    exact k_P_word_25 ⟨by constructor <;> omega, by constructor <;> omega, ⟨fun _ => hK, fun z => by omega⟩, fun x hx => by omega⟩
  | succ j ih =>
    intro k hk
    refine k_P_word_25 ⟨by constructor <;> omega, by constructor <;> omega, ⟨fun z => by omega, fun _ z => by omega⟩, fun x hx => ?_⟩
    rw [ho] at hx
    have hx' : x = if (0 ≤ i ∧ i ≤ 2047) ∧ 8 * i + k < n then t (8 * i + k) else 0 := by
      rcases hx with ⟨_, z, hx⟩ | ⟨_, z, hx⟩
      · rw [if_neg (by omega)]; exact hx
      · rw [if_pos ⟨hi, z⟩, hx, xiand_255]
        have := ht (8 * i + k) (by omega) z
        omega
    have h32 : im_i32 x := by
      rw [hx']
      split
      · rename_i z
        have := ht (8 * i + k) (by omega) z.2
        constructor <;> omega
      · decide
    have := ih (k + 1) (by omega)
    have e1 : (8 * i + ((k + 1 : Nat) : Int)) = 8 * i + k + 1 := by omega
    rw [e1] at this
    refine ⟨h32, ?_⟩
    rw [hx']
    exact this
theorem c_P_word {i : Int} (h : CW M e w 0) (hi : im_i32 i) (hd : 1 ≤ d) (hd0 : w.gJr.2.2.2.2 ≠ 0 → K (.inr xS) (e ++ [im_ex]) M) (hK : w.gJr.2.2.2.2 = 0 → K (.inl (some (vL (wdV w.gOb w.gOn i 8)))) e M) : im_T g d 159 0 [some (.ref 0), some (vI i), none, none, none] [] e M K := by
  obtain ⟨⟨_, ⟨o1, o2, o3⟩, _⟩, _⟩ := id h
  refine k_P_word_0 hd (c_needPower h hd0 (fun hz => ⟨rfl, hi, fun i0 i1 => ?_, fun hor => ?_⟩))
  · have := l_word (g := g) (d := d) (e := e) (K := K) o1 o2 o3.2 ⟨i0, by omega⟩ (hK hz) 8 0 rfl
    rw [show (8 * i + ((0 : Nat) : Int)) = 8 * i by omega] at this
    exact this
  · have := hK hz
    rw [wdV_out (by omega)] at this
    exact this
theorem l_rword {t : Int → Int} {n i : Int} (ho : M 6952 4 = n) (ht : ∀ k, 0 ≤ k → k < n → M 6954 k = t k) (hn : n ≤ 16384) (hi : im_i32 i) (hd : 1 ≤ d) (hK : K (.inl (some (vL (wdV t n i 8)))) e M) : ∀ (j k : Nat), k + j = 8 → im_T g d 267 18 [some (.ref 6952), some (vI i), some (vL (wdV t n i k)), none, some (vI k), none] [] e M K := by
  intro j
  induction j with
  | zero =>
    intro k hk
    have : k = 8 := by omega
    subst this
    exact b_word_18 hd ⟨by decide, fun _ => hK, fun z => absurd z (by decide)⟩
  | succ j ih =>
    intro k hk
    have hs : wdV t n i (k + 1) = xlor (xlshl (wdV t n i k) 8) (if (0 ≤ i ∧ i ≤ 2047) ∧ 8 * i + k < n then t (8 * i + k) else 0) := rfl
    have := ih (k + 1) (by omega)
    rw [hs] at this
    refine b_word_18 hd ⟨by constructor <;> omega, fun z => by omega, fun _ => ⟨hi, c_isInQ (by constructor <;> omega) (by decide) (by decide) (fun a ha => ⟨_, rfl, rfl, by constructor <;> omega, fun hne => ⟨by constructor <;> omega, fun hlt => ?_⟩, fun hor => ?_⟩)⟩⟩
    · rw [ho] at hlt
      rw [if_pos ⟨by omega, hlt⟩, ← ht (8 * i + k) (by omega) hlt] at this
      exact ⟨⟨by omega, by omega⟩, this⟩
    · rw [ho] at hor
      rw [if_neg (by omega)] at this
      exact this
theorem c_R_word {i : Int} (h : RW M w) (hi : im_i32 i) (hd : 2 ≤ d)
    (hKt : w.gJr.2.2.2.2 ≠ 0 → ∀ M', (∀ z, z < 6952 ∨ 7080 < z → M' z = M z) → RW M' w → M' 6952 0 = 1 → K (.inl (some (vL 0))) e M')
    (hK : w.gJr.2.2.2.2 = 0 → ∀ M', (∀ z, z < 6952 ∨ 7080 < z → M' z = M z) → RW M' w → M' 6952 0 = 0 → K (.inl (some (vL (wdV w.gOb w.gOn i 8)))) e M') : im_T g d 267 0 [some (.ref 6952), some (vI i), none, none, none, none] [] e M K := by
  refine b_word_0 (by omega) (c_mayQ (A := True) (B := True) (C := True) h (by decide) (by decide) (Or.inl ⟨rfl, trivial⟩) (Or.inl ⟨rfl, trivial⟩) (Or.inl ⟨rfl, trivial⟩) (fun hm M1 W1 e0 ez ek => ⟨_, rfl, rfl, by decide, fun z => absurd rfl z, fun _ => ?_⟩) (fun hz _ _ _ M1 W1 e0 ez ek => ⟨_, rfl, rfl, by decide, fun _ => ?_, fun z => absurd z (by decide)⟩))
  · have hz : w.gJr.2.2.2.2 ≠ 0 := fun z => hm (mco_0 z trivial trivial trivial)
    exact hKt hz M1 (fun z hz => ez z (by omega)) W1 (by rw [e0]; unfold mco; rw [ifq_pos hz])
  · obtain ⟨o1, o2, o3⟩ := W1.1.2.1
    exact l_rword o1 (fun k a b => (o2 k a b).1) o3.2 hi (by omega) (hK hz M1 (fun z hz => ez z (by omega)) W1 e0) 8 0 rfl
/-- one byte is put out -/
theorem c_put1 {t : Int → Int} {n b : Int} (ho : cOut M t n) (hK : ∀ M', (∀ x, x ≠ 7 → x ≠ 8 → M' x = M x) → (∀ k, k ≠ 1 → M' 7 k = M 7 k) → (n < 16384 → cOut M' (fun i => if i = n then b % 256 else t i) (n + 1)) → (¬ n < 16384 → cOut M' t n) → K (.inl none) e M') : im_T g d 162 0 [some (.ref 7), some (vI b)] [] e M K := by
  obtain ⟨o1, o2, o3⟩ := ho
  refine k_Writer_put_0 ?_
  rw [o1]
  refine ⟨fun z => hK M (fun _ _ _ => rfl) (fun _ _ => rfl) (fun q => by omega) (fun _ => ⟨o1, o2, o3⟩), fun z => ⟨⟨o3.1, z⟩, by constructor <;> omega, hK _ (fun x a b => by rw [im_u_ne _ _ _ a, im_u_ne _ _ _ b]) (fun k hk => by rw [im_rdk _ _ _ hk, im_rdn _ _ _ _ (by decide)]) (fun _ => ⟨im_rds _ _ _ _, fun k k0 k1 => ?_, by omega, by omega⟩) (fun q => absurd z q)⟩⟩
  rw [im_u_ne _ _ _ (by decide), im_rdx]
  show (0 ≤ (if k = n then b % 256 else t k) ∧ (if k = n then b % 256 else t k) < 128 ∧ _ = (if k = n then b % 256 else t k)) ∨ (128 ≤ (if k = n then b % 256 else t k) ∧ (if k = n then b % 256 else t k) < 256 ∧ _ = (if k = n then b % 256 else t k) - 256)
  by_cases c : k = n
  · rw [if_pos c, if_pos c, bm8]
    have h1 : 0 ≤ b % 256 ∧ b % 256 < 256 := ⟨Int.emod_nonneg _ (by decide), Int.emod_lt_of_pos _ (by decide)⟩
    by_cases c2 : b % 256 < 128
    · rw [if_pos c2]; exact Or.inl ⟨h1.1, c2, rfl⟩
    · rw [if_neg c2]; exact Or.inr ⟨by omega, h1.2, rfl⟩
  · rw [if_neg c, if_neg c]; exact o2 k k0 (by omega)
theorem l_show {t : Int → Int} {n : Int} {M0 : im_M} (ht1 : M0 0 1 = n) (ht2 : txt (M0 1) t n) (hn : 0 ≤ n ∧ n ≤ 16384) (hd : 1 ≤ d) (hK : ∀ M', (∀ x, x ≠ 7 → x ≠ 8 → M' x = M0 x) → cOut M' t n → K (.inl (some (vI n))) e M') : ∀ (j : Nat) (k : Int) (M : im_M), k + j = n → 0 ≤ k → (∀ x, x ≠ 7 → x ≠ 8 → M x = M0 x) → cOut M t k → im_T g d 161 13 [some (.ref 0), some (vI k)] [] e M K := by
  intro j
  induction j with
  | zero =>
    intro k M hk k0 hx ho
    have : k = n := by omega
    subst this
    refine k_P_show_13 hd ⟨by constructor <;> omega, fun _ => ?_, fun z => ?_⟩
    · rw [ho.1]; exact hK M hx ho
    · rw [hx 0 (by decide) (by decide), ht1] at z; omega
  | succ j ih =>
    intro k M hk k0 hx ho
    refine k_P_show_13 hd ⟨by constructor <;> omega, fun z => ?_, fun _ => ⟨⟨k0, by omega⟩, c_put1 ho (fun M' f1 f2 f3 f4 => ⟨rfl, rfl, ?_⟩)⟩⟩
    · rw [hx 0 (by decide) (by decide), ht1] at z; omega
    · have ho' := f3 (by omega)
      refine ih (k + 1) M' (by omega) (by omega) (fun x a b => (f1 x a b).trans (hx x a b)) ?_
      obtain ⟨q1, q2, q3⟩ := ho'
      refine ⟨q1, fun i i0 i1 => ?_, q3⟩
      have := q2 i i0 i1
      dsimp only at this
      by_cases c : i = k
      · rw [if_pos c, hx 1 (by decide) (by decide)] at this
        have hb := ht2 k k0 (by omega)
        have e1 : M0 1 k % 256 = t k := by omega
        rw [e1, ← c] at this
        exact this
      · rw [if_neg c] at this; exact this
theorem c_P_show (h : CW M e w 0) (hd : 1 ≤ d) (hd0 : w.gJr.2.2.2.2 ≠ 0 → K (.inr xS) (e ++ [im_ex]) M) (hK : w.gJr.2.2.2.2 = 0 → ∀ M', (∀ x, 6952 ≤ x → M' x = M x) → CW M' e ((w.sOb w.gTp).sOn w.gTn) 0 → K (.inl (some (vI w.gTn))) e M') : im_T g d 161 0 [some (.ref 0), none] [] e M K := by
  obtain ⟨⟨⟨t1, t2, t3⟩, _, _⟩, _, _, _, _, _, ⟨_, ⟨_, _, c11, _⟩⟩, _⟩ := id h
  refine k_P_show_0 hd (c_needPower h hd0 (fun hz => ⟨rfl, k_Writer_clear_0 ⟨rfl, rfl, ?_⟩⟩))
  have hx : ∀ x, x ≠ 7 → x ≠ 8 → im_u M 7 1 0 x = M x := fun x a _ => im_u_ne _ _ _ a
  refine l_show (M0 := M) t1 t2 t3 hd (fun M' f ho => hK hz M' (fun x hx => f x (by omega) (by omega)) (h.out (fun x hx => f x (by omega) (by omega)) ho ?_)) w.gTn.toNat 0 _ (by omega) (Int.le_refl _) hx ⟨im_rds _ _ _ _, fun i a b => by omega, by decide⟩
  obtain ⟨v, c⟩ := c11
  exact ⟨v, cn_congr c (f _ (by decide) (by decide)) (f _ (by decide) (by decide))⟩
theorem RW.tp {M M' : im_M} {w : Wd} {t : Int → Int} {n : Int} (h : RW M w) (hs : ∀ x, x ≠ 6952 → x ≠ 6953 → M' x = M x) (hf : ∀ k, k ≠ 2 → M' 6952 k = M 6952 k) (h2 : rTape M' t n) : RW M' ((w.sTp t).sTn n) := by
  obtain ⟨⟨⟨t1, t2, t3⟩, ⟨o1, o2, o3⟩, ⟨f1, f2⟩⟩, ⟨⟨p1, p2, p3, p4⟩, r, i⟩, ⟨b1, b2, b3⟩, ⟨s1, s2⟩, md, ⟨j0, j1, j2, j3, j4⟩, ⟨c1, c2, c3, c4⟩⟩ := h
  exact ⟨⟨h2, ⟨(hf 4 (by omega)).trans o1, fun k k0 k1 => by rw [hs 6954 (by omega) (by omega)]; exact o2 k k0 k1, o3⟩, ⟨(hf 19 (by omega)).trans f1, (hf 20 (by omega)).trans f2⟩⟩, ⟨⟨RP_congr p1 (hf 6 (by omega)) (hf 36 (by omega)) (fun x _ _ => hs x (by omega) (by omega)) (fun i _ => by rw [hs 6955 (by omega) (by omega)]), (hf 38 (by omega)).trans p2, by rw [hf 6 (by omega)]; exact p3, by rw [hf 36 (by omega)]; exact p4⟩, (by unfold rRoots; rw [hs 6984 (by omega) (by omega), hs 6985 (by omega) (by omega), hs 6986 (by omega) (by omega)]; exact r), (fun k k0 k1 => rIn1_congr (i k k0 k1) (fun x _ _ => hs x (by omega) (by omega)))⟩, ⟨rPm_congr b1 (hf 62 (by omega)) (hs _ (by omega) (by omega)) (hs _ (by omega) (by omega)), swl_congr b2 (hf 130 (by omega)) (hs _ (by omega) (by omega)) (hs _ (by omega) (by omega)) (hs _ (by omega) (by omega)), rMi_congr b3 (hf 134 (by omega)) (hs _ (by omega) (by omega)) (hs _ (by omega) (by omega))⟩, ⟨sr5_congr s1 (hf 137 (by omega)) (hs _ (by omega) (by omega)) (hs _ (by omega) (by omega)) (hs _ (by omega) (by omega)) (hs _ (by omega) (by omega)) (hs _ (by omega) (by omega)), sr5_congr s2 (hf 143 (by omega)) (hs _ (by omega) (by omega)) (hs _ (by omega) (by omega)) (hs _ (by omega) (by omega)) (hs _ (by omega) (by omega)) (hs _ (by omega) (by omega))⟩, (hf 175 (by omega)).trans md, ⟨fun x x0 x1 => by rw [hs 7080 (by omega) (by omega)]; exact j0 x x0 x1, (hf 177 (by omega)).trans j1, (hf 178 (by omega)).trans j2, (hf 179 (by omega)).trans j3, (hf 180 (by omega)).trans j4⟩, ⟨by rw [hf 8 (by omega)]; exact c1, by rw [hf 116 (by omega)]; exact c2, by rw [hf 99 (by omega)]; exact c3, by rw [hf 100 (by omega)]; exact c4⟩⟩
theorem RW.out {M M' : im_M} {w : Wd} {t : Int → Int} {n : Int} (h : RW M w) (hs : ∀ x, x ≠ 6952 → x ≠ 6954 → M' x = M x) (hf : ∀ k, k ≠ 4 → M' 6952 k = M 6952 k) (h2 : rOut M' t n) : RW M' ((w.sOb t).sOn n) := by
  obtain ⟨⟨⟨t1, t2, t3⟩, ⟨o1, o2, o3⟩, ⟨f1, f2⟩⟩, ⟨⟨p1, p2, p3, p4⟩, r, i⟩, ⟨b1, b2, b3⟩, ⟨s1, s2⟩, md, ⟨j0, j1, j2, j3, j4⟩, ⟨c1, c2, c3, c4⟩⟩ := h
  exact ⟨⟨⟨(hf 2 (by omega)).trans t1, fun k k0 k1 => by rw [hs 6953 (by omega) (by omega)]; exact t2 k k0 k1, t3⟩, h2, ⟨(hf 19 (by omega)).trans f1, (hf 20 (by omega)).trans f2⟩⟩, ⟨⟨RP_congr p1 (hf 6 (by omega)) (hf 36 (by omega)) (fun x _ _ => hs x (by omega) (by omega)) (fun i _ => by rw [hs 6955 (by omega) (by omega)]), (hf 38 (by omega)).trans p2, by rw [hf 6 (by omega)]; exact p3, by rw [hf 36 (by omega)]; exact p4⟩, (by unfold rRoots; rw [hs 6984 (by omega) (by omega), hs 6985 (by omega) (by omega), hs 6986 (by omega) (by omega)]; exact r), (fun k k0 k1 => rIn1_congr (i k k0 k1) (fun x _ _ => hs x (by omega) (by omega)))⟩, ⟨rPm_congr b1 (hf 62 (by omega)) (hs _ (by omega) (by omega)) (hs _ (by omega) (by omega)), swl_congr b2 (hf 130 (by omega)) (hs _ (by omega) (by omega)) (hs _ (by omega) (by omega)) (hs _ (by omega) (by omega)), rMi_congr b3 (hf 134 (by omega)) (hs _ (by omega) (by omega)) (hs _ (by omega) (by omega))⟩, ⟨sr5_congr s1 (hf 137 (by omega)) (hs _ (by omega) (by omega)) (hs _ (by omega) (by omega)) (hs _ (by omega) (by omega)) (hs _ (by omega) (by omega)) (hs _ (by omega) (by omega)), sr5_congr s2 (hf 143 (by omega)) (hs _ (by omega) (by omega)) (hs _ (by omega) (by omega)) (hs _ (by omega) (by omega)) (hs _ (by omega) (by omega)) (hs _ (by omega) (by omega))⟩, (hf 175 (by omega)).trans md, ⟨fun x x0 x1 => by rw [hs 7080 (by omega) (by omega)]; exact j0 x x0 x1, (hf 177 (by omega)).trans j1, (hf 178 (by omega)).trans j2, (hf 179 (by omega)).trans j3, (hf 180 (by omega)).trans j4⟩, ⟨by rw [hf 8 (by omega)]; exact c1, by rw [hf 116 (by omega)]; exact c2, by rw [hf 99 (by omega)]; exact c3, by rw [hf 100 (by omega)]; exact c4⟩⟩
theorem l_rshow {t : Int → Int} {n : Int} {M0 : im_M} (ht1 : M0 6952 2 = n) (ht2 : ∀ i, 0 ≤ i → i < n → M0 6953 i = t i) (hn : 0 ≤ n ∧ n ≤ 16384) (hK : ∀ M', (∀ x, x ≠ 6952 → x ≠ 6954 → M' x = M0 x) → (∀ k, k ≠ 4 → M' 6952 k = M0 6952 k) → M' 6952 4 = n → (∀ i, 0 ≤ i → i < n → M' 6954 i = t i) → K (.inl (some (vI n))) e M') : ∀ (j : Nat) (k : Int) (M : im_M), k + j = n → 0 ≤ k → (∀ x, x ≠ 6954 → M x = M0 x) → (∀ i, 0 ≤ i → i < k → M 6954 i = t i) → im_T g d 269 15 [some (.ref 6952), some (vI k)] [] e M K := by
  intro j
  induction j with
  | zero =>
    intro k M hk k0 hx ho
    have : k = n := by omega
    subst this
    refine b_show_15 ?_
    rw [hx 6952 (by decide), ht1]
    exact ⟨by constructor <;> omega, fun _ => hK _ (fun x a b => by rw [im_u_ne _ _ _ a]; exact hx x b) (fun q hq => by rw [im_rdk _ _ _ hq, hx 6952 (by decide)]) (im_rds _ _ _ _) (fun i a b => by rw [im_rdn _ _ _ _ (by decide)]; exact ho i a b), fun z => by omega⟩
  | succ j ih =>
    intro k M hk k0 hx ho
    refine b_show_15 ?_
    rw [hx 6952 (by decide), ht1]
    refine ⟨by constructor <;> omega, fun z => by omega, fun _ => ⟨⟨k0, by omega⟩, ih (k + 1) _ (by omega) (by omega) (fun x a => by rw [im_u_ne _ _ _ a]; exact hx x a) (fun i i0 i1 => ?_)⟩⟩
    rw [im_rdx, hx 6953 (by decide)]
    by_cases c : i = k
    · rw [if_pos c, c]; exact ht2 k k0 (by omega)
    · rw [if_neg c]; exact ho i i0 (by omega)
theorem c_R_show (h : RW M w) (hd : 1 ≤ d)
    (hKt : w.gJr.2.2.2.2 ≠ 0 → ∀ M', (∀ z, z < 6952 ∨ 7080 < z → M' z = M z) → RW M' w → M' 6952 0 = 1 → K (.inl (some (vI 0))) e M')
    (hK : w.gJr.2.2.2.2 = 0 → ∀ M', (∀ z, z < 6952 ∨ 7080 < z → M' z = M z) → RW M' ((w.sOb w.gTp).sOn w.gTn) → M' 6952 0 = 0 → K (.inl (some (vI w.gTn))) e M') : im_T g d 269 0 [some (.ref 6952), none] [] e M K := by
  refine b_show_0 (by omega) (c_mayQ (A := True) (B := True) (C := True) h (by decide) (by decide) (Or.inl ⟨rfl, trivial⟩) (Or.inl ⟨rfl, trivial⟩) (Or.inl ⟨rfl, trivial⟩) (fun hm M1 W1 e0 ez ek => ⟨_, rfl, rfl, by decide, fun z => absurd rfl z, fun _ => ?_⟩) (fun hz _ _ _ M1 W1 e0 ez ek => ⟨_, rfl, rfl, by decide, fun _ => ?_, fun z => absurd z (by decide)⟩))
  · have hz : w.gJr.2.2.2.2 ≠ 0 := fun z => hm (mco_0 z trivial trivial trivial)
    exact hKt hz M1 (fun z hz => ez z (by omega)) W1 (by rw [e0]; unfold mco; rw [ifq_pos hz])
  · obtain ⟨o1, o2, o3⟩ := W1.1.1
    refine l_rshow (M0 := M1) o1 (fun k a b => (o2 k a b).1) o3 (fun M' f1 f2 f3 f4 => hK hz M' (fun z hz => by rw [f1 z (by omega) (by omega)]; exact ez z (by omega)) (W1.out f1 f2 ⟨f3, fun i a b => ⟨f4 i a b, (o2 i a b).2⟩, o3⟩) (by rw [f2 0 (by decide)]; exact e0)) w.gTn.toNat 0 M1 (by omega) (Int.le_refl _) (fun _ _ => rfl) (fun i a b => by omega)
/-- four bytes are laid on the tape -/
theorem l_layWord {v n : Int} {t : Int → Int} (hn : 0 ≤ n ∧ n + 4 ≤ 16384) (hK : ∀ M', (∀ x, x ≠ 0 → x ≠ 1 → M' x = M x) → (∀ k, k ≠ 1 → M' 0 k = M 0 k) → M' 0 1 = n + 4 → txt (M' 1) (fdT t n (by4 v) 4) (n + 4) → K (.inl none) e M') :
    ∀ (j k : Nat) (M1 : im_M), k + j = 4 → (∀ x, x ≠ 0 → x ≠ 1 → M1 x = M x) → (∀ q, q ≠ 1 → M1 0 q = M 0 q) → M1 0 1 = n + k → txt (M1 1) (fdT t n (by4 v) k) (n + k) → im_T g d 153 3 [some (.ref 0), some (vI v), some (vI (24 - 8 * (k : Int)))] [] e M1 K := by
  intro j
  induction j with
  | zero =>
    intro k M1 hk f1 f2 f3 f4
    have : k = 4 := by omega
    subst this
    exact k_P_layWord_3 ⟨by decide, fun z => absurd z (by decide), fun _ => hK M1 f1 f2 f3 f4⟩
  | succ j ih =>
    intro k M1 hk f1 f2 f3 f4
    refine k_P_layWord_3 ⟨by constructor <;> omega, fun _ hlt => ?_, fun z => by omega⟩
    rw [f3]
    refine ⟨⟨by omega, by omega⟩, by constructor <;> omega, ?_⟩
    have := ih (k + 1) (im_u (im_u M1 1 (n + k) (((xiushr v (24 - 8 * (k : Int))).bmod 256).bmod 256)) 0 1 (n + k + 1)) (by omega) (fun x a b => by rw [im_u_ne _ _ _ a, im_u_ne _ _ _ b]; exact f1 x a b) (fun q hq => by rw [im_rdk _ _ _ hq, im_rdn _ _ _ _ (by decide)]; exact f2 q hq) (by rw [im_rds]; omega) (fun i i0 i1 => ?_)
    · rw [show (24 - 8 * ((k + 1 : Nat) : Int)) = 24 - 8 * (k : Int) + (-8) by omega] at this
      exact this
    · rw [im_u_ne _ _ _ (by decide), im_rdx]
      by_cases c : i = n + k
      · rw [if_pos c]
        have hb := by4_r v k
        have he : fdT t n (by4 v) (k + 1) i = by4 v k := by
          unfold fdT
          rw [if_pos ⟨by omega, by omega⟩, show (i - n).toNat = k by omega]
        rw [he, bm8, by4_u (by omega)]
        by_cases c2 : by4 v k < 128
        · rw [if_pos c2]; exact Or.inl ⟨hb.1, c2, rfl⟩
        · rw [if_neg c2]; exact Or.inr ⟨by omega, hb.2, rfl⟩
      · rw [if_neg c]
        have := f4 i i0 (by omega)
        have he : fdT t n (by4 v) (k + 1) i = fdT t n (by4 v) k i := by
          unfold fdT
          by_cases c2 : n ≤ i ∧ i < n + k
          · rw [if_pos c2, if_pos ⟨c2.1, by omega⟩]
          · rw [if_neg c2, if_neg (by omega)]
        rw [he]; exact this
theorem c_layWord {v n : Int} {t : Int → Int} (h1 : M 0 1 = n) (h2 : txt (M 1) t n) (hn : 0 ≤ n ∧ n + 4 ≤ 16384) (hK : ∀ M', (∀ x, x ≠ 0 → x ≠ 1 → M' x = M x) → (∀ k, k ≠ 1 → M' 0 k = M 0 k) → M' 0 1 = n + 4 → txt (M' 1) (fdT t n (by4 v) 4) (n + 4) → K (.inl none) e M') : im_T g d 153 0 [some (.ref 0), some (vI v), none] [] e M K := by
  refine k_P_layWord_0 (l_layWord (M := M) (t := t) hn hK 4 0 M rfl (fun _ _ _ => rfl) (fun _ _ => rfl) (by rw [h1]; omega) (fun i i0 i1 => ?_))
  have he : fdT t n (by4 v) 0 i = t i := by unfold fdT; rw [if_neg (by omega)]
  rw [he]; exact h2 i i0 (by omega)
theorem fd_eq {t : Int → Int} {n a b c d' e' i : Int} : fdT (fdT (fdT (fdT (fdT t n (by4 a) 4) (n + 4) (by4 b) 4) (n + 4 + 4) (by4 c) 4) (n + 4 + 4 + 4) (by4 d') 4) (n + 4 + 4 + 4 + 4) (by4 e') 4 i = fdT t n (fdV a b c d' e') 20 i := by
  have e4 : ((4 : Nat) : Int) = 4 := rfl
  have e20 : ((20 : Nat) : Int) = 20 := rfl
  unfold fdT
  rw [e4, e20]
  by_cases c0 : n ≤ i ∧ i < n + 20
  · rw [if_pos c0]
    unfold fdV
    by_cases c1 : i < n + 4
    · rw [if_neg (by omega), if_neg (by omega), if_neg (by omega), if_neg (by omega), if_pos (by omega), if_pos (by omega)]
    · by_cases c2 : i < n + 8
      · rw [if_neg (by omega), if_neg (by omega), if_neg (by omega), if_pos (by omega), if_neg (by omega), if_pos (by omega), show (i - (n + 4)).toNat = (i - n).toNat - 4 by omega]
      · by_cases c3 : i < n + 12
        · rw [if_neg (by omega), if_neg (by omega), if_pos (by omega), if_neg (by omega), if_neg (by omega), if_pos (by omega), show (i - (n + 4 + 4)).toNat = (i - n).toNat - 8 by omega]
        · by_cases c4 : i < n + 16
          · rw [if_neg (by omega), if_pos (by omega), if_neg (by omega), if_neg (by omega), if_neg (by omega), if_pos (by omega), show (i - (n + 4 + 4 + 4)).toNat = (i - n).toNat - 12 by omega]
          · rw [if_pos (by omega), if_neg (by omega), if_neg (by omega), if_neg (by omega), if_neg (by omega), show (i - (n + 4 + 4 + 4 + 4)).toNat = (i - n).toNat - 16 by omega]
  · rw [if_neg c0, if_neg (by omega), if_neg (by omega), if_neg (by omega), if_neg (by omega), if_neg (by omega)]
def feW (w : Wd) (a b c d' e' : Int) : Wd := (w.sTp (fdT w.gTp w.gTn (fdV a b c d' e') 20)).sTn (w.gTn + 20)
theorem c_P_feed {a b c d' e' : Int} (h : CW M e w 0) (hd : 1 ≤ d) (hd0 : w.gJr.2.2.2.2 ≠ 0 → K (.inr xS) (e ++ [im_ex]) M) (hKa : w.gJr.2.2.2.2 = 0 → ¬ w.gTn + 20 ≤ 16384 → K (.inr xA) (e ++ [im_ex]) M) (hK : w.gJr.2.2.2.2 = 0 → w.gTn + 20 ≤ 16384 → ∀ M', (∀ x, 6952 ≤ x → M' x = M x) → CW M' e (feW w a b c d' e') 0 → K (.inl (some (vI (w.gTn + 20)))) e M') : im_T g d 151 0 [some (.ref 0), some (vI a), some (vI b), some (vI c), some (vI d'), some (vI e')] [] e M K := by
  obtain ⟨⟨⟨t1, t2, t3⟩, _⟩, _, _, _, _, _, _, a1⟩ := id h
  refine k_P_feed_0 hd (c_needPower h hd0 (fun hz => ⟨rfl, ?_⟩))
  rw [t1]
  refine ⟨by constructor <;> omega, fun hle => ?_, fun hgt => hKa hz (by omega)⟩
  refine c_layWord (t := w.gTp) t1 t2 (by omega) (fun M1 x1 k1 n1 y1 => ⟨rfl, rfl, ?_⟩)
  refine c_layWord n1 y1 (by omega) (fun M2 x2 k2 n2 y2 => ⟨rfl, rfl, ?_⟩)
  refine c_layWord n2 y2 (by omega) (fun M3 x3 k3 n3 y3 => ⟨rfl, rfl, ?_⟩)
  refine c_layWord n3 y3 (by omega) (fun M4 x4 k4 n4 y4 => ⟨rfl, rfl, ?_⟩)
  refine c_layWord n4 y4 (by omega) (fun M5 x5 k5 n5 y5 => ⟨rfl, rfl, ?_⟩)
  have fx : ∀ x, x ≠ 0 → x ≠ 1 → M5 x = M x := fun x p q => (x5 x p q).trans ((x4 x p q).trans ((x3 x p q).trans ((x2 x p q).trans (x1 x p q))))
  have fk : ∀ k, k ≠ 1 → M5 0 k = M 0 k := fun x p => (k5 x p).trans ((k4 x p).trans ((k3 x p).trans ((k2 x p).trans (k1 x p))))
  have e5 : M5 0 1 = w.gTn + 20 := by omega
  rw [e5]
  refine hK hz hle M5 (fun x hx => fx x (by omega) (by omega)) (h.tape fx ⟨e5, fun i i0 i1 => ?_, by omega, by omega⟩ (by rw [fk 19 (by decide)]; exact a1))
  rw [← fd_eq]
  exact y5 i i0 (by omega)
theorem l_rfeed {a b c d' e' n : Int} {t : Int → Int} (h5 : im_i32 a ∧ im_i32 b ∧ im_i32 c ∧ im_i32 d' ∧ im_i32 e') (hn : 0 ≤ n ∧ n + 20 ≤ 16384) (hK : ∀ M', (∀ x, x ≠ 6952 → x ≠ 6953 → M' x = M x) → (∀ k, k ≠ 2 → M' 6952 k = M 6952 k) → M' 6952 2 = n + 20 → (∀ i, 0 ≤ i → i < n + 20 → M' 6953 i = fdT t n (fdV a b c d' e') 20 i) → K (.inl (some (vI (n + 20)))) e M') :
    ∀ (j k : Nat) (M1 : im_M), k + j = 20 → (∀ x, x ≠ 6952 → x ≠ 6953 → M1 x = M x) → (∀ q, q ≠ 2 → M1 6952 q = M 6952 q) → M1 6952 2 = n + k → (∀ i, 0 ≤ i → i < n + k → M1 6953 i = fdT t n (fdV a b c d' e') k i) → im_T g d 263 33 [some (.ref 6952), some (vI a), some (vI b), some (vI c), some (vI d'), some (vI e'), some (vI k), none] [] e M1 K := by
  intro j
  induction j with
  | zero =>
    intro k M1 hk f1 f2 f3 f4
    have : k = 20 := by omega
    subst this
    refine b_feed_33 ⟨by decide, fun _ => ?_, fun x hx => by omega⟩
    rw [f3]; exact hK M1 f1 f2 f3 f4
  | succ j ih =>
    intro k M1 hk f1 f2 f3 f4
    refine b_feed_33 ⟨by constructor <;> omega, fun z => by omega, fun x hx => ?_⟩
    rw [f3]
    refine ⟨⟨by omega, by omega⟩, by constructor <;> omega, ?_⟩
    have hmod : (k : Int).tmod 4 = ((k % 4 : Nat) : Int) := by rw [Int.tmod_eq_emod_of_nonneg (by omega)]; omega
    have hv : xiand (xishr x (24 - (8 * ((k : Int).tmod 4)))) 255 = fdV a b c d' e' k := by
      rw [hmod, xiand_255]
      unfold fdV
      by_cases c1 : k < 4
      · have hxx : x = a := by omega
        rw [if_pos c1, hxx, by4_s h5.1 (by omega), show k % 4 = k by omega]
      · rw [if_neg c1]
        by_cases c2 : k < 8
        · have hxx : x = b := by omega
          rw [if_pos c2, hxx, by4_s h5.2.1 (by omega), show k % 4 = k - 4 by omega]
        · rw [if_neg c2]
          by_cases c3 : k < 12
          · have hxx : x = c := by omega
            rw [if_pos c3, hxx, by4_s h5.2.2.1 (by omega), show k % 4 = k - 8 by omega]
          · rw [if_neg c3]
            by_cases c4 : k < 16
            · have hxx : x = d' := by omega
              rw [if_pos c4, hxx, by4_s h5.2.2.2.1 (by omega), show k % 4 = k - 12 by omega]
            · have hxx : x = e' := by omega
              rw [if_neg c4, hxx, by4_s h5.2.2.2.2 (by omega), show k % 4 = k - 16 by omega]
    rw [hv]
    refine ih (k + 1) _ (by omega) (fun x p q => by rw [im_u_ne _ _ _ p, im_u_ne _ _ _ q]; exact f1 x p q) (fun q hq => by rw [im_rdk _ _ _ hq, im_rdn _ _ _ _ (by decide)]; exact f2 q hq) (by rw [im_rds]; omega) (fun i i0 i1 => ?_)
    rw [im_u_ne _ _ _ (by decide), im_rdx]
    by_cases c0 : i = n + k
    · rw [if_pos c0]
      unfold fdT
      rw [if_pos ⟨by omega, by omega⟩, show (i - n).toNat = k by omega]
    · rw [if_neg c0, f4 i i0 (by omega)]
      unfold fdT
      by_cases c2 : n ≤ i ∧ i < n + k
      · rw [if_pos c2, if_pos ⟨c2.1, by omega⟩]
      · rw [if_neg c2, if_neg (by omega)]
theorem fdV_r (a b c d' e' : Int) (k : Nat) : 0 ≤ fdV a b c d' e' k ∧ fdV a b c d' e' k < 256 := by
  unfold fdV; (repeat' split) <;> exact by4_r _ _
theorem c_R_feed {a b c d' e' : Int} (h : RW M w) (h5 : im_i32 a ∧ im_i32 b ∧ im_i32 c ∧ im_i32 d' ∧ im_i32 e') (hd : 1 ≤ d)
    (hKt : mco 1 w.gJr.2.2.2.2 True (w.gTn + 20 ≤ 16384) True ≠ 0 → ∀ M', (∀ z, z < 6952 ∨ 7080 < z → M' z = M z) → RW M' w → M' 6952 0 = mco 1 w.gJr.2.2.2.2 True (w.gTn + 20 ≤ 16384) True → K (.inl (some (vI 0))) e M')
    (hK : w.gJr.2.2.2.2 = 0 → w.gTn + 20 ≤ 16384 → ∀ M', (∀ z, z < 6952 ∨ 7080 < z → M' z = M z) → RW M' (feW w a b c d' e') → M' 6952 0 = 0 → K (.inl (some (vI (w.gTn + 20)))) e M') : im_T g d 263 0 [some (.ref 6952), some (vI a), some (vI b), some (vI c), some (vI d'), some (vI e'), none, none] [] e M K := by
  obtain ⟨o1, o2, o3⟩ := h.1.1
  refine b_feed_0 (by omega) ?_
  rw [o1]
  refine ⟨by constructor <;> omega, fun x hx => ?_⟩
  refine (c_mayQ (A := True) (B := w.gTn + 20 ≤ 16384) (C := True) h (by decide) (by decide) (Or.inl ⟨rfl, trivial⟩) (by omega) (Or.inl ⟨rfl, trivial⟩) (fun hm M1 W1 e0 ez ek => ⟨_, rfl, rfl, by decide, fun z => absurd rfl z, fun _ => hKt hm M1 (fun z hz => ez z (by omega)) W1 e0⟩) (fun hz _ hB _ M1 W1 e0 ez ek => ⟨_, rfl, rfl, by decide, fun _ => ?_, fun z => absurd z (by decide)⟩))
  obtain ⟨o1', o2', _⟩ := W1.1.1
  refine l_rfeed (M := M1) (t := w.gTp) h5 ⟨o3.1, hB⟩ (fun M2 f1 f2 f3 f4 => hK hz hB M2 (fun z hz => by rw [f1 z (by omega) (by omega)]; exact ez z (by omega)) (W1.tp f1 f2 ⟨f3, fun i i0 i1 => ⟨f4 i i0 i1, ?_⟩, by omega, by omega⟩) (by rw [f2 0 (by decide)]; exact e0)) 20 0 M1 rfl (fun _ _ _ => rfl) (fun _ _ => rfl) (by rw [o1']; omega) (fun i i0 i1 => ?_)
  · unfold fdT
    split
    · exact fdV_r _ _ _ _ _ _
    · exact (o2' i i0 (by omega)).2
  · unfold fdT
    rw [if_neg (by omega)]
    exact (o2' i i0 (by omega)).1
end FEED

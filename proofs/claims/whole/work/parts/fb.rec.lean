/-! A RECORD that is read: pure, and by the class -/
theorem xishl_8 {v : Int} (h0 : 0 ≤ v) (h1 : v < 8388608) : xishl v 8 = v * 256 := by
  unfold xishl
  have h : (Int32.ofInt v <<< (Int32.ofInt 8 &&& 31)).toBitVec = BitVec.ofInt 32 v <<< 8#32 := rfl
  rw [← Int32.toInt_toBitVec, h]
  have h2 : (BitVec.ofInt 32 v <<< 8#32).toNat = (v * 256).toNat := by
    rw [BitVec.shiftLeft_eq', BitVec.toNat_shiftLeft, BitVec.toNat_ofInt]
    have e1 : (v % ((2 ^ 32 : Nat) : Int)).toNat = v.toNat := by omega
    have e2 : (8#32).toNat = 8 := rfl
    rw [e1, e2, Nat.shiftLeft_eq]
    omega
  rw [BitVec.toInt_eq_toNat_of_lt (by rw [h2]; omega), h2]
  omega
theorem xior_8 {v b : Int} (h0 : 0 ≤ v) (h1 : v < 8388608) (b0 : 0 ≤ b) (b1 : b < 256) : xior (xishl v 8) b = v * 256 + b := by
  rw [xishl_8 h0 h1]
  unfold xior
  have h : (Int32.ofInt (v * 256) ||| Int32.ofInt b).toBitVec = BitVec.ofInt 32 (v * 256) ||| BitVec.ofInt 32 b := rfl
  rw [← Int32.toInt_toBitVec, h]
  have h2 : (BitVec.ofInt 32 (v * 256) ||| BitVec.ofInt 32 b).toNat = (v * 256 + b).toNat := by
    rw [BitVec.toNat_or, BitVec.toNat_ofInt, BitVec.toNat_ofInt]
    have e1 : ((v * 256) % ((2 ^ 32 : Nat) : Int)).toNat = v.toNat <<< 8 := by rw [Nat.shiftLeft_eq]; omega
    have e2 : (b % ((2 ^ 32 : Nat) : Int)).toNat = b.toNat := by omega
    rw [e1, e2, ← Nat.shiftLeft_add_eq_or_of_lt (by omega), Nat.shiftLeft_eq]
    omega
  rw [BitVec.toInt_eq_toNat_of_lt (by rw [h2]; omega), h2]
  omega
def szR (D : Int → Int) (p : Int) : Int := if p + 1 < 16384 then D p * 256 + D (p + 1) else 0
def knR (D : Int → Int) (p : Int) : Int := if p + 2 < 16384 then D (p + 2) else 0
def txK (k : Int) : Prop := k = 1 ∨ (5 ≤ k ∧ k ≤ 7)
def cRd (D : Int → Int) (p s : Int) : Int := pl4 (chk (fun i => D (p + i)) (s - 4).toNat) p
/-- a sound record stands at p -/
def isR (D : Int → Int) (p : Int) : Prop := (1 ≤ knR D p ∧ knR D p ≤ 8) ∧ p + szR D p ≤ 16384 ∧ (txK (knR D p) → 7 + 8 * xrec (knR D p) ≤ szR D p) ∧ (¬ txK (knR D p) → szR D p = 7 + 8 * xrec (knR D p)) ∧ ∀ i : Nat, i < 4 → D (p + szR D p - 4 + i) = by4 (cRd D p (szR D p)) i
def dnV (D : Int → Int) (a : Int) : Nat → Int
  | 0 => 0
  | k + 1 => xlor (xlshl (dnV D a k) 8) (if 0 ≤ a + k ∧ a + k < 16384 then D (a + k) else 0)
theorem dn4 {D : Int → Int} {a : Int} (ha : 0 ≤ a ∧ a + 4 ≤ 16384) (hD : ∀ i, 0 ≤ i → i < 16384 → 0 ≤ D i ∧ D i < 256) : dnV D a 4 = ((D a * 256 + D (a + 1)) * 256 + D (a + 2)) * 256 + D (a + 3) := by
  have b0 := hD a (by omega) (by omega)
  have b1 := hD (a + 1) (by omega) (by omega)
  have b2 := hD (a + 2) (by omega) (by omega)
  have b3 := hD (a + 3) (by omega) (by omega)
  have e0 : dnV D a 1 = D a := by
    show xlor (xlshl 0 8) (if 0 ≤ a + ((0 : Nat) : Int) ∧ a + ((0 : Nat) : Int) < 16384 then D (a + ((0 : Nat) : Int)) else 0) = _
    rw [show a + ((0 : Nat) : Int) = a by omega, if_pos ⟨by omega, by omega⟩, xlor_8 (by decide) (by decide) b0.1 b0.2]; omega
  have e1 : dnV D a 2 = D a * 256 + D (a + 1) := by
    show xlor (xlshl (dnV D a 1) 8) (if 0 ≤ a + ((1 : Nat) : Int) ∧ a + ((1 : Nat) : Int) < 16384 then D (a + ((1 : Nat) : Int)) else 0) = _
    rw [show a + ((1 : Nat) : Int) = a + 1 by omega, if_pos ⟨by omega, by omega⟩, e0, xlor_8 (by omega) (by omega) b1.1 b1.2]
  have e2 : dnV D a 3 = (D a * 256 + D (a + 1)) * 256 + D (a + 2) := by
    show xlor (xlshl (dnV D a 2) 8) (if 0 ≤ a + ((2 : Nat) : Int) ∧ a + ((2 : Nat) : Int) < 16384 then D (a + ((2 : Nat) : Int)) else 0) = _
    rw [show a + ((2 : Nat) : Int) = a + 2 by omega, if_pos ⟨by omega, by omega⟩, e1, xlor_8 (by omega) (by omega) b2.1 b2.2]
  show xlor (xlshl (dnV D a 3) 8) (if 0 ≤ a + ((3 : Nat) : Int) ∧ a + ((3 : Nat) : Int) < 16384 then D (a + ((3 : Nat) : Int)) else 0) = _
  rw [show a + ((3 : Nat) : Int) = a + 3 by omega, if_pos ⟨by omega, by omega⟩, e2, xlor_8 (by omega) (by omega) b3.1 b3.2]
theorem by4_eq {c b0 b1 b2 b3 : Int} (hc : im_i32 c) (h0 : 0 ≤ b0 ∧ b0 < 256) (h1 : 0 ≤ b1 ∧ b1 < 256) (h2 : 0 ≤ b2 ∧ b2 < 256) (h3 : 0 ≤ b3 ∧ b3 < 256) : ((((b0 * 256 + b1) * 256 + b2) * 256 + b3).bmod 4294967296 = c) ↔ (b0 = by4 c 0 ∧ b1 = by4 c 1 ∧ b2 = by4 c 2 ∧ b3 = by4 c 3) := by
  have e0 : by4 c 0 = c / 16777216 % 256 := rfl
  have e1 : by4 c 1 = c / 65536 % 256 := rfl
  have e2 : by4 c 2 = c / 256 % 256 := rfl
  have e3 : by4 c 3 = c % 256 := rfl
  rw [e0, e1, e2, e3]
  have hb : (((b0 * 256 + b1) * 256 + b2) * 256 + b3).bmod 4294967296 = if ((b0 * 256 + b1) * 256 + b2) * 256 + b3 < 2147483648 then ((b0 * 256 + b1) * 256 + b2) * 256 + b3 else ((b0 * 256 + b1) * 256 + b2) * 256 + b3 - 4294967296 := by
    unfold Int.bmod
    rw [Int.emod_eq_of_lt (by omega) (by omega)]
    rfl
  rw [hb]
  constructor
  · intro h
    split at h <;> omega
  · intro h
    split <;> omega
section JREAD
variable {g : im_g} {d : Nat} {e : im_E} {M : im_M} {K : im_K} {D : Int → Int} {u : Int}
/-- the disk and where it stands -/
def jD (M : im_M) (D : Int → Int) (u : Int) : Prop := txt (M 2069) D 16384 ∧ M 2068 1 = u ∧ (0 ≤ u ∧ u ≤ 16384)
theorem jD.b (h : jD M D u) : ∀ i, 0 ≤ i → i < 16384 → 0 ≤ D i ∧ D i < 256 ∧ M 2069 i % 256 = D i := fun i a b => by have := h.1 i a b; omega
theorem c_kindHere (h : jD M D u) (hK : K (.inl (some (vI (knR D u)))) e M) : im_T g d 27 0 [some (.ref 2068)] [] e M K := by
  obtain ⟨h1, h2, h3⟩ := id h
  refine k_Journal_kindHere_0 ?_
  rw [h2]
  refine ⟨by constructor <;> omega, fun z => ⟨by omega, z⟩, fun x hx => ?_⟩
  have : x = knR D u := by
    unfold knR
    by_cases c : u + 2 < 16384
    · rw [if_pos c]
      have := h.b (u + 2) (by omega) c
      rw [xiand_255] at hx; omega
    · rw [if_neg c]; omega
  rw [this]; exact hK
theorem c_lengthHere (h : jD M D u) (hK : K (.inl (some (vI (szR D u)))) e M) : im_T g d 26 0 [some (.ref 2068)] [] e M K := by
  obtain ⟨h1, h2, h3⟩ := id h
  refine k_Journal_lengthHere_0 ?_
  rw [h2]
  refine ⟨by constructor <;> omega, fun z => ⟨⟨by omega, by omega⟩, by omega, z⟩, fun x hx => ?_⟩
  have : x = szR D u := by
    unfold szR
    by_cases c : u + 1 < 16384
    · rw [if_pos c]
      have a1 := h.b u (by omega) (by omega)
      have a2 := h.b (u + 1) (by omega) c
      rw [xiand_255, xiand_255, a1.2.2, a2.2.2, xior_8 a1.1 (by omega) a2.1 a2.2.1] at hx; omega
    · rw [if_neg c]; omega
  rw [this]; exact hK
theorem szR_b (hD : ∀ i, 0 ≤ i → i < 16384 → 0 ≤ D i ∧ D i < 256) (hu : 0 ≤ u) : 0 ≤ szR D u ∧ szR D u < 65536 := by
  unfold szR
  split
  · have := hD u (by omega) (by omega)
    have := hD (u + 1) (by omega) (by omega)
    omega
  · omega
theorem l_bytesAt {a : Int} {n : Nat} (h : jD M D u) (ha : -100 ≤ a ∧ a ≤ 100000) (hn : n ≤ 8) (hK : K (.inl (some (vL (dnV D a n)))) e M) : ∀ (j k : Nat), k + j = n → im_T g d 32 5 [some (.ref 2068), some (vI a), some (vI n), some (vL (dnV D a k)), none, some (vI (a + k))] [] e M K := by
  intro j
  induction j with
  | zero =>
    intro k hk
    have : k = n := by omega
    subst this
    exact k_Journal_bytesAt_5 ⟨by constructor <;> omega, by constructor <;> omega, ⟨fun _ => hK, fun z => by omega⟩, fun z => by omega⟩
  | succ j ih =>
    intro k hk
    have := ih (k + 1) (by omega)
    have hs : dnV D a (k + 1) = xlor (xlshl (dnV D a k) 8) (if 0 ≤ a + k ∧ a + k < 16384 then D (a + k) else 0) := rfl
    rw [hs, show (a + ((k + 1 : Nat) : Int)) = a + k + 1 by omega] at this
    refine k_Journal_bytesAt_5 ⟨by constructor <;> omega, by constructor <;> omega, ⟨fun z => by omega, fun _ z0 z1 => ⟨⟨z0, z1⟩, ?_⟩⟩, fun hor => ?_⟩
    · rw [if_pos ⟨z0, z1⟩] at this
      have hb := h.b (a + k) z0 z1
      rw [xiand_255, hb.2.2]; exact this
    · rw [if_neg (by omega)] at this; exact this
theorem c_bytesAt {a : Int} {n : Nat} (h : jD M D u) (ha : -100 ≤ a ∧ a ≤ 100000) (hn : n ≤ 8) (hK : K (.inl (some (vL (dnV D a n)))) e M) : im_T g d 32 0 [some (.ref 2068), some (vI a), some (vI n), none, none, none] [] e M K := by
  have := l_bytesAt (g := g) (d := d) (K := K) h ha hn hK n 0 (by omega)
  rw [show (a + ((0 : Nat) : Int)) = a by omega] at this
  exact k_Journal_bytesAt_0 this
theorem c_numberAt {q : Int} (h : jD M D u) (hq : 0 ≤ q ∧ q ≤ 2) (hd : 1 ≤ d) (hK : K (.inl (some (vL (dnV D (u + 3 + 8 * q) 8)))) e M) : im_T g d 35 0 [some (.ref 2068), some (vI q)] [] e M K := by
  refine k_Journal_numberAt_0 hd ?_
  rw [h.2.1]
  have hu := h.2.2
  exact c_bytesAt (n := 8) h (by omega) (by decide) ⟨_, rfl, rfl, hK⟩
theorem l_sound {s : Int} (h : jD M D u) (hs : 4 ≤ s ∧ u + s ≤ 16384) (hd : 2 ≤ d) (hK : ∀ x, ((∀ i : Nat, i < 4 → D (u + s - 4 + i) = by4 (cRd D u s) i) → x = s) → (¬ (∀ i : Nat, i < 4 → D (u + s - 4 + i) = by4 (cRd D u s) i) → x = 0) → K (.inl (some (vI x))) e M) :
    ∀ (j k : Nat), k + j = (s - 4).toNat → im_T g d 25 74 [some (.ref 2068), some (vI s), none, none, some (vI (chk (fun i => D (u + i)) k)), some (vI (u + k)), none] [] e M K := by
  have hu := h.2.2
  intro j
  induction j with
  | zero =>
    intro k hk
    have ek : k = (s - 4).toNat := by omega
    refine k_Journal_soundLength_74' (by omega) ?_
    rw [h.2.1]
    refine ⟨by constructor <;> omega, by constructor <;> omega, fun _ => ?_, fun z => by omega⟩
    refine c_bytesAt (n := 4) h (by omega) (by decide) ⟨_, rfl, rfl, ?_⟩
    rw [h.2.1]
    refine c_checkPlace (by omega) (by omega) ⟨_, rfl, rfl, mx_i32 _ _, fun x hx => ?_⟩
    have hb := h.b
    rw [dn4 (by omega) (fun i a b => ⟨(hb i a b).1, (hb i a b).2.1⟩)] at hx
    have b0 := hb (u + s - 4) (by omega) (by omega)
    have b1 := hb (u + s - 4 + 1) (by omega) (by omega)
    have b2 := hb (u + s - 4 + 2) (by omega) (by omega)
    have b3 := hb (u + s - 4 + 3) (by omega) (by omega)
    have hiff := by4_eq (c := cRd D u s) (mx_i32 _ _) ⟨b0.1, b0.2.1⟩ ⟨b1.1, b1.2.1⟩ ⟨b2.1, b2.2.1⟩ ⟨b3.1, b3.2.1⟩
    have hall : (∀ i : Nat, i < 4 → D (u + s - 4 + i) = by4 (cRd D u s) i) ↔ (D (u + s - 4) = by4 (cRd D u s) 0 ∧ D (u + s - 4 + 1) = by4 (cRd D u s) 1 ∧ D (u + s - 4 + 2) = by4 (cRd D u s) 2 ∧ D (u + s - 4 + 3) = by4 (cRd D u s) 3) := by
      refine ⟨fun q => ⟨by have := q 0 (by decide); rw [show u + s - 4 + ((0 : Nat) : Int) = u + s - 4 by omega] at this; exact this, q 1 (by decide), q 2 (by decide), q 3 (by decide)⟩, fun ⟨q0, q1, q2, q3⟩ i hi => ?_⟩
      match i, hi with
      | 0, _ => rw [show u + s - 4 + ((0 : Nat) : Int) = u + s - 4 by omega]; exact q0
      | 1, _ => exact q1
      | 2, _ => exact q2
      | 3, _ => exact q3
    have ec : pl4 (chk (fun i => D (u + i)) k) u = cRd D u s := by rw [ek]; rfl
    rw [ec] at hx
    refine hK x (fun z => ?_) (fun z => ?_)
    · have := hiff.mpr (hall.mp z)
      rcases hx with q | q
      · exact absurd this q.1
      · exact q.2
    · rcases hx with q | q
      · exact q.2
      · exact absurd (hall.mpr (hiff.mp q.1)) z
  | succ j ih =>
    intro k hk
    have := ih (k + 1) (by omega)
    have hs' : chk (fun i => D (u + i)) (k + 1) = mx (chk (fun i => D (u + i)) k) (D (u + k)) := rfl
    rw [hs', show (u + ((k + 1 : Nat) : Int)) = u + k + 1 by omega] at this
    have hb := h.b (u + k) (by omega) (by omega)
    refine k_Journal_soundLength_74' (by omega) ?_
    rw [h.2.1]
    refine ⟨by constructor <;> omega, by constructor <;> omega, fun z => by omega, fun _ => ⟨⟨by omega, by omega⟩, c_mixed ⟨_, rfl, rfl, ?_⟩⟩⟩
    rw [← mx_m, hb.2.2]; exact this
theorem c_soundLength (h : jD M D u) (hd : 3 ≤ d) (hK : ∀ x, (isR D u → x = szR D u) → (¬ isR D u → x = 0) → K (.inl (some (vI x))) e M) : im_T g d 25 0 [some (.ref 2068), none, none, none, none, none, none] [] e M K := by
  have hu := h.2.2
  have hb := h.b
  have sb := szR_b (D := D) (u := u) (fun i a b => ⟨(hb i a b).1, (hb i a b).2.1⟩) hu.1
  refine k_Journal_soundLength_0 (by omega) (c_lengthHere h ⟨_, rfl, rfl, c_kindHere h ⟨_, rfl, rfl, ?_⟩⟩)
  rw [h.2.1]
  have hk : im_i32 (knR D u) := by
    unfold knR
    split
    · have := hb (u + 2) (by omega) (by omega); constructor <;> omega
    · decide
  unfold isR at hK
  refine ⟨hk, fun k1 k8 => ⟨by constructor <;> omega, fun hle => ?_⟩, fun hor => hK 0 (fun z => ?_) (fun _ => rfl)⟩
  · have hx := xrec_in (knR D u).toNat
    have hxr : 0 ≤ xrec (knR D u) ∧ xrec (knR D u) ≤ 3 := hx
    refine k_Journal_lengthOf_0 ⟨⟨by omega, by omega⟩, _, rfl, rfl, ?_⟩
    rw [show 7 + 8 * xrec (knR D u) + 0 = 7 + 8 * xrec (knR D u) by omega]
    have go : ∀ x17 : Int, (x17 = 1 ∧ txK (knR D u) ∨ x17 = 0 ∧ ¬ txK (knR D u)) → (im_i32 x17) ∧ ((((x17 = 0 → (im_i32 (szR D u)) ∧ (im_i32 (7 + 8 * xrec (knR D u)))) ∧ (¬ x17 = 0 → (im_i32 (szR D u)) ∧ (im_i32 (7 + 8 * xrec (knR D u)))))) ∧ ((((x17 = 0) ∧ (¬ szR D u = 7 + 8 * xrec (knR D u))) ∨ ((¬ x17 = 0) ∧ (szR D u < 7 + 8 * xrec (knR D u)))) → K (.inl (some (vI 0))) e M) ∧ ((((x17 = 0) ∧ (szR D u = 7 + 8 * xrec (knR D u))) ∨ ((¬ x17 = 0) ∧ (7 + 8 * xrec (knR D u) ≤ szR D u))) → im_T g (d - 1) 30 0 [] [] e M (im_ri (fun x33 e_ M32 => e = e_ ∧ im_T g d 25 74 [some (.ref 2068), some (vI (szR D u)), none, none, some (vI x33), some (vI (M32 2068 1)), none] [] e M32 K)))) := by
      intro x17 h17
      have hbd : im_i32 (szR D u) ∧ im_i32 (7 + 8 * xrec (knR D u)) := ⟨by constructor <;> omega, by constructor <;> omega⟩
      refine ⟨by constructor <;> omega, ⟨fun _ => hbd, fun _ => hbd⟩, fun hor => hK 0 (fun z => ?_) (fun _ => rfl), fun hor => ?_⟩
      · exfalso
        obtain ⟨_, _, z3, z4, _⟩ := z
        rcases h17 with ⟨q1, q2⟩ | ⟨q1, q2⟩
        · have := z3 q2; omega
        · have := z4 q2; omega
      · have hsz : 7 ≤ szR D u := by omega
        refine k_Journal_firstCheck_0 ⟨_, rfl, rfl, ?_⟩
        rw [h.2.1]
        have hA : (txK (knR D u) → 7 + 8 * xrec (knR D u) ≤ szR D u) ∧ (¬ txK (knR D u) → szR D u = 7 + 8 * xrec (knR D u)) := by
          rcases h17 with ⟨q1, q2⟩ | ⟨q1, q2⟩
          · exact ⟨fun _ => by omega, fun z => absurd q2 z⟩
          · exact ⟨fun z => absurd z q2, fun _ => by omega⟩
        have := l_sound (g := g) (d := d) (e := e) (K := K) (s := szR D u) h ⟨by omega, hle⟩ (by omega) (fun x hx1 hx0 => hK x (fun z => hx1 z.2.2.2.2) (fun z => hx0 (fun q => z ⟨⟨k1, k8⟩, hle, hA.1, hA.2, q⟩))) (szR D u - 4).toNat 0 (by omega)
        rw [show (u + ((0 : Nat) : Int)) = u by omega] at this
        exact this
    refine k_Journal_takesText_0 ⟨hk, fun hor => ⟨_, rfl, rfl, go 1 (Or.inl ⟨rfl, by unfold txK; omega⟩)⟩, fun hor => ⟨_, rfl, rfl, go 0 (Or.inr ⟨rfl, by unfold txK; omega⟩)⟩⟩
  · exfalso
    obtain ⟨z1, z2, _⟩ := z
    omega
end JREAD

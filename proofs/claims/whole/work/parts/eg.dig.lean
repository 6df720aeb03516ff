/-! WHAT IS PUT OUT, as a list of bytes; a number's digits -/
def lpu (L : List Int) (b : Int) : List Int := if L.length < 16384 then L ++ [b] else L
def lps (L B : List Int) : List Int := B.foldl lpu L
/-- a gap before what follows, if something stands before -/
def lga (L : List Int) : List Int := if L.length = 0 then L else lpu L 32
def obL (L : List Int) (i : Int) : Int := L.getD i.toNat 0
theorem lps_nil (L : List Int) : lps L [] = L := rfl
theorem lps_cons (L : List Int) (b : Int) (B : List Int) : lps L (b :: B) = lps (lpu L b) B := rfl
theorem lps_app (L A B : List Int) : lps L (A ++ B) = lps (lps L A) B := by unfold lps; rw [List.foldl_append]
theorem lpu_len (L : List Int) (b : Int) (h : L.length ≤ 16384) : (lpu L b).length ≤ 16384 := by
  unfold lpu
  split
  · rw [List.length_append, List.length_singleton]; omega
  · exact h
def dgl (V : Int) : Nat → List Int
  | 0 => []
  | n + 1 => (48 + V / 10 ^ n % 10) :: dgl V n
def dropz : List Int → List Int
  | [] => []
  | b :: l => if b = 48 then dropz l else b :: l
def numB (v : Int) : List Int := (if v < 0 then [45] else []) ++ (if v = 0 then [48] else []) ++ dropz (dgl (v.natAbs : Int) 400)
theorem dgl_z {V : Int} {n : Nat} (h0 : 0 ≤ V) (h1 : V < 10 ^ n) (k : Nat) : dropz (dgl V (n + k)) = dropz (dgl V n) := by
  induction k with
  | zero => rfl
  | succ k ih =>
    show dropz ((48 + V / 10 ^ (n + k) % 10) :: dgl V (n + k)) = _
    have hp : (10 : Int) ^ n ≤ 10 ^ (n + k) := bpow_le (B := 10) (by decide) (by omega)
    rw [Int.ediv_eq_zero_of_lt h0 (by omega)]
    exact ih
theorem dgl_t {V : Int} {n : Nat} (h0 : 10 ^ n ≤ V) (h1 : V < 10 ^ (n + 1)) : dropz (dgl V (n + 1)) = dgl V (n + 1) := by
  show dropz ((48 + V / 10 ^ n % 10) :: dgl V n) = _
  have hp : (0 : Int) < 10 ^ n := bpow_pos (by decide) n
  have a1 : 1 ≤ V / 10 ^ n := by
    have := Int.ediv_le_ediv hp h0
    rw [Int.ediv_self (by omega)] at this; exact this
  have a2 : V / 10 ^ n < 10 := by
    apply Int.ediv_lt_of_lt_mul hp
    rw [Int.pow_succ] at h1; rw [Int.mul_comm]; exact h1
  unfold dropz
  rw [if_neg (by omega)]
  rfl
theorem dv_dig {B : Int} (hB : 0 < B) {f : Int → Int} {o : Int} {n k : Nat} (h : dok B f o n) (hk : k < n) : dv B f o n / B ^ k % B = f (o + k) := by
  obtain ⟨j, rfl⟩ : ∃ j, n = k + 1 + j := ⟨n - (k + 1), by omega⟩
  have hb := dv_bd hB (h.le (show k ≤ k + 1 + j by omega))
  have hf := h k (by omega) (by omega)
  rw [dv_add B f o (k + 1) j, dv_succ]
  have hp : (0 : Int) < B ^ k := bpow_pos hB k
  generalize dv B f (o + ((k + 1 : Nat) : Int)) j = H
  generalize dv B f o k = Lw at hb
  generalize f (o + (k : Int)) = c at hf
  have e1 : Lw + c * B ^ k + B ^ (k + 1) * H = Lw + (c + B * H) * B ^ k := by
    rw [Int.pow_succ, Int.add_mul, Int.mul_assoc, Int.mul_comm (B ^ k) (B * H), Int.add_assoc]
  rw [e1, Int.add_mul_ediv_right _ _ (by omega), Int.ediv_eq_zero_of_lt hb.1 hb.2, Int.zero_add, Int.add_mul_emod_self_left, Int.emod_eq_of_lt hf.1 hf.2]
theorem p109 (i : Nat) : (1000000000 : Int) ^ i = 10 ^ (9 * i) := by
  induction i with
  | zero => rfl
  | succ i ih =>
    rw [Int.pow_succ, ih, show 9 * (i + 1) = 9 * i + 9 by omega, Int.pow_add]
    rfl
theorem dg_sp {V : Int} (h0 : 0 ≤ V) (i u : Nat) (hu : u < 9) : V / 1000000000 ^ i % 1000000000 / 10 ^ u % 10 = V / 10 ^ (9 * i + u) % 10 := by
  have hp : (0 : Int) < 10 ^ (9 * i) := bpow_pos (by decide) _
  rw [p109, Int.pow_add, ← Int.ediv_ediv_of_nonneg (Int.le_of_lt hp)]
  generalize V / 10 ^ (9 * i) = X
  match u, hu with
  | 0, _ => show X % 1000000000 / 1 % 10 = X / 1 % 10; omega
  | 1, _ => show X % 1000000000 / 10 % 10 = X / 10 % 10; omega
  | 2, _ => show X % 1000000000 / 100 % 10 = X / 100 % 10; omega
  | 3, _ => show X % 1000000000 / 1000 % 10 = X / 1000 % 10; omega
  | 4, _ => show X % 1000000000 / 10000 % 10 = X / 10000 % 10; omega
  | 5, _ => show X % 1000000000 / 100000 % 10 = X / 100000 % 10; omega
  | 6, _ => show X % 1000000000 / 1000000 % 10 = X / 1000000 % 10; omega
  | 7, _ => show X % 1000000000 / 10000000 % 10 = X / 10000000 % 10; omega
  | 8, _ => show X % 1000000000 / 100000000 % 10 = X / 100000000 % 10; omega
/-- the class's list of bytes -/
def cOL (M : im_M) (L : List Int) : Prop := cOut M (obL L) (L.length : Int)
def rOL (M : im_M) (L : List Int) : Prop := rOut M (obL L) (L.length : Int)
theorem obL_app (L : List Int) (b : Int) {k : Int} (h0 : 0 ≤ k) : obL (L ++ [b]) k = if k = L.length then b else obL L k := by
  unfold obL
  by_cases c : k = L.length
  · rw [if_pos c, c, List.getD_eq_getElem?_getD, List.getElem?_append_right (by omega)]
    simp
  · rw [if_neg c, List.getD_eq_getElem?_getD, List.getD_eq_getElem?_getD]
    by_cases c2 : k.toNat < L.length
    · rw [List.getElem?_append_left c2]
    · rw [List.getElem?_eq_none (by rw [List.length_append, List.length_singleton]; omega), List.getElem?_eq_none (by omega)]
section PUTS
variable {g : im_g} {d : Nat} {e : im_E} {M : im_M} {K : im_K}
/-- what a writer leaves alone, on both sides -/
def wF (M M' : im_M) : Prop := (∀ x, x ≠ 7 → x ≠ 8 → M' x = M x) ∧ (∀ k, k ≠ 1 → M' 7 k = M 7 k)
def qF (M M' : im_M) : Prop := (∀ x, x ≠ 6952 → x ≠ 6954 → M' x = M x) ∧ (∀ k, k ≠ 4 → M' 6952 k = M 6952 k)
theorem wF.rf (M : im_M) : wF M M := ⟨fun _ _ _ => rfl, fun _ _ => rfl⟩
theorem wF.trans {M M1 M2 : im_M} (h : wF M M1) (h' : wF M1 M2) : wF M M2 := ⟨fun x a b => (h'.1 x a b).trans (h.1 x a b), fun k a => (h'.2 k a).trans (h.2 k a)⟩
theorem qF.rf (M : im_M) : qF M M := ⟨fun _ _ _ => rfl, fun _ _ => rfl⟩
theorem qF.trans {M M1 M2 : im_M} (h : qF M M1) (h' : qF M1 M2) : qF M M2 := ⟨fun x a b => (h'.1 x a b).trans (h.1 x a b), fun k a => (h'.2 k a).trans (h.2 k a)⟩
theorem c_putL {L : List Int} {b c : Int} (ho : cOL M L) (hb : c % 256 = b) (hK : ∀ M', wF M M' → cOL M' (lpu L b) → K (.inl none) e M') : im_T g d 162 0 [some (.ref 7), some (vI c)] [] e M K := by
  refine c_put1 (b := c) ho (fun M' f1 f2 f3 f4 => hK M' ⟨f1, f2⟩ ?_)
  unfold lpu
  by_cases h : L.length < 16384
  · rw [if_pos h]
    obtain ⟨o1, o2, o3⟩ := f3 (by omega)
    refine ⟨by rw [o1, List.length_append]; rfl, fun k k0 k1 => ?_, by omega, by rw [List.length_append, List.length_singleton]; omega⟩
    rw [obL_app _ _ k0, ← hb]
    exact o2 k k0 (by rw [List.length_append, List.length_singleton] at k1; omega)
  · rw [if_neg h]; exact f4 (by omega)
theorem c_rputL {L : List Int} {b : Int} (ho : rOL M L) (hb : 0 ≤ b ∧ b < 256) (hK : ∀ M', qF M M' → rOL M' (lpu L b) → K (.inl none) e M') : im_T g d 322 0 [some (.ref 6952), some (vI b)] [] e M K := by
  obtain ⟨o1, o2, o3⟩ := ho
  refine b_put_0 ?_
  rw [o1]
  unfold lpu at hK
  refine ⟨fun z => ?_, fun z => ⟨⟨by omega, z⟩, by constructor <;> omega, by constructor <;> omega, ?_⟩⟩
  · rw [if_neg (by omega)] at hK
    exact hK M (qF.rf M) ⟨o1, o2, o3⟩
  · rw [if_pos (by omega)] at hK
    refine hK _ ⟨fun x a b => by rw [im_u_ne _ _ _ a, im_u_ne _ _ _ b], fun k a => by rw [im_rdk _ _ _ a, im_rdn _ _ _ _ (by decide)]⟩ ⟨by rw [im_rds, List.length_append]; rfl, fun k k0 k1 => ?_, by omega, by rw [List.length_append, List.length_singleton]; omega⟩
    rw [obL_app _ _ k0, im_rdn _ _ _ _ (by decide), im_rdx]
    by_cases c : k = L.length
    · rw [if_pos c, if_pos c]; exact ⟨rfl, hb⟩
    · rw [if_neg c, if_neg c]; exact o2 k k0 (by rw [List.length_append, List.length_singleton] at k1; omega)
theorem c_gapL {L : List Int} (ho : cOL M L) (hd : 1 ≤ d) (hK : ∀ M', wF M M' → cOL M' (lga L) → K (.inl none) e M') : im_T g d 178 0 [some (.ref 7)] [] e M K := by
  refine k_Writer_gap_0 hd ?_
  have o1 := ho.1
  unfold lga at hK
  rw [o1]
  refine ⟨fun z => ?_, fun z => c_putL (b := 32) ho (by decide) (fun M' f o => ⟨rfl, rfl, ?_⟩)⟩
  · rw [if_pos (by omega)] at hK; exact hK M (wF.rf M) ho
  · rw [if_neg (by omega)] at hK; exact hK M' f o
def uni (u : Nat) : Int := if u = 0 then 0 else 10 ^ (u - 1)
theorem uni_d : ∀ u : Fin 10, (uni u).tdiv 10 = uni ((u : Nat) - 1) := by decide
theorem uni_b : ∀ u : Fin 10, 0 ≤ uni u ∧ uni u ≤ 100000000 := by decide
def rem0 (p : Int) (l : List Int) : List Int := if p = 0 then dropz l else l
theorem l_num {q : Nat} {M0 : im_M} {len : Nat} (hq : im_num e q) (hq7 : q ≠ 7 ∧ q ≠ 8 ∧ q + 1 ≠ 7 ∧ q + 1 ≠ 8) (hl : len ≤ 34) (hn : dnf 1000000000 (M0 (q + 1)) 0 len) (hd : 1 ≤ d) {L9 : List Int}
    (hK : ∀ M', wF M0 M' → cOL M' L9 → K (.inl none) e M') :
    ∀ (R i u : Nat) (M : im_M) (L : List Int) (p : Int), R = 9 * i + u → u ≤ 9 → i < len → (p = 0 ∨ p = 1) → wF M0 M → cOL M L → L9 = lps L (rem0 p (dgl (dv 1000000000 (M0 (q + 1)) 0 len) R)) → im_T g d 177 47 [some (.ref 7), some (.ref q), some (vI p), some (vI i), some (vI (uni u)), none] [] e M K := by
  have hV := dv_bd (by decide) hn.1
  intro R
  induction R with
  | zero =>
    intro i u M L p hR hu hi hp hF ho hL
    have hu0 : u = 0 := by omega
    subst hu0
    have hi0 : i = 0 := by omega
    subst hi0
    refine k_Writer_number_47 hq hd ⟨by decide, fun _ => k_Writer_number_39 hq ⟨by decide, fun _ => ?_, fun z => absurd z (by decide)⟩, fun z => absurd z (by decide)⟩
    have : rem0 p (dgl (dv 1000000000 (M0 (q + 1)) 0 len) 0) = [] := by unfold rem0; split <;> rfl
    rw [this] at hL
    rw [show lps L [] = L from rfl] at hL
    exact hK M hF (by rw [hL]; exact ho)
  | succ R ih =>
    have pos : ∀ (i u : Nat) (M : im_M) (L : List Int) (p : Int), R + 1 = 9 * i + u → u ≤ 9 → 0 < u → i < len → (p = 0 ∨ p = 1) → wF M0 M → cOL M L → L9 = lps L (rem0 p (dgl (dv 1000000000 (M0 (q + 1)) 0 len) (R + 1))) → im_T g d 177 47 [some (.ref 7), some (.ref q), some (vI p), some (vI i), some (vI (uni u)), none] [] e M K := by
      intro i u M L p hR hu hu0 hi hp hF ho hL
      have ub := uni_b ⟨u, by omega⟩
      have ud := uni_d ⟨u, by omega⟩
      have up : uni u = 10 ^ (u - 1) := by unfold uni; rw [if_neg (by omega)]
      have upos : (0 : Int) < 10 ^ (u - 1) := bpow_pos (by decide) _
      dsimp only at ub ud
      have eM : M (q + 1) i = M0 (q + 1) i := by rw [hF.1 (q + 1) hq7.2.2.1 hq7.2.2.2]
      have hdg := dv_dig (by decide) hn.1 hi
      rw [Int.zero_add] at hdg
      have hb := hn.1 i (by omega) (by omega)
      rw [Int.zero_add] at hb
      have hdiv : (M (q + 1) i).tdiv (uni u) = M0 (q + 1) i / 10 ^ (u - 1) := by
        rw [eM, up, Int.tdiv_eq_ediv_of_nonneg hb.1]
      have hnn : 0 ≤ M0 (q + 1) i / 10 ^ (u - 1) := Int.ediv_nonneg hb.1 (Int.le_of_lt upos)
      have hle : M0 (q + 1) i / 10 ^ (u - 1) ≤ M0 (q + 1) i := Int.ediv_le_self _ hb.1
      have hmod : ((M (q + 1) i).tdiv (uni u)).tmod 10 = dv 1000000000 (M0 (q + 1)) 0 len / 10 ^ R % 10 := by
        rw [hdiv, Int.tmod_eq_emod_of_nonneg hnn, ← hdg, dg_sp hV.1 i (u - 1) (by omega), show 9 * i + (u - 1) = R by omega]
      have hcons : dgl (dv 1000000000 (M0 (q + 1)) 0 len) (R + 1) = (48 + dv 1000000000 (M0 (q + 1)) 0 len / 10 ^ R % 10) :: dgl (dv 1000000000 (M0 (q + 1)) 0 len) R := rfl
      rw [hcons] at hL
      refine k_Writer_number_47 hq hd ⟨by constructor <;> omega, fun z => by omega, fun _ => ⟨⟨by omega, by omega⟩, by omega, by rw [hdiv]; constructor <;> omega, by rcases hp with z | z <;> rw [z] <;> decide, ?_⟩⟩
      rw [hmod, ud]
      generalize dv 1000000000 (M0 (q + 1)) 0 len / 10 ^ R = Q at hL hcons hmod ⊢
      refine ⟨fun hp0 => ⟨by constructor <;> omega, fun hz => ?_⟩, fun hor => c_putL (L := L) (b := 48 + Q % 10) ho (by omega) (fun M' f o => ⟨rfl, rfl, ?_⟩)⟩
      · refine ih i (u - 1) M L 0 (by omega) (by omega) hi (Or.inl rfl) hF ho ?_
        rw [hL, hp0, hz]
        rfl
      · refine ih i (u - 1) M' (lpu L (48 + Q % 10)) 1 (by omega) (by omega) hi (Or.inr rfl) (hF.trans f) o ?_
        rw [hL]
        have : rem0 p ((48 + Q % 10) :: dgl (dv 1000000000 (M0 (q + 1)) 0 len) R) = (48 + Q % 10) :: dgl (dv 1000000000 (M0 (q + 1)) 0 len) R := by
          unfold rem0
          by_cases c : p = 0
          · rw [if_pos c]; unfold dropz; rw [if_neg (by omega)]
          · rw [if_neg c]
        rw [this]
        rfl
    intro i u M L p hR hu hi hp hF ho hL
    by_cases hu0 : 0 < u
    · exact pos i u M L p hR hu hu0 hi hp hF ho hL
    · have : u = 0 := by omega
      subst this
      refine k_Writer_number_47 hq hd ⟨by decide, fun _ => k_Writer_number_39 hq ⟨by constructor <;> omega, fun z => by omega, fun _ => ?_⟩, fun z => absurd z (by decide)⟩
      have := pos (i - 1) 9 M L p (by omega) (by omega) (by omega) (by omega) hp hF ho hL
      rw [show ((i - 1 : Nat) : Int) = (i : Int) + (-1) by omega] at this
      exact this
theorem c_numberL {q : Nat} {v : Int} {L : List Int} (hq : im_num e q) (hq7 : q ≠ 7 ∧ q ≠ 8 ∧ q + 1 ≠ 7 ∧ q + 1 ≠ 8) (hv : cn M q v) (ho : cOL M L) (hd : 2 ≤ d) (hK : ∀ M', wF M M' → cOL M' (lps (lga L) (numB v)) → K (.inl none) e M') : im_T g d 177 0 [some (.ref 7), some (.ref q), none, none, none, none] [] e M K := by
  obtain ⟨n, h1, h2, h3, h4, h5, h6⟩ := hv
  have hV := dv_bd (by decide) h3.1
  refine k_Writer_number_0 hq (by omega) (c_gapL ho (by omega) (fun M1 f1 o1 => ⟨rfl, rfl, ?_⟩))
  have go : ∀ (M2 : im_M) (L2 : List Int), wF M M2 → cOL M2 L2 → lps (lga L) (numB v) = lps L2 (dropz (dgl (dv 1000000000 (M (q + 1)) 0 n) (9 * n))) → im_T g d 177 39 [some (.ref 7), some (.ref q), some (vI 0), some (vI ((M2 q 1) - 1)), none, none] [] e M2 K := by
    intro M2 L2 f2 o2 hL
    rw [f2.1 q hq7.1 hq7.2.1, h1]
    refine k_Writer_number_39 hq ⟨by constructor <;> omega, fun z => ?_, fun z => ?_⟩
    · have : n = 0 := by omega
      subst this
      rw [show lps L2 (dropz (dgl (dv 1000000000 (M (q + 1)) 0 0) (9 * 0))) = L2 from rfl] at hL
      exact hK M2 f2 (by rw [hL]; exact o2)
    · have := l_num (g := g) (d := d) (K := K) (L9 := lps (lga L) (numB v)) hq hq7 h2 h3 (by omega) hK (9 * n) (n - 1) 9 M2 L2 0 (by omega) (by omega) (by omega) (Or.inl rfl) f2 o2 hL
      rw [show ((n - 1 : Nat) : Int) = (n : Int) - 1 by omega] at this
      exact this
  have hz : dropz (dgl (dv 1000000000 (M (q + 1)) 0 n) 400) = dropz (dgl (dv 1000000000 (M (q + 1)) 0 n) (9 * n)) := by
    have := dgl_z (n := 9 * n) hV.1 (by rw [← p109]; exact hV.2) (400 - 9 * n)
    rw [show 9 * n + (400 - 9 * n) = 400 by omega] at this
    exact this
  have hpos : 0 < n → 0 < dv 1000000000 (M (q + 1)) 0 n := fun hn => by
    have := dnf_pos (by decide) h3 hn
    have h0 : (0 : Int) < 1000000000 ^ (n - 1) := bpow_pos (by decide) _
    omega
  have e0 : M1 q 0 = M q 0 := by rw [f1.1 q hq7.1 hq7.2.1]
  rw [e0]
  rcases h4 with ⟨s0, n0⟩ | ⟨s1 | s1, n0⟩
  · rw [s0]
    refine ⟨fun _ => ⟨fun z => absurd rfl z, fun _ => c_putL (b := 48) o1 (by decide) (fun M2 f2 o2 => ⟨rfl, rfl, go M2 _ (f1.trans f2) o2 ?_⟩)⟩, fun z => absurd z (by decide)⟩
    rw [s0, Int.zero_mul] at h5
    subst n0
    rw [h5]
    have : dropz (dgl (((0 : Int).natAbs : Nat) : Int) 400) = [] := hz
    unfold numB
    rw [this]
    rfl
  · rw [s1]
    refine ⟨fun _ => ⟨fun _ => go M1 _ f1 o1 ?_, fun z => absurd z (by decide)⟩, fun z => absurd z (by decide)⟩
    rw [s1, Int.one_mul] at h5
    have := hpos n0
    unfold numB
    rw [if_neg (by omega), if_neg (by omega), show ((v.natAbs : Nat) : Int) = v by omega, h5, hz]
    rfl
  · rw [s1]
    refine ⟨fun z => absurd z (by decide), fun _ => c_putL (b := 45) o1 (by decide) (fun M2 f2 o2 => ⟨rfl, rfl, ?_⟩)⟩
    have e2 : M2 q 0 = -1 := by rw [f2.1 q hq7.1 hq7.2.1, e0, s1]
    rw [e2]
    refine ⟨fun _ => go M2 _ (f1.trans f2) o2 ?_, fun z => absurd z (by decide)⟩
    rw [s1] at h5
    have := hpos n0
    unfold numB
    rw [if_pos (by omega), if_neg (by omega), show ((v.natAbs : Nat) : Int) = -v by omega, show -v = dv 1000000000 (M (q + 1)) 0 n by omega, hz]
    rfl
theorem l_rnum {M0 : im_M} {r : Int} {n : Nat} (hr : 0 ≤ r) (hr2 : r + 2 + n ≤ 1100000) (hn : dok 10 (M0 6955) (r + 2) n) (hd : 1 ≤ d) {L9 : List Int} (hK : ∀ M', qF M0 M' → rOL M' L9 → K (.inl none) e M') :
    ∀ (k : Nat) (M : im_M) (L : List Int), k ≤ n → qF M0 M → rOL M L → L9 = lps L (dgl (dv 10 (M0 6955) (r + 2) n) k) → im_T g d 324 43 [some (.ref 6952), some (vI r), some (vI ((k : Int) - 1))] [] e M K := by
  intro k
  induction k with
  | zero =>
    intro M L hk hF ho hL
    rw [show lps L (dgl (dv 10 (M0 6955) (r + 2) n) 0) = L from rfl] at hL
    exact b_putNumber_43 hd ⟨by decide, fun _ => hK M hF (by rw [hL]; exact ho), fun z => absurd z (by decide)⟩
  | succ k ih =>
    intro M L hk hF ho hL
    have hdg := dv_dig (by decide) hn (show k < n by omega)
    have hb := hn k (by omega) (by omega)
    rw [show ((k + 1 : Nat) : Int) - 1 = (k : Int) by omega]
    refine b_putNumber_43 hd ⟨by constructor <;> omega, fun z => by omega, fun _ => ⟨⟨by omega, by omega⟩, ?_⟩⟩
    rw [hF.1 6955 (by decide) (by decide), ← hdg]
    refine c_rputL (L := L) ho (by omega) (fun M' f o => ⟨rfl, rfl, ?_⟩)
    rw [show (k : Int) + (-1) = (k : Int) - 1 by omega]
    exact ih M' _ (by omega) (hF.trans f) o hL
theorem c_rnumberL {r v T : Int} {L : List Int} (hv : rnp M 0 T r v) (hT : T ≤ 1100000) (ho : rOL M L) (hd : 1 ≤ d) (hK : ∀ M', qF M M' → rOL M' (lps L (numB v)) → K (.inl none) e M') : im_T g d 324 0 [some (.ref 6952), some (vI r), none] [] e M K := by
  obtain ⟨n, hrn, r0, rT, n300⟩ := hv
  obtain ⟨h1, h3, h4, h5⟩ := id hrn
  have hV := dv_bd (by decide) h3.1
  have go : ∀ (M2 : im_M) (L2 : List Int), qF M M2 → rOL M2 L2 → lps L (numB v) = lps L2 (dgl (dv 10 (M 6955) (r + 2) n) n) → im_T g d 324 43 [some (.ref 6952), some (vI r), some (vI ((M2 6955 (r + 1)) - 1))] [] e M2 K := by
    intro M2 L2 f2 o2 hL
    rw [f2.1 6955 (by decide) (by decide), h1]
    exact l_rnum (M0 := M) r0 (by omega) h3.1 hd hK n M2 L2 (Nat.le_refl _) f2 o2 hL
  have hz : dropz (dgl (dv 10 (M 6955) (r + 2) n) 400) = dgl (dv 10 (M 6955) (r + 2) n) n := by
    have := dgl_z (n := n) hV.1 hV.2 (400 - n)
    rw [show n + (400 - n) = 400 by omega] at this
    rw [this]
    by_cases c : n = 0
    · rw [c]; rfl
    · obtain ⟨k, rfl⟩ : ∃ k, n = k + 1 := ⟨n - 1, by omega⟩
      have h7 := dnf_pos (by decide) h3 (by omega)
      exact dgl_t h7 hV.2
  have hpos : 0 < n → 0 < dv 10 (M 6955) (r + 2) n := fun hn => by
    have := dnf_pos (by decide) h3 hn
    have h0 : (0 : Int) < 10 ^ (n - 1) := bpow_pos (by decide) _
    omega
  refine b_putNumber_0 hd ⟨⟨r0, by omega⟩, ?_⟩
  rcases h4 with ⟨s0, n0⟩ | ⟨s1 | s1, n0⟩
  · rw [s0]
    refine ⟨fun _ => ⟨⟨by omega, by omega⟩, ?_⟩, fun z => absurd z (by decide)⟩
    have h1' : M 6955 (r + 1) = 0 := by rw [h1, n0]; rfl
    rw [h1']
    refine ⟨fun z => absurd rfl z, fun _ => c_rputL ho (by decide) (fun M2 f2 o2 => ⟨rfl, rfl, go M2 _ f2 o2 ?_⟩)⟩
    rw [s0, Int.zero_mul] at h5
    subst n0
    rw [h5]
    have : dropz (dgl (((0 : Int).natAbs : Nat) : Int) 400) = [] := hz
    unfold numB
    rw [this]
    rfl
  · rw [s1, h1]
    refine ⟨fun _ => ⟨⟨by omega, by omega⟩, fun _ => ?_, fun z => by omega⟩, fun z => absurd z (by decide)⟩
    have := go M L (qF.rf M) ho (by
      rw [s1, Int.one_mul] at h5
      have := hpos n0
      unfold numB
      rw [if_neg (by omega), if_neg (by omega), show ((v.natAbs : Nat) : Int) = v by omega, h5, hz]
      rfl)
    rw [h1] at this
    exact this
  · rw [s1]
    refine ⟨fun z => absurd z (by decide), fun _ => c_rputL ho (by decide) (fun M2 f2 o2 => ⟨rfl, rfl, ⟨by omega, by omega⟩, fun _ => go M2 _ f2 o2 ?_, fun z => ?_⟩)⟩
    · rw [s1] at h5
      have := hpos n0
      unfold numB
      rw [if_pos (by omega), if_neg (by omega), show ((v.natAbs : Nat) : Int) = -v by omega, show -v = dv 10 (M 6955) (r + 2) n by omega, hz]
      rfl
    · rw [f2.1 6955 (by decide) (by decide), h1] at z; omega
end PUTS

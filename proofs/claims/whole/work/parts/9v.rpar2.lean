/-! the reference's parser: its memory against the abstract machine -/
def kR (k a : Int) : Int := if k = 0 then 1 else if k = 1 then 2 + a else if k ≤ 5 then k + 2 else if k ≤ 16 then k + 16 else if k ≤ 27 then k + 23 else if k ≤ 30 then k - 20 else if k = 31 then 8 else if k = 34 then 20 else 21
def re (R : Rw) (b : Bool) (x : en) : List en :=
  if x.1 = 104 then []
  else if x.1 = 97 then [(10, x.2.1, 0, R 1 x.2.1 + 1), (1, x.2.1, 2, R 1 x.2.1 + 1)]
  else if x.1 = 99 then [(1, x.2.1, x.2.2.1, deepOf R x.2.1)]
  else if x.1 = 118 then [(2, x.2.1, x.2.2.1, deepOf R x.2.1)]
  else if x.1 = 111 then [(3, x.2.1, x.2.2.1, deepOf R x.2.1)]
  else if x.1 = 41 then [(5, -1, 0, 0)]
  else if x.1 = 107 then [(8, x.2.1, R 3 x.2.1, R 1 x.2.1)]
  else if x.1 = 98 then [(if b then 13 else 12, x.2.1, R 6 x.2.1, 0)]
  else if x.1 = 116 then [(9, x.2.1, 0, 0)]
  else if x.1 = 100 then [(6, x.2.1, 0, 0)]
  else if x.1 = 91 then [(7, x.2.1, 0, 0)]
  else [(4, x.2.1, x.2.2.1, 0)]
def rst (R : Rw) : Bool → List en → List en
  | _, [] => []
  | b, x :: r => re R b x ++ rst R (decide (x.1 = 104)) r
theorem ifL {α : Type} {P : Prop} [Decidable P] {a b : List α} (ha : a.length ≤ 2) (hb : b.length ≤ 2) : (if P then a else b).length ≤ 2 := by
  by_cases hp : P
  · rw [if_pos hp]; exact ha
  · rw [if_neg hp]; exact hb
theorem re_len (R : Rw) (b : Bool) (x : en) : ((re R b x).length : Int) ≤ 2 ∧ (x.1 = 41 → (re R b x).length = 1) := by
  refine ⟨?_, fun h => ?_⟩
  · have o1 : ∀ z : en, [z].length ≤ 2 := fun z => Nat.le_succ 1
    have : (re R b x).length ≤ 2 := ifL (Nat.zero_le _) (ifL (Nat.le_refl _) (ifL (o1 _) (ifL (o1 _) (ifL (o1 _) (ifL (o1 _) (ifL (o1 _) (ifL (o1 _) (ifL (o1 _) (ifL (o1 _) (ifL (o1 _) (o1 _)))))))))))
    omega
  · unfold re
    rw [if_neg (by omega), if_neg (by omega), if_neg (by omega), if_neg (by omega), if_neg (by omega), if_pos h]; rfl
theorem re_congr {R R' : Rw} {b : Bool} {y : en} (h : y.1 ≠ 41 → y.2.1 ≠ -1 → R' 1 y.2.1 = R 1 y.2.1 ∧ (y.1 = 107 → R' 3 y.2.1 = R 3 y.2.1) ∧ (y.1 = 98 → R' 6 y.2.1 = R 6 y.2.1)) (h1 : y.2.1 = -1 → y.1 = 41 ∨ y.1 = 99) : re R' b y = re R b y := by
  unfold re
  have hd : y.1 ≠ 41 → deepOf R' y.2.1 = deepOf R y.2.1 := fun h41 => by
    unfold deepOf
    split
    · rfl
    · rw [(h h41 (by assumption)).1]
  by_cases c0 : y.1 = 104
  · rw [if_pos c0, if_pos c0]
  rw [if_neg c0, if_neg c0]
  by_cases c1 : y.1 = 97
  · rw [if_pos c1, if_pos c1, (h (by omega) (fun z => by have := h1 z; omega)).1]
  rw [if_neg c1, if_neg c1]
  by_cases c2 : y.1 = 99
  · rw [if_pos c2, if_pos c2, hd (by omega)]
  rw [if_neg c2, if_neg c2]
  by_cases c3 : y.1 = 118
  · rw [if_pos c3, if_pos c3, hd (by omega)]
  rw [if_neg c3, if_neg c3]
  by_cases c4 : y.1 = 111
  · rw [if_pos c4, if_pos c4, hd (by omega)]
  rw [if_neg c4, if_neg c4]
  by_cases c5 : y.1 = 41
  · rw [if_pos c5, if_pos c5]
  rw [if_neg c5, if_neg c5]
  by_cases c6 : y.1 = 107
  · have hh := h (by omega) (fun z => by have := h1 z; omega)
    rw [if_pos c6, if_pos c6, hh.1, hh.2.1 c6]
  rw [if_neg c6, if_neg c6]
  by_cases c7 : y.1 = 98
  · have hh := h (by omega) (fun z => by have := h1 z; omega)
    rw [if_pos c7, if_pos c7, hh.2.2 c7]
  rw [if_neg c7, if_neg c7]
theorem rst_congr {R R' : Rw} : ∀ (r : List en) (b : Bool), (∀ y ∈ r, (y.1 ≠ 41 → y.2.1 ≠ -1 → R' 1 y.2.1 = R 1 y.2.1 ∧ (y.1 = 107 → R' 3 y.2.1 = R 3 y.2.1) ∧ (y.1 = 98 → R' 6 y.2.1 = R 6 y.2.1)) ∧ (y.2.1 = -1 → y.1 = 41 ∨ y.1 = 99)) → rst R' b r = rst R b r := by
  intro r
  induction r with
  | nil => intro b _; rfl
  | cons x r ih =>
    intro b h
    show re R' b x ++ rst R' _ r = re R b x ++ rst R _ r
    rw [re_congr (h x List.mem_cons_self).1 (h x List.mem_cons_self).2, ih _ (fun y hy => h y (List.mem_cons_of_mem _ hy))]
theorem rst_len {R : Rw} : ∀ (r : List en) (b : Bool) {c : Int}, chn R c r → -3 ≤ c → ((rst R b r).length : Int) ≤ 2 * (c + 3) + nq r := by
  intro r
  induction r with
  | nil => intro b c _ hc; show (0 : Int) ≤ 2 * (c + 3) + 0; omega
  | cons x r ih =>
    intro b c h hc
    have e : (rst R b (x :: r)).length = (re R b x).length + (rst R (decide (x.1 = 104)) r).length := List.length_append
    have e2 : nq (x :: r) = nq r + if x.1 = 41 then 1 else 0 := rfl
    have hl := re_len R b x
    rcases h with ⟨h1, h2⟩ | ⟨h1, h2, h3, _, h5⟩
    · have := ih (decide (x.1 = 104)) h2 hc
      have := hl.2 h1
      rw [e2, if_pos h1]
      omega
    · have := ih (decide (x.1 = 104)) h5 h3
      have := hl.1
      rw [e2, if_neg h1]
      omega
def stkR (M : im_M) : List en → Prop
  | [] => True
  | y :: r => (y.1 = M 6975 r.length ∨ (y.1 = 7 ∧ M 6975 r.length = 11)) ∧ M 6976 r.length = y.2.1 ∧ M 6977 r.length = y.2.2.1 ∧ ((y.1 ≤ 3 ∨ y.1 = 8 ∨ y.1 = 10) → M 6978 r.length = y.2.2.2) ∧ stkR M r
theorem stkR_congr {M M' : im_M} : ∀ (L : List en), stkR M L → (∀ (x : Nat) (i : Int), 6975 ≤ x → x ≤ 6978 → 0 ≤ i → i < L.length → M' x i = M x i) → stkR M' L := by
  intro L
  induction L with
  | nil => intro _ _; trivial
  | cons y r ih =>
    intro h hs
    obtain ⟨h1, h2, h3, h4, h5⟩ := h
    have hl : (y :: r).length = r.length + 1 := rfl
    refine ⟨?_, ?_, ?_, fun z => ?_, ih h5 (fun x i a b c d => hs x i a b c (by omega))⟩
    · rw [hs 6975 _ (by decide) (by decide) (by omega) (by omega)]; exact h1
    · rw [hs 6976 _ (by decide) (by decide) (by omega) (by omega)]; exact h2
    · rw [hs 6977 _ (by decide) (by decide) (by omega) (by omega)]; exact h3
    · rw [hs 6978 _ (by decide) (by decide) (by omega) (by omega)]; exact h4 z
def stR (M : im_M) (L : List en) : Prop := M 6952 45 = L.length ∧ stkR M L
def SR (M M' : im_M) : Prop := (∀ x, x ≠ 6952 → (x < 6975 ∨ 6978 < x) → M' x = M x) ∧ (∀ k, k ≠ 45 → M' 6952 k = M 6952 k)
theorem SR.rf (M : im_M) : SR M M := ⟨fun _ _ _ => rfl, fun _ _ => rfl⟩
theorem SR.trans {M M1 M2 : im_M} (h : SR M M1) (h' : SR M1 M2) : SR M M2 := ⟨fun x a b => (h'.1 x a b).trans (h.1 x a b), fun k a => (h'.2 k a).trans (h.2 k a)⟩
/-- what the parse leaves as it was -/
def XR (lo kp pk : Int) (M M' : im_M) : Prop := (∀ x, x ≠ 6952 → x ≠ 6955 → (x < 6960 ∨ 6978 < x) → M' x = M x) ∧ (∀ k, k ≠ 7 → (k < 14 ∨ 20 < k) → k ≠ 37 → k ≠ 39 → k ≠ 40 → k ≠ 45 → M' 6952 k = M 6952 k) ∧ (∀ i, i < kp → M' 6955 i = M 6955 i) ∧ (∀ (x : Nat) (i : Int), 6960 ≤ x → x ≤ 6972 → i < lo → M' x i = M x i) ∧ (∀ (x : Nat) (i : Int), x = 6973 ∨ x = 6974 → i < pk → M' x i = M x i)
theorem XR.rf (lo kp pk : Int) (M : im_M) : XR lo kp pk M M := ⟨fun _ _ _ _ => rfl, fun _ _ _ _ _ _ _ => rfl, fun _ _ => rfl, fun _ _ _ _ _ => rfl, fun _ _ _ _ => rfl⟩
theorem XR.trans {lo kp pk : Int} {M M1 M2 : im_M} (h : XR lo kp pk M M1) (h' : XR lo kp pk M1 M2) : XR lo kp pk M M2 :=
  ⟨fun x a b c => (h'.1 x a b c).trans (h.1 x a b c), fun k a b c d f i => (h'.2.1 k a b c d f i).trans (h.2.1 k a b c d f i), fun i a => (h'.2.2.1 i a).trans (h.2.2.1 i a), fun x i a b c => (h'.2.2.2.1 x i a b c).trans (h.2.2.2.1 x i a b c), fun x i a b => (h'.2.2.2.2 x i a b).trans (h.2.2.2.2 x i a b)⟩
theorem XR.sr {lo kp pk : Int} {M M1 : im_M} (h : SR M M1) : XR lo kp pk M M1 := ⟨fun x a _ c => h.1 x a (by omega), fun k _ _ _ _ _ f => h.2 k f, fun i _ => by rw [h.1 6955 (by decide) (by decide)], fun x i a b _ => by rw [h.1 x (by omega) (by omega)], fun x i a _ => by rw [h.1 x (by omega) (by omega)]⟩
/-- fields alone -/
theorem XR.fl {lo kp pk : Int} {M M1 : im_M} (h : ∀ x, x ≠ 6952 → M1 x = M x) (h' : ∀ k, k ≠ 7 → (k < 14 ∨ 20 < k) → k ≠ 37 → k ≠ 39 → k ≠ 40 → k ≠ 45 → M1 6952 k = M 6952 k) : XR lo kp pk M M1 := ⟨fun x a _ _ => h x a, h', fun i _ => by rw [h 6955 (by decide)], fun x i a b _ => by rw [h x (by omega)], fun x i a _ => by rw [h x (by omega)]⟩
theorem XR.r {lo kp pk : Int} {M M1 : im_M} (h : XR lo kp pk M M1) {x : Nat} (h1 : 6960 ≤ x) (h2 : x ≤ 6972) {i : Int} (hi : lo ≤ i) (v : Int) : XR lo kp pk M (im_u M1 x i v) :=
  ⟨fun y a b c => (im_u_ne _ _ _ (by omega)).trans (h.1 y a b c), fun k a b c d f j => (im_rdn _ _ _ _ (by omega)).trans (h.2.1 k a b c d f j), fun j a => (im_rdn _ _ _ _ (by omega)).trans (h.2.2.1 j a), fun y j a b c => by
    by_cases hy : y = x
    · subst hy; exact (im_rdk _ _ _ (by omega)).trans (h.2.2.2.1 y j a b c)
    · exact (im_rdn _ _ _ _ hy).trans (h.2.2.2.1 y j a b c), fun y j a b => (im_rdn _ _ _ _ (by omega)).trans (h.2.2.2.2 y j a b)⟩
theorem XR.l {lo kp pk : Int} {M M1 : im_M} (h : XR lo kp pk M M1) {x : Nat} (h1 : x = 6973 ∨ x = 6974) {i : Int} (hi : pk ≤ i) (v : Int) : XR lo kp pk M (im_u M1 x i v) :=
  ⟨fun y a b c => (im_u_ne _ _ _ (by omega)).trans (h.1 y a b c), fun k a b c d f j => (im_rdn _ _ _ _ (by omega)).trans (h.2.1 k a b c d f j), fun j a => (im_rdn _ _ _ _ (by omega)).trans (h.2.2.1 j a), fun y j a b c => (im_rdn _ _ _ _ (by omega)).trans (h.2.2.2.1 y j a b c), fun y j a b => by
    by_cases hy : y = x
    · subst hy; exact (im_rdk _ _ _ (by omega)).trans (h.2.2.2.2 y j a b)
    · exact (im_rdn _ _ _ _ hy).trans (h.2.2.2.2 y j a b)⟩
theorem XR.pl {lo kp pk T : Int} {M M1 : im_M} (h : RF [] [7, 8] T M M1) (hT : kp ≤ T) (h8 : M1 6952 8 = M 6952 8) : XR lo kp pk M M1 := ⟨fun x a b _ => h.1 x (fun z => by cases z) b a, fun k a b _ _ _ _ => by
    by_cases hk : k = 8
    · subst hk; exact h8
    · exact h.2.1 k (fun z => by rcases List.mem_cons.mp z with z | z; exact a z; rcases List.mem_cons.mp z with z | z; exact hk z; cases z), fun i a => h.2.2 i (by omega), fun x i a b _ => by rw [h.1 x (fun z => by cases z) (by omega) (by omega)], fun x i a _ => by rw [h.1 x (fun z => by cases z) (by omega) (by omega)]⟩
/-- a number at r in the pool -/
def rnp (M : im_M) (kp T r v : Int) : Prop := ∃ k : Nat, rn (M 6955) r k v ∧ kp ≤ r ∧ r + 2 + k ≤ T ∧ k ≤ 300
theorem rnp_congr {M M' : im_M} {kp T T' r v : Int} (h : rnp M kp T r v) (hs : ∀ i, i < T → M' 6955 i = M 6955 i) (hT : T ≤ T') : rnp M' kp T' r v := by
  obtain ⟨k, h1, h2, h3, h4⟩ := h
  exact ⟨k, rn_congr h1 (fun i _ i1 => hs i (by omega)), h2, by omega, h4⟩
def rowR (M : im_M) (R : Rw) (kp T pk P : Int) (st : List en) (i : Int) : Prop :=
  M 6960 i = kR (R 0 i) (R 3 i) ∧ (R 0 i ≠ 3 → M 6961 i = R 4 i ∧ M 6962 i = R 5 i) ∧ (R 0 i ≠ 29 → M 6963 i = R 6 i ∧ M 6972 i = 0) ∧
  (M 6964 i = R 16 i ∧ M 6965 i = R 17 i ∧ M 6966 i = R 18 i ∧ M 6967 i = R 19 i) ∧
  (R 0 i = 34 → rnp M kp T (M 6968 i) (R 7 i)) ∧
  (R 0 i = 3 → (R 5 i ≠ 0 → M 6970 i = 1 ∧ M 6961 i = R 5 i) ∧ (R 5 i = 0 → M 6970 i = 0 ∧ ((∀ x ∈ st, x.1 = 116 → x.2.1 ≠ i) → M 6969 i = R 4 i))) ∧
  (R 0 i = 29 → M 6972 i = R 6 i ∧ pk ≤ M 6971 i ∧ M 6971 i + R 6 i ≤ P ∧ ∀ k : Nat, (k : Int) < R 6 i → rnp M kp T (M 6973 (M 6971 i + k)) (R (8 + k) i) ∧ rnp M kp T (M 6974 (M 6971 i + k)) (R (12 + k) i))
theorem rowR_congr {M M' : im_M} {R R' : Rw} {kp T T' pk P P' i : Int} {st st' : List en} (h : rowR M R kp T pk P st i) (hM : ∀ x : Nat, 6960 ≤ x → x ≤ 6972 → M' x i = M x i) (hp : ∀ j, j < T → M' 6955 j = M 6955 j) (hl : ∀ (x : Nat) (j : Int), x = 6973 ∨ x = 6974 → j < P → M' x j = M x j) (hR : ∀ f : Nat, R' f i = R f i) (hT : T ≤ T') (hP : P ≤ P') (hst : R 0 i = 3 → R 5 i = 0 → (∀ x ∈ st', x.1 = 116 → x.2.1 ≠ i) → ∀ x ∈ st, x.1 = 116 → x.2.1 ≠ i) : rowR M' R' kp T' pk P' st' i := by
  obtain ⟨a1, a2, a3, a4, a5, a6, a7⟩ := h
  have e60 := hM 6960 (by decide) (by decide)
  have e61 := hM 6961 (by decide) (by decide)
  have e62 := hM 6962 (by decide) (by decide)
  have e63 := hM 6963 (by decide) (by decide)
  have e64 := hM 6964 (by decide) (by decide)
  have e65 := hM 6965 (by decide) (by decide)
  have e66 := hM 6966 (by decide) (by decide)
  have e67 := hM 6967 (by decide) (by decide)
  have e68 := hM 6968 (by decide) (by decide)
  have e69 := hM 6969 (by decide) (by decide)
  have e70 := hM 6970 (by decide) (by decide)
  have e71 := hM 6971 (by decide) (by decide)
  have e72 := hM 6972 (by decide) (by decide)
  unfold rowR
  rw [e60, e61, e62, e63, e64, e65, e66, e67, e68, e69, e70, e71, e72, hR 0, hR 3, hR 4, hR 5, hR 6, hR 16, hR 17, hR 18, hR 19, hR 7]
  refine ⟨a1, a2, a3, a4, fun z => rnp_congr (a5 z) hp hT, fun z => ⟨(a6 z).1, fun z2 => ⟨((a6 z).2 z2).1, fun z3 => ((a6 z).2 z2).2 (hst z z2 z3)⟩⟩, fun z => ?_⟩
  obtain ⟨b1, b2, b3, b4⟩ := a7 z
  refine ⟨b1, b2, by omega, fun k hk => ?_⟩
  rw [hl 6973 _ (Or.inl rfl) (by omega), hl 6974 _ (Or.inr rfl) (by omega), hR, hR]
  exact ⟨rnp_congr (b4 k hk).1 hp hT, rnp_congr (b4 k hk).2 hp hT⟩
def h104 : List en → Int
  | [] => 0
  | x :: _ => if x.1 = 104 then 1 else 0
/-- and the fault's place -/
def XS (lo kp pk : Int) (M M' : im_M) : Prop := XR lo kp pk M M' ∧ M' 6952 20 = M 6952 20
theorem XS.trans {lo kp pk : Int} {M M1 M2 : im_M} (h : XS lo kp pk M M1) (h' : XR lo kp pk M1 M2) : XR lo kp pk M M2 := XR.trans h.1 h'
theorem XS.tr {lo kp pk : Int} {M M1 M2 : im_M} (h : XS lo kp pk M M1) (h' : XR lo kp pk M1 M2) (h20 : M2 6952 20 = M1 6952 20) : XS lo kp pk M M2 := ⟨XR.trans h.1 h', h20.trans h.2⟩
def RJ (M0 M : im_M) (lo kp pk a : Int) (S : pS) (L : List en) : Prop := XS lo kp pk M0 M ∧ M 6952 39 = S.2.2.1 ∧ (kp ≤ M 6952 7 ∧ M 6952 7 ≤ kp + 3 * a) ∧ (pk ≤ M 6952 37 ∧ 2 * (M 6952 37 - pk) + h104 S.1 ≤ a) ∧ stR M L ∧ nq S.1 ≤ a ∧ (lo < S.2.2.1 → M 6952 40 = lo) ∧ (∀ i, lo ≤ i → i < S.2.2.1 → rowR M S.2.1 kp (M 6952 7) pk (M 6952 37) S.1 i) ∧ (∀ x ∈ S.1, x.1 = 98 → M 6971 x.2.1 + S.2.1 6 x.2.1 = M 6952 37) ∧ (∀ x r, S.1 = x :: r → x.1 = 104 → S.2.1 (8 + (S.2.1 6 x.2.1).toNat) x.2.1 = S.2.2.2 ∧ rnp M kp (M 6952 7) (M 6973 (M 6952 37)) S.2.2.2)
def RI (M0 M : im_M) (lo kp pk a : Int) (S : pS) : Prop := RJ M0 M lo kp pk a S (rst S.2.1 false S.1)
/-- token fields -/
def TK (M : im_M) (p q ty nm : Int) : Prop := M 6952 14 = p ∧ M 6952 15 = rk ty ∧ M 6952 16 = p ∧ M 6952 17 = q ∧ ((0 ≤ ty ∧ ty ≤ 33) ∨ ty = 35 ∨ ty = 36 → M 6952 18 = nm) ∧ M 6952 19 = 0
def ftk (ty : Int) : Int := if ty = -1 then 1 else if ty = -2 then 2 else if ty = 41 then 3 else 4
def stq (lo ty nm v : Int) (S : pS) : Sum Int pS := if ty < 0 then .inl (-ty) else if ty = 41 then .inl 3 else stp lo ty nm v S
section RPAR2
variable {g : im_g} {d : Nat} {e : im_E} {M M0 : im_M} {K : im_K}
theorem c_pushR {L : List en} {w n s dp : Int} (y : en) (h : stR M L) (hl : L.length < 29999) (hw : y.1 = w ∨ (y.1 = 7 ∧ w = 11)) (h2 : y.2.1 = n) (h3 : y.2.2.1 = s) (h4 : (y.1 ≤ 3 ∨ y.1 = 8 ∨ y.1 = 10) → y.2.2.2 = dp) (i1 : im_i32 w) (i2 : im_i32 n) (i3 : im_i32 s) (i4 : im_i32 dp) (hK : ∀ M', SR M M' → stR M' (y :: L) → K (.inl none) e M') : im_T g d 275 0 [some (.ref 6952), some (vI w), some (vI n), some (vI s), some (vI dp)] [] e M K := by
  obtain ⟨h45, hs⟩ := h
  refine b_push_0 ?_
  rw [h45]
  refine ⟨by constructor <;> omega, i1, i2, i3, i4, by constructor <;> omega, hK _ ⟨fun x a b => ?_, fun k a => ?_⟩ ⟨?_, ?_, ?_, ?_, fun z => ?_, ?_⟩⟩
  · rw [im_u_ne _ _ _ a, im_u_ne _ _ _ (by omega), im_u_ne _ _ _ (by omega), im_u_ne _ _ _ (by omega), im_u_ne _ _ _ (by omega)]
  · rw [im_rdk _ _ _ a, im_rdn _ _ _ _ (by decide), im_rdn _ _ _ _ (by decide), im_rdn _ _ _ _ (by decide), im_rdn _ _ _ _ (by decide)]
  · rw [im_rds]; show _ = ((L.length + 1 : Nat) : Int); omega
  · rw [im_rdn _ _ _ _ (by decide), im_rdn _ _ _ _ (by decide), im_rdn _ _ _ _ (by decide), im_rdn _ _ _ _ (by decide), im_rds]; exact hw
  · rw [im_rdn _ _ _ _ (by decide), im_rdn _ _ _ _ (by decide), im_rdn _ _ _ _ (by decide), im_rds]; exact h2.symm
  · rw [im_rdn _ _ _ _ (by decide), im_rdn _ _ _ _ (by decide), im_rds]; exact h3.symm
  · rw [im_rdn _ _ _ _ (by decide), im_rds]; exact (h4 z).symm
  · refine stkR_congr L hs (fun x i a b c c2 => ?_)
    have hu : ∀ (Q : im_M) (y : Nat) (w : Int), im_u Q y (L.length : Int) w x i = Q x i := fun Q y w => by
      by_cases hy : x = y
      · subst hy; exact im_rdk _ _ _ (by omega)
      · exact im_rdn _ _ _ _ hy
    rw [im_rdn _ _ _ _ (by omega), hu, hu, hu, hu]
theorem c_failR {c p : Int} (h19 : M 6952 19 = 0) (h16 : M 6952 16 = p) (hc : im_i32 c) (hK : ∀ M', (∀ x, x ≠ 6952 → M' x = M x) → (∀ k, k ≠ 19 → k ≠ 20 → M' 6952 k = M 6952 k) → M' 6952 19 = c → M' 6952 20 = p → K (.inl none) e M') : im_T g d 286 0 [some (.ref 6952), some (vI c)] [] e M K := by
  refine b_fail_0 ⟨fun z => absurd h19 z, fun _ => ⟨hc, ?_⟩⟩
  rw [h16]
  exact hK _ (fun x hx => by rw [im_u_ne _ _ _ hx, im_u_ne _ _ _ hx]) (fun k a b => by rw [im_rdk _ _ _ b, im_rdk _ _ _ a]) (by rw [im_rdk _ _ _ (by decide), im_rds]) (im_rds _ _ _ _)
theorem rk_vals (ty : Int) : (rk ty = 9 ↔ ty = -1) ∧ (rk ty = 10 ↔ ty = -2) ∧ (rk ty = 0 ↔ ty = 41) ∧ (rk ty = 1 ↔ ty = 34) ∧ (rk ty = 4 ↔ ty = 35) ∧ (rk ty = 3 ↔ ty = 36) ∧ (rk ty = 5 ↔ ty = 37) ∧ (rk ty = 6 ↔ ty = 38) ∧ (rk ty = 7 ↔ ty = 39) ∧ (rk ty = 8 ↔ ty = 40) := by
  unfold rk
  refine ⟨?_, ?_, ?_, ?_, ?_, ?_, ?_, ?_, ?_, ?_⟩ <;> (repeat' split) <;> omega
theorem rk_2 {ty : Int} (h1 : -2 ≤ ty) (h2 : ty ≤ 41) : rk ty = 2 ↔ 0 ≤ ty ∧ ty ≤ 33 := by
  unfold rk
  (repeat' split) <;> omega
theorem c_failTok {p q ty nm : Int} (h : TK M p q ty nm) (hd : 1 ≤ d) (hK : ∀ M', (∀ x, x ≠ 6952 → M' x = M x) → (∀ k, k ≠ 19 → k ≠ 20 → M' 6952 k = M 6952 k) → M' 6952 19 = ftk ty → M' 6952 20 = p → K (.inl none) e M') : im_T g d 285 0 [some (.ref 6952)] [] e M K := by
  obtain ⟨h14, h15, h16, h17, h18, h19⟩ := h
  refine b_failToken_0 hd ?_
  rw [h15]
  obtain ⟨r1, r2, r3, _⟩ := rk_vals ty
  intro x hx
  have hxf : x = ftk ty := by unfold ftk; (repeat' split) <;> omega
  subst hxf
  refine c_failR h19 h16 (by unfold ftk; (repeat' split) <;> decide) (fun M' a1 a2 a3 a4 => ⟨rfl, rfl, hK M' a1 a2 a3 a4⟩)
end RPAR2

/-! BOOKS of the class: entries in order. Content: k entries, names A, B, numbers V by place. -/
def lt2 (a b c d : Int) : Prop := a < c ∨ (a = c ∧ b < d)
def posn (k : Nat) (A B : Int → Int) (a b p : Int) : Prop := 0 ≤ p ∧ p ≤ k ∧ (∀ i, 0 ≤ i → i < p → lt2 (A i) (B i) a b) ∧ (p < k → ¬ lt2 (A p) (B p) a b)
def has2 (k : Nat) (A B : Int → Int) (a b p : Int) : Prop := p < k ∧ A p = a ∧ B p = b
theorem posn_ex (k : Nat) (A B : Int → Int) (a b : Int) : ∃ p, posn k A B a b p := by
  have : ∀ (j : Nat) (i : Int), i + j = k → 0 ≤ i → (∀ x, 0 ≤ x → x < i → lt2 (A x) (B x) a b) → ∃ p, posn k A B a b p := by
    intro j
    induction j with
    | zero => intro i hi h0 hx; exact ⟨i, h0, by omega, hx, fun z => by omega⟩
    | succ j ih =>
      intro i hi h0 hx
      by_cases h : lt2 (A i) (B i) a b
      · refine ih (i + 1) (by omega) (by omega) (fun x x0 x1 => ?_)
        by_cases hxi : x = i
        · subst hxi; exact h
        · exact hx x x0 (by omega)
      · exact ⟨i, h0, by omega, hx, fun _ => h⟩
  exact this k 0 (by omega) (Int.le_refl _) (fun x x0 x1 => by omega)
def bkN (e : im_E) (b n : Nat) : Prop := im_book e b n ∧ ∀ j : Nat, j < n → im_num e (b + 6 + 2 * j)
def cbr (M : im_M) (b n k : Nat) (π : Nat → Nat) (A B : Int → Int) : Prop := M b 4 = k ∧ k ≤ n ∧ (∀ i : Nat, i < n → π i < n ∧ M (b + 5) i = ((b + 6 + 2 * π i : Nat) : Int)) ∧ (∀ i j : Nat, i < n → j < n → π i = π j → i = j) ∧ (∀ i : Nat, i < k → M (b + 3) i = A i ∧ M (b + 4) i = B i)
def cbk (M : im_M) (b n k : Nat) (A B V : Int → Int) : Prop := ∃ π, cbr M b n k π A B ∧ (∀ i : Nat, i < k → cn M (b + 6 + 2 * π i) (V i)) ∧ cn M (b + 1) 0
def BF (b n : Nat) (M M' : im_M) : Prop := ∀ x, x < b ∨ b + 6 + 2 * n ≤ x → M' x = M x
theorem BF.rf (b n : Nat) (M : im_M) : BF b n M M := fun _ _ => rfl
theorem BF.trans {b n : Nat} {M M1 M2 : im_M} (h : BF b n M M1) (h' : BF b n M1 M2) : BF b n M M2 := fun x hx => (h' x hx).trans (h x hx)
theorem cbr_congr {M M' : im_M} {b n k : Nat} {π : Nat → Nat} {A B : Int → Int} (h : cbr M b n k π A B) (h0 : M' b 4 = M b 4) (h3 : M' (b + 3) = M (b + 3)) (h4 : M' (b + 4) = M (b + 4)) (h5 : M' (b + 5) = M (b + 5)) : cbr M' b n k π A B := by
  unfold cbr at *
  rw [h0, h3, h4, h5]
  exact h
theorem cbk_congr {M M' : im_M} {b n k : Nat} {A B V : Int → Int} (h : cbk M b n k A B V) (hs : ∀ x, b ≤ x → x < b + 6 + 2 * n → M' x = M x) : cbk M' b n k A B V := by
  obtain ⟨π, h1, h2, h3⟩ := h
  have hkn := h1.2.1
  have hpi := h1.2.2.1
  refine ⟨π, cbr_congr h1 (by rw [hs b (by omega) (by omega)]) (hs _ (by omega) (by omega)) (hs _ (by omega) (by omega)) (hs _ (by omega) (by omega)), fun i hi => ?_, cn_congr h3 (hs _ (by omega) (by omega)) (hs _ (by omega) (by omega))⟩
  have := (hpi i (by omega)).1
  exact cn_congr (h2 i hi) (hs _ (by omega) (by omega)) (hs _ (by omega) (by omega))
theorem cbk_bf {M M' : im_M} {b n k b' n' : Nat} {A B V : Int → Int} (h : cbk M b n k A B V) (hF : BF b' n' M M') (hd : b + 6 + 2 * n ≤ b' ∨ b' + 6 + 2 * n' ≤ b) : cbk M' b n k A B V := cbk_congr h (fun x h1 h2 => hF x (by omega))
theorem cbk_ext {M : im_M} {b n k : Nat} {A B V A' B' V' : Int → Int} (h : cbk M b n k A B V) (hs : ∀ i : Nat, i < k → A' i = A i ∧ B' i = B i ∧ V' i = V i) : cbk M b n k A' B' V' := by
  obtain ⟨π, ⟨h1, h2, h3, h4, h5⟩, h6, h7⟩ := h
  refine ⟨π, ⟨h1, h2, h3, h4, fun i hi => ?_⟩, fun i hi => ?_, h7⟩
  · rw [(hs i hi).1, (hs i hi).2.1]; exact h5 i hi
  · rw [(hs i hi).2.2]; exact h6 i hi
section BOOK
variable {g : im_g} {d : Nat} {e : im_E} {M M0 : im_M} {K : im_K}
theorem l_find {b n k : Nat} {π : Nat → Nat} {A B : Int → Int} {a a' p : Int} (hb : im_book e b n) (hc : cbr M b n k π A B) (ha : im_i64 a) (ha' : im_i64 a') (hp : posn k A B a a' p)
    (hK1 : has2 k A B a a' p → K (.inl (some (vI p))) e M) (hK0 : ¬ has2 k A B a a' p → K (.inl (some (vI (-1 - p)))) e M) :
    ∀ (j : Nat) (i : Int), i + j = p → 0 ≤ i → im_T g d 88 3 [some (.ref b), some (vL a), none, some (vL a'), none, some (vI i)] [] e M K := by
  obtain ⟨c1, c2, c3, c4, c5⟩ := hc
  obtain ⟨p1, p2, p3, p4⟩ := hp
  have hn60 := hb.2.2.2.2.2
  intro j
  induction j with
  | zero =>
    intro i hi h0
    obtain rfl : i = p := by omega
    refine k_Book_find_3 hb ?_
    rw [c1]
    by_cases hik : i < k
    · have h5 := c5 i.toNat (by omega)
      rw [show ((i.toNat : Nat) : Int) = i from by omega] at h5
      rw [h5.1, h5.2]
      have h4 := p4 hik
      unfold lt2 at h4
      refine ⟨by constructor <;> omega, ⟨fun z => absurd z (by omega), fun _ => ⟨by constructor <;> omega, ha, fun z1 => ⟨ha', fun z2 => hK1 ⟨hik, z1, z2⟩⟩⟩⟩, fun hor => ⟨by constructor <;> omega, ha, fun _ _ => ha', fun _ => hK0 (fun z => ?_), fun z => by omega⟩⟩
      obtain ⟨_, z1, z2⟩ := z
      omega
    · refine ⟨by constructor <;> omega, ⟨fun _ => ?_, fun z => absurd z (by omega)⟩, fun hor => by omega⟩
      rw [show (-1 : Int) - (k : Int) = -1 - i from by omega]
      exact hK0 (fun z => hik z.1)
  | succ j ih =>
    intro i hi h0
    have h5 := c5 i.toNat (by omega)
    rw [show ((i.toNat : Nat) : Int) = i from by omega] at h5
    have h3 := p3 i h0 (by omega)
    unfold lt2 at h3
    refine k_Book_find_3 hb ?_
    rw [c1, h5.1, h5.2]
    refine ⟨by constructor <;> omega, ⟨fun z => absurd z (by omega), fun _ => ⟨by constructor <;> omega, ha, fun z1 => ⟨ha', fun z2 => by omega⟩⟩⟩, fun hor => ⟨by constructor <;> omega, ha, fun _ _ => ha', fun z => by omega, fun z => ih (i + 1) (by omega) (by omega)⟩⟩
theorem c_find {b n k : Nat} {π : Nat → Nat} {A B : Int → Int} {a a' p : Int} (hb : im_book e b n) (hc : cbr M b n k π A B) (ha : im_i64 a) (ha' : im_i64 a') (hp : posn k A B a a' p)
    (hK1 : has2 k A B a a' p → K (.inl (some (vI p))) e M) (hK0 : ¬ has2 k A B a a' p → K (.inl (some (vI (-1 - p)))) e M) : im_T g d 88 0 [some (.ref b), some (vL a), none, some (vL a'), none, none] [] e M K :=
  k_Book_find_0 hb (l_find hb hc ha ha' hp hK1 hK0 p.toNat 0 (by have := hp.1; omega) (Int.le_refl _))
theorem c_held {b n k : Nat} {A B V : Int → Int} {a a' p : Int} (hb : bkN e b n) (hc : cbk M b n k A B V) (ha : im_i64 a) (ha' : im_i64 a') (hp : posn k A B a a' p) (hd : 1 ≤ d)
    (hK1 : has2 k A B a a' p → ∀ c, im_num e c → b ≤ c → c < b + 6 + 2 * n → cn M c (V p) → K (.inl (some (.ref c))) e M)
    (hK0 : ¬ has2 k A B a a' p → ∀ c, im_num e c → b ≤ c → c < b + 6 + 2 * n → cn M c 0 → K (.inl (some (.ref c))) e M) : im_T g d 89 0 [some (.ref b), some (vL a), none, some (vL a'), none, none] [] e M K := by
  obtain ⟨π, c1, c2, c3⟩ := hc
  have hn60 := hb.1.2.2.2.2.2
  have hkn := c1.2.1
  have hp0 := hp.1
  have hpk := hp.2.1
  refine k_Book_held_0 hb.1 hd (c_find hb.1 c1 ha ha' hp (fun h => ⟨_, rfl, rfl, by constructor <;> omega, fun _ => ?_, fun z => absurd z (by omega)⟩) (fun h => ⟨_, rfl, rfl, by constructor <;> omega, fun z => absurd z (by omega), fun _ => ?_⟩))
  · have hlt := h.1
    obtain ⟨q1, q2⟩ := c1.2.2.1 p.toNat (by omega)
    rw [show ((p.toNat : Nat) : Int) = p from by omega] at q2
    have hv := c2 p.toNat (by omega)
    rw [show ((p.toNat : Nat) : Int) = p from by omega] at hv
    exact ⟨by constructor <;> omega, _, q2, hb.2 _ q1, hK1 h _ (hb.2 _ q1) (by omega) (by omega) hv⟩
  · exact hK0 h _ hb.1.2.2.2.2.1 (by omega) (by omega) c3
/-- a row with one place made at p -/
def insF (f : Int → Int) (p x : Int) (i : Int) : Int := if i < p then f i else if i = p then x else f (i - 1)
def remF (f : Int → Int) (p : Int) (i : Int) : Int := if i < p then f i else f (i + 1)
def shf (f : Int → Int) (i k x : Int) : Int := if i < x ∧ x ≤ k then f (x - 1) else f x
theorem l_insert {b n k : Nat} {π : Nat → Nat} {A B : Int → Int} {a a' : Int} {p : Nat} (hb : bkN e b n) (hc : cbr M0 b n k π A B) (hkn : k < n) (hpk : p ≤ k) (ha : im_i64 a) (ha' : im_i64 a')
    (hK : ∀ M', (∀ x, x ≠ b → x ≠ b + 3 → x ≠ b + 4 → x ≠ b + 5 → M' x = M0 x) → (∀ x, x ≠ 4 → M' b x = M0 b x) → M' b 4 = (k : Int) + 1 → (∀ x : Int, M' (b + 3) x = if x = (p : Int) then a else shf (M0 (b + 3)) p k x) → (∀ x : Int, M' (b + 4) x = if x = (p : Int) then a' else shf (M0 (b + 4)) p k x) → (∀ x : Int, M' (b + 5) x = if x = (p : Int) then ((b + 6 + 2 * π k : Nat) : Int) else shf (M0 (b + 5)) p k x) → K (.inl (some (vI 1))) e M') :
    ∀ (j i : Nat) (M : im_M), i = p + j → i ≤ k → (∀ x, x ≠ b + 3 → x ≠ b + 4 → x ≠ b + 5 → M x = M0 x) → (∀ x, M (b + 3) x = shf (M0 (b + 3)) i k x) → (∀ x, M (b + 4) x = shf (M0 (b + 4)) i k x) → (∀ x, M (b + 5) x = shf (M0 (b + 5)) i k x) → im_T g d 100 31 [some (.ref b), some (vI p), some (vL a), none, some (vL a'), none, some (.ref (b + 6 + 2 * π k)), some (vI i)] [] e M K := by
  obtain ⟨c1, c2, c3, c4, c5⟩ := hc
  have hn60 := hb.1.2.2.2.2.2
  have hsp := hb.2 _ (c3 k hkn).1
  intro j
  induction j with
  | zero =>
    intro i M hi hik hF r3 r4 r5
    obtain rfl : i = p := by omega
    have e4 : im_u (im_u (im_u M (b + 3) i a) (b + 4) i a') (b + 5) i ((b + 6 + 2 * π k : Nat) : Int) b 4 = k := by
      rw [im_rdn _ _ _ _ (by omega), im_rdn _ _ _ _ (by omega), im_rdn _ _ _ _ (by omega), hF b (by omega) (by omega) (by omega)]; exact c1
    refine k_Book_insert_31 hb.1 hsp ?_
    rw [e4]
    refine ⟨by constructor <;> omega, by constructor <;> omega, fun _ => ⟨by constructor <;> omega, ha, ha', by constructor <;> omega, hK _ (fun x x0 x3 x4 x5 => ?_) (fun x x4 => ?_) (im_rds _ _ _ _) (fun x => ?_) (fun x => ?_) (fun x => ?_)⟩, fun z => absurd z (by omega)⟩
    · rw [im_u_ne _ _ _ x0, im_u_ne _ _ _ x5, im_u_ne _ _ _ x4, im_u_ne _ _ _ x3]; exact hF x x3 x4 x5
    · rw [im_rdk _ _ _ x4, im_rdn _ _ _ _ (by omega), im_rdn _ _ _ _ (by omega), im_rdn _ _ _ _ (by omega), hF b (by omega) (by omega) (by omega)]
    · rw [im_rdn _ _ _ _ (by omega), im_rdn _ _ _ _ (by omega), im_rdn _ _ _ _ (by omega)]
      by_cases hx : x = i
      · rw [if_pos hx, hx, im_rds]
      · rw [if_neg hx, im_rdk _ _ _ hx]; exact r3 x
    · rw [im_rdn _ _ _ _ (by omega), im_rdn _ _ _ _ (by omega)]
      by_cases hx : x = i
      · rw [if_pos hx, hx, im_rds]
      · rw [if_neg hx, im_rdk _ _ _ hx, im_rdn _ _ _ _ (by omega)]; exact r4 x
    · rw [im_rdn _ _ _ _ (by omega)]
      by_cases hx : x = i
      · rw [if_pos hx, hx, im_rds]
      · rw [if_neg hx, im_rdk _ _ _ hx, im_rdn _ _ _ _ (by omega), im_rdn _ _ _ _ (by omega)]; exact r5 x
  | succ j ih =>
    intro i M hi hik hF r3 r4 r5
    obtain ⟨i', rfl⟩ : ∃ i', i = i' + 1 := ⟨i - 1, by omega⟩
    obtain ⟨q1, q2⟩ := c3 i' (by omega)
    have e5 : ∀ u w, im_u (im_u M (b + 3) u w) (b + 4) u (im_u M (b + 3) u w (b + 4) (((i' + 1 : Nat) : Int) - 1)) (b + 5) (((i' + 1 : Nat) : Int) - 1) = ((b + 6 + 2 * π i' : Nat) : Int) := fun u w => by
      rw [im_rdn _ _ _ _ (by omega), im_rdn _ _ _ _ (by omega), r5]
      unfold shf
      rw [if_neg (by omega), show ((i' + 1 : Nat) : Int) - 1 = (i' : Int) from by omega]
      exact q2
    have e34 : ∀ u w, im_u M (b + 3) u w (b + 4) (((i' + 1 : Nat) : Int) - 1) = M (b + 4) (((i' + 1 : Nat) : Int) - 1) := fun u w => im_rdn _ _ _ _ (by omega)
    refine k_Book_insert_31 hb.1 hsp ⟨by constructor <;> omega, by constructor <;> omega, fun z => absurd z (by omega), fun _ => ⟨by constructor <;> omega, by constructor <;> omega, _, e5 _ _, hb.2 _ q1, ?_⟩⟩
    rw [show ((i' + 1 : Nat) : Int) + -1 = (i' : Int) from by omega, e34]
    refine ih i' _ (by omega) (by omega) (fun x x3 x4 x5 => ?_) (fun x => ?_) (fun x => ?_) (fun x => ?_)
    · rw [im_u_ne _ _ _ x5, im_u_ne _ _ _ x4, im_u_ne _ _ _ x3]; exact hF x x3 x4 x5
    · rw [im_rdn _ _ _ _ (by omega), im_rdn _ _ _ _ (by omega)]
      by_cases hx : x = ((i' + 1 : Nat) : Int)
      · rw [hx, im_rds, r3]; unfold shf; rw [if_neg (by omega), if_pos (by omega)]
      · rw [im_rdk _ _ _ hx, r3]; unfold shf
        by_cases h1 : ((i' + 1 : Nat) : Int) < x ∧ x ≤ k
        · rw [if_pos h1, if_pos (by omega)]
        · rw [if_neg h1, if_neg (by omega)]
    · rw [im_rdn _ _ _ _ (by omega)]
      by_cases hx : x = ((i' + 1 : Nat) : Int)
      · rw [hx, im_rds, r4]; unfold shf; rw [if_neg (by omega), if_pos (by omega)]
      · rw [im_rdk _ _ _ hx, im_rdn _ _ _ _ (by omega), r4]; unfold shf
        by_cases h1 : ((i' + 1 : Nat) : Int) < x ∧ x ≤ k
        · rw [if_pos h1, if_pos (by omega)]
        · rw [if_neg h1, if_neg (by omega)]
    · by_cases hx : x = ((i' + 1 : Nat) : Int)
      · rw [hx, im_rds, ← q2]; unfold shf; rw [if_pos (by omega), show ((i' + 1 : Nat) : Int) - 1 = (i' : Int) from by omega]
      · rw [im_rdk _ _ _ hx, im_rdn _ _ _ _ (by omega), im_rdn _ _ _ _ (by omega), r5]; unfold shf
        by_cases h1 : ((i' + 1 : Nat) : Int) < x ∧ x ≤ k
        · rw [if_pos h1, if_pos (by omega)]
        · rw [if_neg h1, if_neg (by omega)]
def insP (π : Nat → Nat) (p k : Nat) (i : Nat) : Nat := if i = p then π k else if p < i ∧ i ≤ k then π (i - 1) else π i
theorem c_insert {b n k : Nat} {π : Nat → Nat} {A B : Int → Int} {a a' : Int} {p : Nat} (hb : bkN e b n) (hc : cbr M b n k π A B) (hpk : p ≤ k) (ha : im_i64 a) (ha' : im_i64 a')
    (hK1 : k < n → ∀ M', (∀ x, x ≠ b → x ≠ b + 3 → x ≠ b + 4 → x ≠ b + 5 → M' x = M x) → cbr M' b n (k + 1) (insP π p k) (insF A p a) (insF B p a') → K (.inl (some (vI 1))) e M')
    (hK0 : k = n → K (.inl (some (vI 0))) e M) : im_T g d 100 0 [some (.ref b), some (vI p), some (vL a), none, some (vL a'), none, none, none] [] e M K := by
  have hc' := hc
  obtain ⟨c1, c2, c3, c4, c5⟩ := hc'
  have hn60 := hb.1.2.2.2.2.2
  refine k_Book_insert_0 hb.1 ?_
  rw [c1]
  refine ⟨by constructor <;> omega, fun hlt => ⟨by constructor <;> omega, _, (c3 k (by omega)).2, hb.2 _ (c3 k (by omega)).1, ?_⟩, fun hge => hK0 (by omega)⟩
  have hkn : k < n := by omega
  refine l_insert (M0 := M) hb hc hkn hpk ha ha' (fun M' hF hF0 h4 r3 r4 r5 => hK1 hkn M' hF ⟨by rw [h4]; omega, by omega, fun i hi => ?_, fun i j hi hj hij => ?_, fun i hi => ?_⟩) (k - p) k M (by omega) (Nat.le_refl _) (fun _ _ _ _ => rfl) (fun x => ?_) (fun x => ?_) (fun x => ?_)
  · by_cases h1 : i = p
    · have e1 : insP π p k i = π k := by unfold insP; rw [if_pos h1]
      rw [e1, r5 i, if_pos (by omega)]; exact ⟨(c3 k hkn).1, rfl⟩
    · by_cases h2 : p < i ∧ i ≤ k
      · have e1 : insP π p k i = π (i - 1) := by unfold insP; rw [if_neg h1, if_pos h2]
        have e2 : shf (M (b + 5)) p k i = M (b + 5) ((i - 1 : Nat) : Int) := by unfold shf; rw [if_pos (by omega), show (i : Int) - 1 = ((i - 1 : Nat) : Int) from by omega]
        rw [e1, r5 i, if_neg (by omega), e2]; exact c3 (i - 1) (by omega)
      · have e1 : insP π p k i = π i := by unfold insP; rw [if_neg h1, if_neg h2]
        have e2 : shf (M (b + 5)) p k i = M (b + 5) i := by unfold shf; rw [if_neg (by omega)]
        rw [e1, r5 i, if_neg (by omega), e2]; exact c3 i hi
  · unfold insP at hij
    have hq := fun u v hu hv => c4 u v hu hv
    by_cases h1 : i = p <;> by_cases h2 : j = p
    · omega
    · rw [if_pos h1, if_neg h2] at hij
      by_cases h3 : p < j ∧ j ≤ k
      · rw [if_pos h3] at hij; have := hq k (j - 1) (by omega) (by omega) hij; omega
      · rw [if_neg h3] at hij; have := hq k j (by omega) (by omega) hij; omega
    · rw [if_neg h1, if_pos h2] at hij
      by_cases h3 : p < i ∧ i ≤ k
      · rw [if_pos h3] at hij; have := hq (i - 1) k (by omega) (by omega) hij; omega
      · rw [if_neg h3] at hij; have := hq i k (by omega) (by omega) hij; omega
    · rw [if_neg h1, if_neg h2] at hij
      by_cases h3 : p < i ∧ i ≤ k <;> by_cases h4 : p < j ∧ j ≤ k
      · rw [if_pos h3, if_pos h4] at hij; have := hq (i - 1) (j - 1) (by omega) (by omega) hij; omega
      · rw [if_pos h3, if_neg h4] at hij; have := hq (i - 1) j (by omega) (by omega) hij; omega
      · rw [if_neg h3, if_pos h4] at hij; have := hq i (j - 1) (by omega) (by omega) hij; omega
      · rw [if_neg h3, if_neg h4] at hij; exact hq i j (by omega) (by omega) hij
  · by_cases h1 : i = p
    · have e1 : ∀ f x, insF f p x i = x := fun f x => by unfold insF; rw [if_neg (by omega), if_pos (by omega)]
      rw [r3 i, r4 i, e1, e1, if_pos (by omega), if_pos (by omega)]; exact ⟨rfl, rfl⟩
    · by_cases h2 : p < i ∧ i ≤ k
      · have e1 : ∀ f x, insF f p x i = f ((i - 1 : Nat) : Int) := fun f x => by unfold insF; rw [if_neg (by omega), if_neg (by omega), show (i : Int) - 1 = ((i - 1 : Nat) : Int) from by omega]
        have e2 : ∀ f, shf f p k i = f ((i - 1 : Nat) : Int) := fun f => by unfold shf; rw [if_pos (by omega), show (i : Int) - 1 = ((i - 1 : Nat) : Int) from by omega]
        rw [r3 i, r4 i, e1, e1, e2, e2, if_neg (by omega), if_neg (by omega)]; exact c5 (i - 1) (by omega)
      · have e1 : ∀ f x, insF f p x i = f i := fun f x => by unfold insF; rw [if_pos (by omega)]
        have e2 : ∀ f, shf f p k i = f i := fun f => by unfold shf; rw [if_neg (by omega)]
        rw [r3 i, r4 i, e1, e1, e2, e2, if_neg (by omega), if_neg (by omega)]; exact c5 i (by omega)
  · unfold shf; rw [if_neg (by omega)]
  · unfold shf; rw [if_neg (by omega)]
  · unfold shf; rw [if_neg (by omega)]
end BOOK

def bok (M : im_M) (b n : Nat) (π : Nat → Nat) : Prop := (∀ i : Nat, i < n → π i < n ∧ M (b + 5) i = ((b + 6 + 2 * π i : Nat) : Int)) ∧ (∀ i j : Nat, i < n → j < n → π i = π j → i = j) ∧ cn M (b + 1) 0
section BOOK2
variable {g : im_g} {d : Nat} {e : im_E} {M M0 : im_M} {K : im_K}
/-- one number of a book is another one now -/
theorem cbk_set {M M' : im_M} {b n k : Nat} {π : Nat → Nat} {A B V : Int → Int} {v : Int} {p : Nat} (hc : cbr M b n k π A B) (hv : ∀ i : Nat, i < k → i ≠ p → cn M (b + 6 + 2 * π i) (V i)) (h0 : cn M (b + 1) 0) (hp : p < k) (hF : NF (b + 6 + 2 * π p) M M') (hn : cn M' (b + 6 + 2 * π p) v) : cbk M' b n k A B (im_up V p v) := by
  have c2 := hc.2.1
  have c4 := hc.2.2.2.1
  refine ⟨π, cbr_congr hc (by rw [hF b (by omega) (by omega)]) (hF _ (by omega) (by omega)) (hF _ (by omega) (by omega)) (hF _ (by omega) (by omega)), fun i hi => ?_, cn_nf h0 hF (by omega) (by omega) (by omega)⟩
  by_cases hip : i = p
  · subst hip; rw [im_up_eq]; exact hn
  · rw [im_up_ne _ _ (by omega)]
    have hne : π i ≠ π p := fun z => hip (c4 i p (by omega) (by omega) z)
    exact cn_nf (hv i hi hip) hF (by omega) (by omega) (by omega)
theorem BF_nf {b n c : Nat} {M M' : im_M} (h : NF c M M') (h1 : b ≤ c) (h2 : c + 1 < b + 6 + 2 * n) : BF b n M M' := fun x hx => h x (by omega) (by omega)
theorem c_put {b n k q : Nat} {A B V : Int → Int} {a a' v p : Int} (hb : bkN e b n) (hc : cbk M b n k A B V) (hq : im_num e q) (hqo : q + 1 < b ∨ b + 6 + 2 * n ≤ q) (hv : cn M q v) (ha : im_i64 a) (ha' : im_i64 a') (hp : posn k A B a a' p) (hd : 1 ≤ d)
    (hKh : has2 k A B a a' p → ∀ M', BF b n M M' → cbk M' b n k A B (im_up V p v) → K (.inl (some (vI 1))) e M')
    (hKi : ¬ has2 k A B a a' p → k < n → ∀ M', BF b n M M' → cbk M' b n (k + 1) (insF A p a) (insF B p a') (insF V p v) → K (.inl (some (vI 1))) e M')
    (hK0 : ¬ has2 k A B a a' p → k = n → K (.inl (some (vI 0))) e M) : im_T g d 141 0 [some (.ref b), some (vL a), none, some (vL a'), none, some (.ref q), none] [] e M K := by
  obtain ⟨π, c1, c2, c3⟩ := hc
  have hn60 := hb.1.2.2.2.2.2
  have hkn := c1.2.1
  have hp0 := hp.1
  have hpk := hp.2.1
  have c4 := c1.2.2.2.1
  obtain ⟨P, hP⟩ : ∃ P : Nat, p = P := ⟨p.toNat, by omega⟩
  subst hP
  refine k_Book_put_0 hb.1 hq hd (c_find hb.1 c1 ha ha' hp (fun h => ⟨_, rfl, rfl, by constructor <;> omega, fun _ => ?_, fun z => absurd z (by omega)⟩) (fun h => ⟨_, rfl, rfl, by constructor <;> omega, fun z => absurd z (by omega), fun _ => ?_⟩))
  · have hlt := h.1
    obtain ⟨q1, q2⟩ := c1.2.2.1 P (by omega)
    refine ⟨by constructor <;> omega, _, q2, hb.2 _ q1, ?_⟩
    exact c_copy (hb.2 _ q1) hq (by omega) hv (fun M' hF hcn => ⟨rfl, rfl, hKh h M' (BF_nf hF (by omega) (by omega)) (cbk_set c1 (fun i hi _ => c2 i hi) c3 (by omega) hF hcn)⟩)
  · rw [show (-1 : Int) - (-1 - (P : Int)) = (P : Int) from by omega]
    refine c_insert hb c1 (by omega) ha ha' (fun hkl M1 hF1 hc1 => ⟨_, rfl, rfl, by constructor <;> omega, fun _ => ?_, fun z => absurd z (by decide)⟩) (fun hk => ⟨_, rfl, rfl, by constructor <;> omega, fun z => absurd rfl z, fun _ => hK0 h hk⟩)
    obtain ⟨q1, q2⟩ := hc1.2.2.1 P (by omega)
    refine ⟨by constructor <;> omega, _, q2, hb.2 _ q1, ?_⟩
    have hvq : cn M1 q v := cn_congr hv (hF1 q (by omega) (by omega) (by omega) (by omega)) (hF1 (q + 1) (by omega) (by omega) (by omega) (by omega))
    have hBF1 : BF b n M M1 := fun x hx => hF1 x (by omega) (by omega) (by omega) (by omega)
    refine c_copy (hb.2 _ q1) hq (by omega) hvq (fun M' hF hcn => ⟨rfl, rfl, hKi h hkl M' (hBF1.trans (BF_nf hF (by omega) (by omega))) ?_⟩)
    have hcb := cbk_set (V := insF V P v) hc1 (fun i hi hne => ?_) (cn_congr c3 (hF1 _ (by omega) (by omega) (by omega) (by omega)) (hF1 _ (by omega) (by omega) (by omega) (by omega))) (by omega) hF hcn
    · refine cbk_ext hcb (fun i hi => ⟨rfl, rfl, ?_⟩)
      by_cases hip : i = P
      · subst hip; rw [im_up_eq]; unfold insF; rw [if_neg (by omega), if_pos rfl]
      · rw [im_up_ne _ _ (by omega)]
    · have hlow : cn M (b + 6 + 2 * insP π P k i) (insF V P v i) := by
        by_cases h2 : P < i ∧ i ≤ k
        · have e1 : insF V P v i = V ((i - 1 : Nat) : Int) := by unfold insF; rw [if_neg (by omega), if_neg (by omega), show (i : Int) - 1 = ((i - 1 : Nat) : Int) from by omega]
          have e2 : insP π P k i = π (i - 1) := by unfold insP; rw [if_neg hne, if_pos h2]
          rw [e1, e2]; exact c2 (i - 1) (by omega)
        · have e1 : insF V P v i = V i := by unfold insF; rw [if_pos (by omega)]
          have e2 : insP π P k i = π i := by unfold insP; rw [if_neg hne, if_neg h2]
          rw [e1, e2]; exact c2 i (by omega)
      have hpi := (hc1.2.2.1 i (by omega)).1
      exact cn_congr hlow (hF1 _ (by omega) (by omega) (by omega) (by omega)) (hF1 _ (by omega) (by omega) (by omega) (by omega))
theorem c_credit {b n k q : Nat} {A B V : Int → Int} {a a' v p : Int} (hb : bkN e b n) (hc : cbk M b n k A B V) (hq : im_num e q) (hqo : q + 1 < b ∨ b + 6 + 2 * n ≤ q) (hv : cn M q v) (hv0 : 0 ≤ v) (hV0 : ∀ i : Nat, i < k → 0 ≤ V i) (ha : im_i64 a) (ha' : im_i64 a') (hp : posn k A B a a' p) (hd : 2 ≤ d)
    (hKh : has2 k A B a a' p → sm (V p + v) → ∀ M', BF b n M M' → cbk M' b n k A B (im_up V p (V p + v)) → K (.inl (some (vI 0))) e M')
    (hKl : has2 k A B a a' p → ¬ sm (V p + v) → ∀ M', BF b n M M' → cbk M' b n k A B (im_up V p 0) → K (.inl (some (vI (-8)))) e M')
    (hKi : ¬ has2 k A B a a' p → k < n → ∀ M', BF b n M M' → cbk M' b n (k + 1) (insF A p a) (insF B p a') (insF V p v) → K (.inl (some (vI 0))) e M')
    (hK0 : ¬ has2 k A B a a' p → k = n → K (.inl (some (vI (-9)))) e M) : im_T g d 99 0 [some (.ref b), some (vL a), none, some (vL a'), none, some (.ref q), none] [] e M K := by
  obtain ⟨π, c1, c2, c3⟩ := hc
  have hn60 := hb.1.2.2.2.2.2
  have hkn := c1.2.1
  have hp0 := hp.1
  have hpk := hp.2.1
  have c4 := c1.2.2.2.1
  obtain ⟨P, hP⟩ : ∃ P : Nat, p = P := ⟨p.toNat, by omega⟩
  subst hP
  refine k_Book_credit_0 hb.1 hq (by omega) (c_find hb.1 c1 ha ha' hp (fun h => ⟨_, rfl, rfl, by constructor <;> omega, fun _ => ?_, fun z => absurd z (by omega)⟩) (fun h => ⟨_, rfl, rfl, by constructor <;> omega, fun z => absurd z (by omega), fun _ => ?_⟩))
  · have hlt := h.1
    obtain ⟨q1, q2⟩ := c1.2.2.1 P (by omega)
    refine ⟨by constructor <;> omega, _, q2, hb.2 _ q1, ?_⟩
    refine c_grow (hb.2 _ q1) hq (by omega) (c2 P (by omega)) hv (hV0 P (by omega)) hv0 (by omega) (fun hsm M' hF hcn => ⟨_, rfl, rfl, by constructor <;> omega, fun x hx => ?_⟩) (fun hsm M' hF hcn => ⟨_, rfl, rfl, by constructor <;> omega, fun x hx => ?_⟩)
    · have : x = 0 := by omega
      rw [this]
      exact hKh h hsm M' (BF_nf hF (by omega) (by omega)) (cbk_set c1 (fun i hi _ => c2 i hi) c3 (by omega) hF hcn)
    · have : x = -8 := by omega
      rw [this]
      exact hKl h hsm M' (BF_nf hF (by omega) (by omega)) (cbk_set c1 (fun i hi _ => c2 i hi) c3 (by omega) hF hcn)
  · rw [show (-1 : Int) - (-1 - (P : Int)) = (P : Int) from by omega]
    refine c_insert hb c1 (by omega) ha ha' (fun hkl M1 hF1 hc1 => ⟨_, rfl, rfl, by constructor <;> omega, fun _ => ?_, fun z => absurd z (by decide)⟩) (fun hk => ⟨_, rfl, rfl, by constructor <;> omega, fun z => absurd rfl z, fun _ => hK0 h hk⟩)
    obtain ⟨q1, q2⟩ := hc1.2.2.1 P (by omega)
    refine ⟨by constructor <;> omega, _, q2, hb.2 _ q1, ?_⟩
    have hBF1 : BF b n M M1 := fun x hx => hF1 x (by omega) (by omega) (by omega) (by omega)
    refine c_clear (hb.2 _ q1) (fun M2 hF2 hcn2 => ⟨rfl, rfl, _, ?_, hb.2 _ q1, ?_⟩)
    · rw [hF2 (b + 5) (by omega)]; exact q2
    have hvq : cn M2 q v := cn_congr hv ((hF2 q (by omega)).trans (hF1 q (by omega) (by omega) (by omega) (by omega))) ((hF2 (q + 1) (by omega)).trans (hF1 (q + 1) (by omega) (by omega) (by omega) (by omega)))
    have hfin : ∀ (M' : im_M), NF (b + 6 + 2 * insP π P k P) M2 M' → cn M' (b + 6 + 2 * insP π P k P) v → BF b n M M' ∧ cbk M' b n (k + 1) (insF A P a) (insF B P a') (insF V P v) := by
      intro M' hF hcn
      have hF' : NF (b + 6 + 2 * insP π P k P) M1 M' := (NF.of hF2).trans hF
      refine ⟨hBF1.trans (BF_nf hF' (by omega) (by omega)), ?_⟩
      have hcb := cbk_set (V := insF V P v) hc1 (fun i hi hne => ?_) (cn_congr c3 (hF1 _ (by omega) (by omega) (by omega) (by omega)) (hF1 _ (by omega) (by omega) (by omega) (by omega))) (by omega) hF' hcn
      · refine cbk_ext hcb (fun i hi => ⟨rfl, rfl, ?_⟩)
        by_cases hip : i = P
        · subst hip; rw [im_up_eq]; unfold insF; rw [if_neg (by omega), if_pos rfl]
        · rw [im_up_ne _ _ (by omega)]
      · have hlow : cn M (b + 6 + 2 * insP π P k i) (insF V P v i) := by
          by_cases h2 : P < i ∧ i ≤ k
          · have e1 : insF V P v i = V ((i - 1 : Nat) : Int) := by unfold insF; rw [if_neg (by omega), if_neg (by omega), show (i : Int) - 1 = ((i - 1 : Nat) : Int) from by omega]
            have e2 : insP π P k i = π (i - 1) := by unfold insP; rw [if_neg hne, if_pos h2]
            rw [e1, e2]; exact c2 (i - 1) (by omega)
          · have e1 : insF V P v i = V i := by unfold insF; rw [if_pos (by omega)]
            have e2 : insP π P k i = π i := by unfold insP; rw [if_neg hne, if_neg h2]
            rw [e1, e2]; exact c2 i (by omega)
        have hpi := (hc1.2.2.1 i (by omega)).1
        exact cn_congr hlow (hF1 _ (by omega) (by omega) (by omega) (by omega)) (hF1 _ (by omega) (by omega) (by omega) (by omega))
    refine c_grow (hb.2 _ q1) hq (by omega) hcn2 hvq (Int.le_refl 0) hv0 (by omega) (fun hsm M' hF hcn => ⟨_, rfl, rfl, by constructor <;> omega, fun x hx => ?_⟩) (fun hsm M' hF hcn => absurd (by rw [Int.zero_add]; exact cn_sm hv) hsm)
    have : x = 0 := by omega
    rw [this]
    rw [Int.zero_add] at hcn
    obtain ⟨z1, z2⟩ := hfin M' hF hcn
    exact hKi h hkl M' z1 z2
def shr (f : Int → Int) (p i x : Int) : Int := if p ≤ x ∧ x < i then f (x + 1) else f x
theorem l_remove {b n k : Nat} {π : Nat → Nat} {A B : Int → Int} {p : Nat} (hb : bkN e b n) (hc : cbr M0 b n k π A B) (hpk : p < k)
    (hK : ∀ M', (∀ x, x ≠ b → x ≠ b + 3 → x ≠ b + 4 → x ≠ b + 5 → M' x = M0 x) → (∀ x, x ≠ 4 → M' b x = M0 b x) → M' b 4 = (k : Int) - 1 → (∀ x, M' (b + 3) x = shr (M0 (b + 3)) p ((k : Int) - 1) x) → (∀ x, M' (b + 4) x = shr (M0 (b + 4)) p ((k : Int) - 1) x) → (∀ x, M' (b + 5) x = if x = (k : Int) - 1 then ((b + 6 + 2 * π p : Nat) : Int) else shr (M0 (b + 5)) p ((k : Int) - 1) x) → K (.inl none) e M') :
    ∀ (j i : Nat) (M : im_M), i + j = k - 1 → p ≤ i → (∀ x, x ≠ b → x ≠ b + 3 → x ≠ b + 4 → x ≠ b + 5 → M x = M0 x) → (∀ x, x ≠ 4 → M b x = M0 b x) → M b 4 = (k : Int) - 1 → (∀ x, M (b + 3) x = shr (M0 (b + 3)) p i x) → (∀ x, M (b + 4) x = shr (M0 (b + 4)) p i x) → (∀ x, M (b + 5) x = shr (M0 (b + 5)) p i x) → im_T g d 121 32 [some (.ref b), none, some (.ref (b + 6 + 2 * π p)), some (vI i)] [] e M K := by
  obtain ⟨c1, c2, c3, c4, c5⟩ := hc
  have hn60 := hb.1.2.2.2.2.2
  have hsp := hb.2 _ (c3 p (by omega)).1
  intro j
  induction j with
  | zero =>
    intro i M hi hpi hF hF0 h4 r3 r4 r5
    have hik : (i : Int) = (k : Int) - 1 := by omega
    rw [hik] at r3 r4 r5
    refine k_Book_remove_32 hb.1 hsp ?_
    rw [h4]
    refine ⟨by constructor <;> omega, fun _ => ⟨by constructor <;> omega, hK _ (fun x x0 x3 x4 x5 => ?_) (fun x x4 => ?_) ?_ (fun x => ?_) (fun x => ?_) (fun x => ?_)⟩, fun z => absurd z (by omega)⟩
    · rw [im_u_ne _ _ _ x5]; exact hF x x0 x3 x4 x5
    · rw [im_rdn _ _ _ _ (by omega)]; exact hF0 x x4
    · rw [im_rdn _ _ _ _ (by omega)]; exact h4
    · rw [im_rdn _ _ _ _ (by omega)]; exact r3 x
    · rw [im_rdn _ _ _ _ (by omega)]; exact r4 x
    · by_cases hx : x = (k : Int) - 1
      · rw [if_pos hx, hx, im_rds]
      · rw [if_neg hx, im_rdk _ _ _ hx]; exact r5 x
  | succ j ih =>
    intro i M hi hpi hF hF0 h4 r3 r4 r5
    obtain ⟨q1, q2⟩ := c3 (i + 1) (by omega)
    have e5 : ∀ u w, im_u (im_u M (b + 3) u w) (b + 4) u (im_u M (b + 3) u w (b + 4) ((i : Int) + 1)) (b + 5) ((i : Int) + 1) = ((b + 6 + 2 * π (i + 1) : Nat) : Int) := fun u w => by
      rw [im_rdn _ _ _ _ (by omega), im_rdn _ _ _ _ (by omega), r5]
      unfold shr
      rw [if_neg (by omega)]
      exact q2
    have e34 : ∀ u w, im_u M (b + 3) u w (b + 4) ((i : Int) + 1) = M (b + 4) ((i : Int) + 1) := fun u w => im_rdn _ _ _ _ (by omega)
    refine k_Book_remove_32 hb.1 hsp ?_
    rw [h4]
    refine ⟨by constructor <;> omega, fun z => absurd z (by omega), fun _ => ⟨by constructor <;> omega, by constructor <;> omega, _, e5 _ _, hb.2 _ q1, ?_⟩⟩
    rw [e34]
    refine ih (i + 1) _ (by omega) (by omega) (fun x x0 x3 x4 x5 => ?_) (fun x x4 => ?_) ?_ (fun x => ?_) (fun x => ?_) (fun x => ?_)
    · rw [im_u_ne _ _ _ x5, im_u_ne _ _ _ x4, im_u_ne _ _ _ x3]; exact hF x x0 x3 x4 x5
    · rw [im_rdn _ _ _ _ (by omega), im_rdn _ _ _ _ (by omega), im_rdn _ _ _ _ (by omega)]; exact hF0 x x4
    · rw [im_rdn _ _ _ _ (by omega), im_rdn _ _ _ _ (by omega), im_rdn _ _ _ _ (by omega)]; exact h4
    · rw [im_rdn _ _ _ _ (by omega), im_rdn _ _ _ _ (by omega)]
      by_cases hx : x = (i : Int)
      · rw [hx, im_rds, r3]; unfold shr; rw [if_neg (by omega), if_pos (by omega)]
      · rw [im_rdk _ _ _ hx, r3]; unfold shr
        by_cases h1 : (p : Int) ≤ x ∧ x < i
        · rw [if_pos h1, if_pos (by omega)]
        · rw [if_neg h1, if_neg (by omega)]
    · rw [im_rdn _ _ _ _ (by omega)]
      by_cases hx : x = (i : Int)
      · rw [hx, im_rds, r4]; unfold shr; rw [if_neg (by omega), if_pos (by omega)]
      · rw [im_rdk _ _ _ hx, im_rdn _ _ _ _ (by omega), r4]; unfold shr
        by_cases h1 : (p : Int) ≤ x ∧ x < i
        · rw [if_pos h1, if_pos (by omega)]
        · rw [if_neg h1, if_neg (by omega)]
    · by_cases hx : x = (i : Int)
      · rw [hx, im_rds, ← q2]; unfold shr; rw [if_pos (by omega)]; rfl
      · rw [im_rdk _ _ _ hx, im_rdn _ _ _ _ (by omega), im_rdn _ _ _ _ (by omega), r5]; unfold shr
        by_cases h1 : (p : Int) ≤ x ∧ x < i
        · rw [if_pos h1, if_pos (by omega)]
        · rw [if_neg h1, if_neg (by omega)]
def remP (π : Nat → Nat) (p k : Nat) (i : Nat) : Nat := if i + 1 = k then π p else if p ≤ i ∧ i + 1 < k then π (i + 1) else π i
theorem c_remove {b n k : Nat} {A B V : Int → Int} {p : Nat} (hb : bkN e b n) (hc : cbk M b n k A B V) (hpk : p < k)
    (hK : ∀ M', BF b n M M' → cbk M' b n (k - 1) (remF A p) (remF B p) (remF V p) → K (.inl none) e M') : im_T g d 121 0 [some (.ref b), some (vI p), none, none] [] e M K := by
  obtain ⟨π, hc1, c6, c7⟩ := hc
  have hc' := hc1
  obtain ⟨c1, c2, c3, c4, c5⟩ := hc'
  have hn60 := hb.1.2.2.2.2.2
  refine k_Book_remove_0 hb.1 ?_
  rw [c1]
  refine ⟨by constructor <;> omega, fun _ _ => ⟨by constructor <;> omega, _, (c3 p (by omega)).2, hb.2 _ (c3 p (by omega)).1, by constructor <;> omega, ?_⟩, fun z => by omega⟩
  refine l_remove (M0 := M) hb hc1 hpk (fun M' hF hF0 h4 r3 r4 r5 => hK M' (fun x hx => hF x (by omega) (by omega) (by omega) (by omega)) ⟨remP π p k, ⟨by rw [h4]; omega, by omega, fun i hi => ?_, fun i j hi hj hij => ?_, fun i hi => ?_⟩, fun i hi => ?_, cn_congr c7 (hF _ (by omega) (by omega) (by omega) (by omega)) (hF _ (by omega) (by omega) (by omega) (by omega))⟩) (k - 1 - p) p (im_u M b 4 ((k : Int) - 1)) (by omega) (Nat.le_refl _) (fun x x0 x3 x4 x5 => im_u_ne _ _ _ x0) (fun x x4 => im_rdk _ _ _ x4) (im_rds _ _ _ _) (fun x => ?_) (fun x => ?_) (fun x => ?_)
  · by_cases h1 : i + 1 = k
    · have e1 : remP π p k i = π p := by unfold remP; rw [if_pos h1]
      rw [e1, r5 i, if_pos (by omega)]; exact ⟨(c3 p (by omega)).1, rfl⟩
    · by_cases h2 : p ≤ i ∧ i + 1 < k
      · have e1 : remP π p k i = π (i + 1) := by unfold remP; rw [if_neg h1, if_pos h2]
        have e2 : shr (M (b + 5)) p ((k : Int) - 1) i = M (b + 5) ((i + 1 : Nat) : Int) := by unfold shr; rw [if_pos (by omega)]; rfl
        rw [e1, r5 i, if_neg (by omega), e2]; exact c3 (i + 1) (by omega)
      · have e1 : remP π p k i = π i := by unfold remP; rw [if_neg h1, if_neg h2]
        have e2 : shr (M (b + 5)) p ((k : Int) - 1) i = M (b + 5) i := by unfold shr; rw [if_neg (by omega)]
        rw [e1, r5 i, if_neg (by omega), e2]; exact c3 i hi
  · unfold remP at hij
    have hq := fun u v hu hv => c4 u v hu hv
    by_cases h1 : i + 1 = k <;> by_cases h2 : j + 1 = k
    · omega
    · rw [if_pos h1, if_neg h2] at hij
      by_cases h3 : p ≤ j ∧ j + 1 < k
      · rw [if_pos h3] at hij; have := hq p (j + 1) (by omega) (by omega) hij; omega
      · rw [if_neg h3] at hij; have := hq p j (by omega) (by omega) hij; omega
    · rw [if_neg h1, if_pos h2] at hij
      by_cases h3 : p ≤ i ∧ i + 1 < k
      · rw [if_pos h3] at hij; have := hq (i + 1) p (by omega) (by omega) hij; omega
      · rw [if_neg h3] at hij; have := hq i p (by omega) (by omega) hij; omega
    · rw [if_neg h1, if_neg h2] at hij
      by_cases h3 : p ≤ i ∧ i + 1 < k <;> by_cases h4 : p ≤ j ∧ j + 1 < k
      · rw [if_pos h3, if_pos h4] at hij; have := hq (i + 1) (j + 1) (by omega) (by omega) hij; omega
      · rw [if_pos h3, if_neg h4] at hij; have := hq (i + 1) j (by omega) (by omega) hij; omega
      · rw [if_neg h3, if_pos h4] at hij; have := hq i (j + 1) (by omega) (by omega) hij; omega
      · rw [if_neg h3, if_neg h4] at hij; exact hq i j (by omega) (by omega) hij
  · by_cases h2 : p ≤ i
    · have e1 : ∀ f, remF f p i = f ((i + 1 : Nat) : Int) := fun f => by unfold remF; rw [if_neg (by omega)]; rfl
      have e2 : ∀ f, shr f p ((k : Int) - 1) i = f ((i + 1 : Nat) : Int) := fun f => by unfold shr; rw [if_pos (by omega)]; rfl
      rw [r3 i, r4 i, e1, e1, e2, e2]; exact c5 (i + 1) (by omega)
    · have e1 : ∀ f, remF f p i = f i := fun f => by unfold remF; rw [if_pos (by omega)]
      have e2 : ∀ f, shr f p ((k : Int) - 1) i = f i := fun f => by unfold shr; rw [if_neg (by omega)]
      rw [r3 i, r4 i, e1, e1, e2, e2]; exact c5 i (by omega)
  · have hlow : cn M (b + 6 + 2 * remP π p k i) (remF V p i) := by
      by_cases h2 : p ≤ i
      · have e1 : remF V p i = V ((i + 1 : Nat) : Int) := by unfold remF; rw [if_neg (by omega)]; rfl
        have e2 : remP π p k i = π (i + 1) := by unfold remP; rw [if_neg (by omega), if_pos (by omega)]
        rw [e1, e2]; exact c6 (i + 1) (by omega)
      · have e1 : remF V p i = V i := by unfold remF; rw [if_pos (by omega)]
        have e2 : remP π p k i = π i := by unfold remP; rw [if_neg (by omega), if_neg (by omega)]
        rw [e1, e2]; exact c6 i (by omega)
    exact cn_congr hlow (hF _ (by omega) (by omega) (by omega) (by omega)) (hF _ (by omega) (by omega) (by omega) (by omega))
  · rw [im_rdn _ _ _ _ (by omega)]; unfold shr; rw [if_neg (by omega)]
  · rw [im_rdn _ _ _ _ (by omega)]; unfold shr; rw [if_neg (by omega)]
  · rw [im_rdn _ _ _ _ (by omega)]; unfold shr; rw [if_neg (by omega)]
/-- a number less another one that is not more -/
theorem c_less {a q : Nat} {va vb : Int} (ha : im_num e a) (hq : im_num e q) (hva : cn M a va) (hvb : cn M q vb) (g0 : 0 ≤ vb) (g1 : vb ≤ va) (hd : 1 ≤ d) (hK : ∀ M', NF a M M' → cn M' a (va - vb) → K (.inl none) e M') : im_T g d 120 0 [some (.ref a), some (.ref a), some (.ref q), none, none, none, none] [] e M K := by
  have sa := cn_sg hva
  have sb := cn_sg hvb
  obtain ⟨n, a1, a2, a3, a4, a5, a6⟩ := hva
  obtain ⟨m, b1, b2, b3, b4, b5, b6⟩ := hvb
  unfold sg at sa sb
  have ea : dv 1000000000 (M (a + 1)) 0 n = va := by
    rcases a4 with ⟨z, rfl⟩ | ⟨z | z, hn⟩
    · rw [a5, z, Int.zero_mul]; rfl
    · rw [a5, z, Int.one_mul]
    · rw [if_neg (by omega)] at sa; split at sa <;> omega
  have eb : dv 1000000000 (M (q + 1)) 0 m = vb := by
    rcases b4 with ⟨z, rfl⟩ | ⟨z | z, hn⟩
    · rw [b5, z, Int.zero_mul]; rfl
    · rw [b5, z, Int.one_mul]
    · rw [if_neg (by omega)] at sb; split at sb <;> omega
  have es : M a 0 * (va - vb) = va - vb := by
    by_cases h1 : va = 0
    · rw [h1, show vb = 0 from by omega]; simp
    · rw [if_neg (by omega), if_neg h1] at sa; rw [sa, Int.one_mul]
  refine c_shrink (s := M a 0) ha ha hq a1 b1 a2 (dnf_le a3.1 b3 (by omega)) a3.1 b3.1 rfl (by omega) (fun z => ?_) (by omega) (by rw [ea]; exact a6.2) hd (fun M' hF hcn => hK M' hF ?_)
  · rw [ea, eb, ← es, z, Int.zero_mul]
  · rw [ea, eb, es] at hcn; exact hcn
theorem c_debit {b n k q : Nat} {A B V : Int → Int} {a a' v p : Int} (hb : bkN e b n) (hc : cbk M b n k A B V) (hq : im_num e q) (hqo : q + 1 < b ∨ b + 6 + 2 * n ≤ q) (hv : cn M q v) (hv0 : 0 ≤ v) (ha : im_i64 a) (ha' : im_i64 a') (hp : posn k A B a a' p) (hle : has2 k A B a a' p → v ≤ V p) (hd : 2 ≤ d)
    (hKs : has2 k A B a a' p → V p - v ≠ 0 → ∀ M', BF b n M M' → cbk M' b n k A B (im_up V p (V p - v)) → K (.inl none) e M')
    (hKr : has2 k A B a a' p → V p - v = 0 → ∀ M', BF b n M M' → cbk M' b n (k - 1) (remF A p) (remF B p) (remF V p) → K (.inl none) e M')
    (hK0 : ¬ has2 k A B a a' p → K (.inl none) e M) : im_T g d 119 0 [some (.ref b), some (vL a), none, some (vL a'), none, some (.ref q), none] [] e M K := by
  obtain ⟨π, c1, c2, c3⟩ := hc
  have hn60 := hb.1.2.2.2.2.2
  have hkn := c1.2.1
  have hp0 := hp.1
  have hpk := hp.2.1
  obtain ⟨P, hP⟩ : ∃ P : Nat, p = P := ⟨p.toNat, by omega⟩
  subst hP
  refine k_Book_debit_0 hb.1 hq (by omega) (c_find hb.1 c1 ha ha' hp (fun h => ⟨_, rfl, rfl, by constructor <;> omega, fun _ => ?_, fun z => absurd z (by omega)⟩) (fun h => ⟨_, rfl, rfl, by constructor <;> omega, fun z => absurd z (by omega), fun _ => hK0 h⟩))
  have hlt := h.1
  obtain ⟨q1, q2⟩ := c1.2.2.1 P (by omega)
  refine ⟨by constructor <;> omega, _, q2, hb.2 _ q1, _, q2, hb.2 _ q1, ?_⟩
  refine c_less (hb.2 _ q1) hq (c2 P (by omega)) hv hv0 (hle h) (by omega) (fun M' hF hcn => ⟨rfl, rfl, _, by rw [hF (b + 5) (by omega) (by omega)]; exact q2, hb.2 _ q1, ?_⟩)
  have hbf := BF_nf (b := b) (n := n) hF (by omega) (by omega)
  have hcb := cbk_set c1 (fun i hi _ => c2 i hi) c3 (by omega) hF hcn
  have hsg := cn_sg hcn
  rw [hsg]
  unfold sg
  refine ⟨fun hne => hKs h (fun z => hne (by rw [z]; rfl)) M' hbf hcb, fun hz => ?_⟩
  have hz0 : V P - v = 0 := by
    have := hle h
    split at hz
    · omega
    · split at hz
      · assumption
      · omega
  refine c_remove hb hcb (by omega) (fun M2 hF2 hc2 => ⟨rfl, rfl, hKr h hz0 M2 (hbf.trans hF2) (cbk_ext hc2 (fun i hi => ⟨rfl, rfl, ?_⟩))⟩)
  unfold remF
  by_cases hi2 : (i : Int) < P
  · rw [if_pos hi2, if_pos hi2, im_up_ne _ _ (by omega)]
  · rw [if_neg hi2, if_neg hi2, im_up_ne _ _ (by omega)]
end BOOK2

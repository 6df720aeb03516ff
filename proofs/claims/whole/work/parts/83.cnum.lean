/-! THE CLASS'S NUMBERS: cn M b v: the Num at cell b is v. -/
def sm (v : Int) : Prop := -LIM < v ∧ v < LIM
def cn (M : im_M) (b : Nat) (v : Int) : Prop := ∃ n : Nat, M b 1 = n ∧ n ≤ 34 ∧ dnf 1000000000 (M (b + 1)) 0 n ∧ ((M b 0 = 0 ∧ n = 0) ∨ ((M b 0 = 1 ∨ M b 0 = -1) ∧ 0 < n)) ∧ v = M b 0 * dv 1000000000 (M (b + 1)) 0 n ∧ sm v
def NF (a : Nat) (M M' : im_M) : Prop := ∀ x, x ≠ a → x ≠ a + 1 → M' x = M x
theorem sm_zero : sm 0 := ⟨by have := LIM_pos; omega, LIM_pos⟩
theorem sm_neg {v : Int} (h : sm v) : sm (-v) := ⟨by have := h.2; omega, by have := h.1; omega⟩
theorem LIM_eq : LIM = 1000 * 1000000000 ^ 33 := by unfold LIM; decide +kernel
theorem dv_s0 (B : Int) (f : Int → Int) (n : Nat) : dv B f 0 (n + 1) = dv B f 0 n + f n * B ^ n := by rw [dv_succ, Int.zero_add]
theorem dv_fits {f : Int → Int} {n : Nat} (hd : dok 1000000000 f 0 n) (hn : n ≤ 34) (h : n < 34 ∨ f 33 < 1000) : dv 1000000000 f 0 n < LIM := by
  rw [LIM_eq]
  have hp := bpow_pos (B := 1000000000) (by decide) 33
  by_cases hn' : n < 34
  · have h1 := (dv_bd (B := 1000000000) (by decide) hd).2
    have h2 := bpow_le (B := 1000000000) (by decide) (n := n) (m := 33) (by omega)
    generalize (1000000000 : Int) ^ 33 = P at *
    omega
  · obtain rfl : n = 34 := by omega
    have h3 : f 33 < 1000 := by omega
    have h1 := (dv_bd (B := 1000000000) (by decide) (hd.le (k := 33) (by omega))).2
    rw [dv_s0 1000000000 f 33]
    have h4 : f ((33 : Nat) : Int) * 1000000000 ^ 33 ≤ 999 * 1000000000 ^ 33 := Int.mul_le_mul_of_nonneg_right (by show f 33 ≤ 999; omega) (by omega)
    generalize (1000000000 : Int) ^ 33 = P at *
    omega
theorem dv_large {f : Int → Int} (hd : dok 1000000000 f 0 34) (h : 1000 ≤ f 33) : LIM ≤ dv 1000000000 f 0 34 := by
  rw [LIM_eq]
  have hp := bpow_pos (B := 1000000000) (by decide) 33
  have h1 := (dv_bd (B := 1000000000) (by decide) (hd.le (k := 33) (by omega))).1
  rw [dv_s0 1000000000 f 33]
  have h4 : 1000 * 1000000000 ^ 33 ≤ f ((33 : Nat) : Int) * 1000000000 ^ 33 := Int.mul_le_mul_of_nonneg_right (by show 1000 ≤ f 33; omega) (by omega)
  generalize (1000000000 : Int) ^ 33 = P at *
  omega
theorem cn_congr {M M' : im_M} {b : Nat} {v : Int} (h : cn M b v) (h0 : M' b = M b) (h1 : M' (b + 1) = M (b + 1)) : cn M' b v := by
  unfold cn at *
  rw [h0, h1]
  exact h
theorem cn_nf {M M' : im_M} {a b : Nat} {v : Int} (h : cn M b v) (hF : NF a M M') (h1 : b ≠ a) (h2 : b ≠ a + 1) (h3 : b + 1 ≠ a) : cn M' b v := cn_congr h (hF b h1 h2) (hF (b + 1) h3 (by omega))
theorem cn_sm {M : im_M} {b : Nat} {v : Int} (h : cn M b v) : sm v := by obtain ⟨n, h1, h2, h3, h4, h5, h6⟩ := h; exact h6
theorem NF.rf (a : Nat) (M : im_M) : NF a M M := fun _ _ _ => rfl
theorem NF.trans {a : Nat} {M M1 M2 : im_M} (h : NF a M M1) (h' : NF a M1 M2) : NF a M M2 := fun x h1 h2 => (h' x h1 h2).trans (h x h1 h2)
theorem NF.o {a : Nat} {M M' : im_M} (h : NF a M M') (j v : Int) : NF a M (im_u M' a j v) := fun x h1 h2 => (im_u_ne _ _ _ h1).trans (h x h1 h2)
theorem NF.l {a : Nat} {M M' : im_M} (h : NF a M M') (j v : Int) : NF a M (im_u M' (a + 1) j v) := fun x h1 h2 => (im_u_ne _ _ _ h2).trans (h x h1 h2)
theorem NF.of {a : Nat} {M M' : im_M} (h : ∀ x, x ≠ a → M' x = M x) : NF a M M' := fun x h1 _ => h x h1
theorem cn_z {M : im_M} {a : Nat} (h0 : M a 0 = 0) (h1 : M a 1 = 0) : cn M a 0 := ⟨0, h1, by omega, ⟨fun i i0 i1 => by omega, fun z => by omega⟩, Or.inl ⟨h0, rfl⟩, by rw [h0, Int.zero_mul], sm_zero⟩
theorem cn_sg {M : im_M} {b : Nat} {v : Int} (h : cn M b v) : M b 0 = sg v := by
  obtain ⟨n, h1, h2, h3, h4, h5, h6⟩ := h
  have hb := dv_bd (B := 1000000000) (by decide) h3.1
  have ht := dnf_pos (B := 1000000000) (by decide) h3
  unfold sg
  rcases h4 with ⟨z, rfl⟩ | ⟨z | z, hn⟩
  · rw [z, Int.zero_mul] at h5; subst h5; rw [z]; rfl
  · have := ht hn
    have hp := bpow_pos (B := 1000000000) (by decide) (n - 1)
    rw [z, Int.one_mul] at h5
    rw [z, if_neg (by omega), if_neg (by omega)]
  · have := ht hn
    have hp := bpow_pos (B := 1000000000) (by decide) (n - 1)
    rw [z, Int.neg_mul, Int.one_mul] at h5
    rw [z, if_pos (by omega)]
/-- a Num's cells are no one else's -/
theorem im_num_ne {e : im_E} {a p : Nat} (ha : im_num e a) (hp : im_num e p) : a ≠ p + 1 := by
  rintro rfl
  have := ha.1.symm.trans hp.2
  simp at this
theorem im_num_933 {e : im_E} {a : Nat} (ha : im_num e a) : a ≠ 933 ∧ a + 1 ≠ 933 := by
  constructor
  · rintro rfl
    have := ha.1.symm.trans sf_933
    simp at this
  · intro h
    have := ha.2
    rw [h] at this
    have := this.symm.trans sf_933
    simp at this
section CNUM
variable {g : im_g} {d : Nat} {e : im_E} {M M0 : im_M} {K : im_K}
theorem c_clear {a : Nat} (ha : im_num e a) (hK : ∀ M', (∀ x, x ≠ a → M' x = M x) → cn M' a 0 → K (.inl none) e M') : im_T g d 101 0 [some (.ref a)] [] e M K := by
  refine k_Num_clear_0 ha (hK _ (fun x hx => ?_) (cn_z ?_ ?_))
  · rw [im_u_ne _ _ _ hx, im_u_ne _ _ _ hx]
  · rw [im_rdk _ _ _ (by decide), im_rds]
  · rw [im_rds]
theorem l_settle {a : Nat} {s D : Int} (ha : im_num e a) (hs : s = 1 ∨ s = -1 ∨ s = 0) (h0 : s = 0 → D = 0)
    (hK1 : sm (s * D) → ∀ M', (∀ x, x ≠ a → M' x = M0 x) → cn M' a (s * D) → K (.inl (some (vI 1))) e M')
    (hK0 : ¬ sm (s * D) → ∀ M', (∀ x, x ≠ a → M' x = M0 x) → cn M' a 0 → K (.inl (some (vI 0))) e M') :
    ∀ (n : Nat) (M : im_M), n ≤ 34 → (∀ x, x ≠ a → M x = M0 x) → M a 1 = n → M a 0 = s → dok 1000000000 (M0 (a + 1)) 0 n → dv 1000000000 (M0 (a + 1)) 0 n = D → im_T g d 98 0 [some (.ref a), none] [] e M K := by
  intro n
  induction n with
  | zero =>
    intro M hn hF h1 h2 hd hD
    refine k_Num_settle_0 ha ⟨fun z => absurd z (by omega), fun _ => ⟨fun z => absurd z (by omega), fun _ x hx => ?_⟩⟩
    have hx : x = 0 := by omega
    subst hx
    have hD0 : D = 0 := hD.symm
    subst hD0
    rw [Int.mul_zero] at hK1
    refine ⟨by constructor <;> omega, hK1 sm_zero _ (fun y hy => ?_) (cn_z (im_rds _ _ _ _) ?_)⟩
    · rw [im_u_ne _ _ _ hy, im_u_ne _ _ _ hy]; exact hF y hy
    · rw [im_rdk _ _ _ (by decide), im_rds]; exact h1
  | succ n ih =>
    intro M hn hF h1 h2 hd hD
    have et : M (a + 1) (M a 1 - 1) = M0 (a + 1) n := by rw [hF _ (by omega), h1, show ((n + 1 : Nat) : Int) - 1 = (n : Int) from by omega]
    have e33 : M (a + 1) 33 = M0 (a + 1) 33 := by rw [hF _ (by omega)]
    rw [dv_s0] at hD
    by_cases ht : M0 (a + 1) n = 0
    · refine k_Num_settle_0 ha ⟨fun _ => ⟨by constructor <;> omega, fun _ => ⟨by constructor <;> omega, ?_⟩⟩, fun z => absurd z (by rw [et]; omega)⟩
      rw [ht, Int.zero_mul, Int.add_zero] at hD
      refine ih _ (by omega) (fun x hx => (im_u_ne _ _ _ hx).trans (hF x hx)) ?_ ?_ (hd.le (Nat.le_succ n)) hD
      · rw [im_rds, h1]; omega
      · rw [im_rdk _ _ _ (by decide)]; exact h2
    · have hdn : dnf 1000000000 (M0 (a + 1)) 0 (n + 1) := ⟨hd, fun _ => by rw [show (0 : Int) + (((n + 1 : Nat) : Int) - 1) = (n : Int) from by omega]; exact ht⟩
      have hpos := dnf_pos (B := 1000000000) (by decide) hdn (by omega)
      have hpp := bpow_pos (B := 1000000000) (by decide) (n + 1 - 1)
      have hD' : dv 1000000000 (M0 (a + 1)) 0 (n + 1) = D := by rw [dv_s0]; exact hD
      have hs9 : s = 1 ∨ s = -1 := by
        rcases hs with z | z | z
        · exact Or.inl z
        · exact Or.inr z
        · have := h0 z; omega
      refine k_Num_settle_0 ha ⟨fun _ => ⟨by constructor <;> omega, fun z => absurd (et.symm.trans z) ht⟩, fun _ => ⟨fun c1 c2 => ?_, fun c1 x hx => ?_⟩⟩
      · rw [e33] at c2
        obtain rfl : n = 33 := by omega
        have hL : LIM ≤ dv 1000000000 (M0 (a + 1)) 0 (33 + 1) := dv_large hd c2
        refine hK0 (fun z => ?_) _ (fun y hy => ?_) (cn_z (im_rds _ _ _ _) ?_)
        · unfold sm at z
          have := LIM_pos
          rcases hs9 with w | w
          · rw [w, Int.one_mul] at z; omega
          · rw [w, Int.neg_mul, Int.one_mul] at z; omega
        · rw [im_u_ne _ _ _ hy, im_u_ne _ _ _ hy]; exact hF y hy
        · rw [im_rdk _ _ _ (by decide), im_rds]
      · rw [e33] at c1
        have hx : x = s := by omega
        subst hx
        have hL := dv_fits hd hn (by omega)
        have hsm : sm (x * D) := by
          unfold sm
          rcases hs9 with w | w
          · rw [w, Int.one_mul]; omega
          · rw [w, Int.neg_mul, Int.one_mul]; omega
        refine ⟨by constructor <;> omega, hK1 hsm _ (fun y hy => ?_) ⟨n + 1, ?_, hn, ?_, ?_, ?_, hsm⟩⟩
        · rw [im_u_ne _ _ _ hy, im_u_ne _ _ _ hy]; exact hF y hy
        · rw [im_rdk _ _ _ (by decide), im_rds]; exact h1
        · rw [im_u_ne _ _ _ (by omega), im_u_ne _ _ _ (by omega), hF _ (by omega)]; exact hdn
        · rw [im_rds]; exact Or.inr ⟨hs9, by omega⟩
        · rw [im_rds, im_u_ne _ _ _ (by omega), im_u_ne _ _ _ (by omega), hF _ (by omega), hD']
theorem c_settle {a : Nat} {s D : Int} {n : Nat} (ha : im_num e a) (hs : s = 1 ∨ s = -1 ∨ s = 0) (h0 : s = 0 → D = 0) (hn : n ≤ 34) (h1 : M a 1 = n) (h2 : M a 0 = s) (hd : dok 1000000000 (M (a + 1)) 0 n) (hD : dv 1000000000 (M (a + 1)) 0 n = D)
    (hK1 : sm (s * D) → ∀ M', (∀ x, x ≠ a → M' x = M x) → cn M' a (s * D) → K (.inl (some (vI 1))) e M')
    (hK0 : ¬ sm (s * D) → ∀ M', (∀ x, x ≠ a → M' x = M x) → cn M' a 0 → K (.inl (some (vI 0))) e M') : im_T g d 98 0 [some (.ref a), none] [] e M K :=
  l_settle ha hs h0 hK1 hK0 n M hn (fun _ _ => rfl) h1 h2 hd hD
theorem l_copy {a p : Nat} {s : Int} {n : Nat} (ha : im_num e a) (hp : im_num e p) (hne : a ≠ p) (hn : n ≤ 34) (hK : ∀ M', NF a M0 M' → M' a 1 = n → M' a 0 = s → (∀ i : Int, 0 ≤ i → i < n → M' (a + 1) i = M0 (p + 1) i) → K (.inl none) e M') :
    ∀ (j k : Nat) (M : im_M), k + j = n → NF a M0 M → M a 1 = n → M a 0 = s → (∀ i : Int, 0 ≤ i → i < k → M (a + 1) i = M0 (p + 1) i) → im_T g d 66 18 [some (.ref a), some (.ref p), some (vI k)] [] e M K := by
  intro j
  induction j with
  | zero =>
    intro k M hk hF h1 h2 hc
    refine k_Num_copy_18 ha hp ⟨by constructor <;> omega, fun _ => hK M hF h1 h2 (fun i i0 i1 => hc i i0 (by omega)), fun z => absurd z (by omega)⟩
  | succ j ih =>
    intro k M hk hF h1 h2 hc
    refine k_Num_copy_18 ha hp ⟨by constructor <;> omega, fun z => absurd z (by omega), fun _ => ⟨by constructor <;> omega, ?_⟩⟩
    refine ih (k + 1) _ (by omega) (hF.l _ _) ((im_rdn _ _ _ _ (by omega)).trans h1) ((im_rdn _ _ _ _ (by omega)).trans h2) (fun i i0 i1 => ?_)
    by_cases hi : i = k
    · subst hi
      rw [im_rds, hF _ (Ne.symm (im_num_ne ha hp)) (by omega)]
    · rw [im_rdk _ _ _ hi]
      exact hc i i0 (by omega)
theorem c_copy {a p : Nat} {v : Int} (ha : im_num e a) (hp : im_num e p) (hne : a ≠ p) (hc : cn M p v) (hK : ∀ M', NF a M M' → cn M' a v → K (.inl none) e M') : im_T g d 66 0 [some (.ref a), some (.ref p), none] [] e M K := by
  obtain ⟨n, h1, h2, h3, h4, h5, h6⟩ := hc
  refine k_Num_copy_0 ha hp ?_
  have e1 : im_u M a 0 (M p 0) p 1 = n := by rw [im_rdn _ _ _ _ (Ne.symm hne)]; exact h1
  rw [e1]
  refine l_copy (M0 := M) (s := M p 0) ha hp hne h2 (fun M' hF g1 g2 gc => hK M' hF ?_) n 0 _ (by omega) (((NF.rf _ _).o _ _).o _ _) (im_rds _ _ _ _) ?_ (fun i i0 i1 => by omega)
  · have hs : ∀ i : Int, 0 ≤ i → i < n → M (p + 1) (0 + i) = M' (a + 1) (0 + i) := fun i i0 i1 => by rw [Int.zero_add]; exact (gc i i0 i1).symm
    refine ⟨n, g1, h2, ⟨dok_congr hs h3.1, fun z => ?_⟩, by rw [g2]; exact h4, by rw [g2, ← dv_congr hs]; exact h5, h6⟩
    rw [← hs _ (by omega) (by omega)]
    exact h3.2 z
  · rw [im_rdk _ _ _ (by decide), im_rds]
theorem l_csize {a p : Nat} {n : Nat} (ha : im_num e a) (hp : im_num e p) (hn : n ≤ 34) (d1 : dok 1000000000 (M (a + 1)) 0 n) (d2 : dok 1000000000 (M (p + 1)) 0 n) (hK : K (.inl (some (vI (cmpI (dv 1000000000 (M (a + 1)) 0 n) (dv 1000000000 (M (p + 1)) 0 n))))) e M) :
    ∀ (k : Nat), k ≤ n → (∀ i : Int, k ≤ i → i < n → M (a + 1) i = M (p + 1) i) → im_T g d 69 35 [some (.ref a), some (.ref p), some (vI ((k : Int) - 1))] [] e M K := by
  intro k
  induction k with
  | zero =>
    intro hk hs
    refine k_Num_compareSize_35 ha hp ⟨by constructor <;> omega, ⟨fun _ => ?_, fun z => absurd z (by omega)⟩, fun x hx => by omega⟩
    have e1 : dv 1000000000 (M (a + 1)) 0 n = dv 1000000000 (M (p + 1)) 0 n := dv_congr (fun i i0 i1 => by rw [Int.zero_add]; exact hs i (by omega) i1)
    rw [e1] at hK
    unfold cmpI at hK
    rw [if_neg (by omega), if_pos rfl] at hK
    exact hK
  | succ k ih =>
    intro hk hs
    rw [show ((k + 1 : Nat) : Int) - 1 = (k : Int) from by omega]
    refine k_Num_compareSize_35 ha hp ⟨by constructor <;> omega, ⟨fun z => absurd z (by omega), fun _ => ⟨by constructor <;> omega, fun heq => ?_⟩⟩, fun x hx => ?_⟩
    · exact ih (by omega) (fun i i0 i1 => by
        by_cases hi : i = k
        · subst hi; exact heq
        · exact hs i (by omega) i1)
    · have hne : M (a + 1) k ≠ M (p + 1) k := by omega
      have e1 : x = cmpI (dv 1000000000 (M (a + 1)) 0 n) (dv 1000000000 (M (p + 1)) 0 n) := by
        unfold cmpI
        rcases Int.lt_or_gt_of_ne hne with hl | hl
        · have h5 := dv_lt (B := 1000000000) (by decide) (k := k) (n := n) (by omega) d1 d2 (by rw [Int.zero_add]; exact hl) (fun i i0 i1 => by rw [Int.zero_add]; exact hs i (by omega) i1)
          rw [if_pos h5]
          omega
        · have h5 := dv_lt (B := 1000000000) (by decide) (k := k) (n := n) (by omega) d2 d1 (by rw [Int.zero_add]; exact hl) (fun i i0 i1 => by rw [Int.zero_add]; exact (hs i (by omega) i1).symm)
          rw [if_neg (by omega), if_neg (by omega)]
          omega
      rw [e1]
      exact hK
theorem c_csize {a p : Nat} {n m : Nat} (ha : im_num e a) (hp : im_num e p) (h1 : M a 1 = n) (h2 : M p 1 = m) (hn : n ≤ 34) (hm : m ≤ 34) (d1 : dnf 1000000000 (M (a + 1)) 0 n) (d2 : dnf 1000000000 (M (p + 1)) 0 m) (hK : K (.inl (some (vI (cmpI (dv 1000000000 (M (a + 1)) 0 n) (dv 1000000000 (M (p + 1)) 0 m))))) e M) : im_T g d 69 0 [some (.ref a), some (.ref p), none] [] e M K := by
  refine k_Num_compareSize_0 ha hp ⟨fun heq => ?_, fun x hx => ?_⟩
  · obtain rfl : n = m := by omega
    rw [h1]
    exact l_csize ha hp hn d1.1 d2.1 hK n (Nat.le_refl _) (fun i i0 i1 => by omega)
  · have e1 : x = cmpI (dv 1000000000 (M (a + 1)) 0 n) (dv 1000000000 (M (p + 1)) 0 m) := by
      unfold cmpI
      have hne : n ≠ m := by omega
      rcases Nat.lt_or_gt_of_ne hne with hl | hl
      · rw [if_pos (dnf_lt (by decide) d1.1 d2 hl)]; omega
      · have := dnf_lt (B := 1000000000) (by decide) d2.1 d1 hl
        rw [if_neg (by omega), if_neg (by omega)]; omega
    rw [e1]
    exact hK
theorem c_compare {a p : Nat} {va vb : Int} (ha : im_num e a) (hp : im_num e p) (hva : cn M a va) (hvb : cn M p vb) (hd : 1 ≤ d) (hK : K (.inl (some (vI (cmpI va vb)))) e M) : im_T g d 68 0 [some (.ref a), some (.ref p)] [] e M K := by
  have sa := cn_sg hva
  have sb := cn_sg hvb
  obtain ⟨n, a1, a2, a3, a4, a5, a6⟩ := hva
  obtain ⟨m, b1, b2, b3, b4, b5, b6⟩ := hvb
  refine k_Num_compare_0 ha hp hd ⟨fun heq => ?_, fun x hx => ?_⟩
  · refine c_csize ha hp a1 b1 a2 b2 a3 b3 ⟨_, rfl, rfl, ?_⟩
    have e1 : M a 0 * cmpI (dv 1000000000 (M (a + 1)) 0 n) (dv 1000000000 (M (p + 1)) 0 m) = cmpI va vb := by
      rw [← heq] at b4 b5
      rcases a4 with ⟨z, z2⟩ | ⟨z | z, z2⟩
      · rw [a5, b5, z, Int.zero_mul, Int.zero_mul, Int.zero_mul]; rfl
      · rw [a5, b5, z, Int.one_mul, Int.one_mul, Int.one_mul]
      · rw [a5, b5, z, Int.neg_mul, Int.one_mul, Int.neg_mul, Int.one_mul, Int.neg_mul, Int.one_mul]
        unfold cmpI
        (repeat' split) <;> omega
    rw [e1]
    exact hK
  · have e1 : x = cmpI va vb := by
      rw [sa, sb] at hx
      unfold sg at hx
      unfold cmpI
      (repeat' split at hx) <;> (repeat' split) <;> omega
    rw [e1]
    exact hK
end CNUM

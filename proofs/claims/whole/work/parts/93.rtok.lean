/-! THE REFERENCE'S TOKENS -/
def rk (ty : Int) : Int := if ty = 41 then 0 else if ty = 34 then 1 else if ty = -2 then 10 else if ty = -1 then 9 else if ty = 35 then 4 else if ty = 36 then 3 else if ty = 37 then 5 else if ty = 38 then 6 else if ty = 39 then 7 else if ty = 40 then 8 else 2
def lkP (M M' : im_M) (p q ty nm : Int) : Prop := (∀ x, x ≠ 6952 → M' x = M x) ∧ (∀ k, k < 14 ∨ 18 < k → M' 6952 k = M 6952 k) ∧ M' 6952 14 = p ∧ M' 6952 15 = rk ty ∧ M' 6952 16 = p ∧ M' 6952 17 = q ∧ ((0 ≤ ty ∧ ty ≤ 33) ∨ ty = 35 ∨ ty = 36 → M' 6952 18 = nm)
/-- the reference's text -/
def rtx (M : im_M) (t : Int → Int) (n : Int) : Prop := M 6952 13 = n ∧ 0 ≤ n ∧ n ≤ 16384 ∧ ∀ i, 0 ≤ i → i < n → M 6959 i = t i ∧ 0 ≤ t i ∧ t i < 256
theorem pak_pos {t : Int → Int} {f : Int} : ∀ k : Nat, 1 ≤ k → (∀ i, f ≤ i → i < f + k → 0 ≤ t i ∧ t i < 256) → 97 ≤ t f → 97 ≤ pak t f k := by
  intro k
  induction k with
  | zero => intro h; omega
  | succ k ih =>
    intro _ h hf
    show 97 ≤ pak t f k * 256 + t (f + k)
    by_cases hk : k = 0
    · subst hk
      show 97 ≤ 0 * 256 + t (f + ((0 : Nat) : Int))
      rw [show f + ((0 : Nat) : Int) = f from by omega]; omega
    · have h1 := ih (by omega) (fun i i0 i1 => h i i0 (by omega)) hf
      have h2 := h (f + k) (by omega) (by omega)
      omega
theorem pak_63 {t : Int → Int} {f q : Int} (hnm : nmT t f q) : 97 ≤ pak t f (q - f).toNat ∧ pak t f (q - f).toNat ≤ 9223372036854775807 := by
  have h8 := hnm.2.1
  have h1 := hnm.1
  have hL := hnm.2.2.1
  have hr : ∀ i, f ≤ i → i < q → 0 ≤ t i ∧ t i < 256 := fun i i0 i1 => by have := hnm.2.2.2 i i0 i1; omega
  refine ⟨pak_pos _ (by omega) (fun i i0 i1 => hr i i0 (by omega)) hL.1, ?_⟩
  obtain ⟨k', hk'⟩ : ∃ k', (q - f).toNat = k' + 1 := ⟨(q - f).toNat - 1, by omega⟩
  have hgen : ∀ m : Nat, m ≤ k' → pak t f (m + 1) < 128 * 256 ^ m := by
    intro m
    induction m with
    | zero => intro _; show 0 * 256 + t (f + ((0 : Nat) : Int)) < 128 * 256 ^ 0; rw [Int.pow_zero, show f + ((0 : Nat) : Int) = f from by omega]; omega
    | succ m ihm =>
      intro hm
      have h1 := ihm (by omega)
      have h2 := hr (f + ((m + 1 : Nat) : Int)) (by omega) (by omega)
      show pak t f (m + 1) * 256 + t (f + ((m + 1 : Nat) : Int)) < _
      rw [Int.pow_succ]
      omega
  have h3 := hgen k' (Nat.le_refl _)
  have h4 : (256 : Int) ^ k' ≤ 256 ^ 7 := bpow_le (by decide) (by omega)
  rw [show (256 : Int) ^ 7 = 72057594037927936 from by decide] at h4
  rw [hk']
  omega
section RTOK
variable {g : im_g} {d : Nat} {e : im_E} {M M0 : im_M} {K : im_K}
theorem c_isIn {x l h : Int} (hx : im_i64 x) (hl : im_i64 l) (hh : im_i64 h) (h1 : l ≤ x ∧ x ≤ h → K (.inl (some (vI 1))) e M) (h0 : ¬ (l ≤ x ∧ x ≤ h) → K (.inl (some (vI 0))) e M) : im_T g d 268 0 [some (vL x), none, some (vL l), none, some (vL h), none] [] e M K :=
  b_isIn_0 ⟨hx, hl, fun a => ⟨hh, fun b => h1 ⟨a, b⟩⟩, fun a => h0 (by omega)⟩
theorem c_isBracket {x : Int} (h : im_i32 x) (h1 : brk x → K (.inl (some (vI 1))) e M) (h0 : ¬ brk x → K (.inl (some (vI 0))) e M) : im_T g d 278 0 [some (vI x)] [] e M K := by
  refine b_isBracket_0 ⟨h, fun a b c d => h0 (fun z => by unfold brk at z; omega), fun a => h1 (by unfold brk; omega)⟩
theorem l_nameOf {t : Int → Int} {n f q : Int} (ht : rtx M t n) (hf0 : 0 ≤ f) (hq : q ≤ n) (hq8 : q - f ≤ 8) (hfq : f < q) (hL : 97 ≤ t f ∧ t f ≤ 122) (hd : 1 ≤ d)
    (hK1 : nmT t f q → K (.inl (some (vL (pak t f (q - f).toNat)))) e M) (hK0 : ¬ nmT t f q → K (.inl (some (vL 0))) e M) :
    ∀ (j k : Nat), f + k + j = q → (∀ i, f ≤ i → i < f + k → ((97 ≤ t i ∧ t i ≤ 122) ∨ (48 ≤ t i ∧ t i ≤ 57))) → im_T g d 280 41 [some (.ref 6952), none, some (vI q), some (vL (pak t f k)), none, some (vI (f + k))] [] e M K := by
  obtain ⟨ht1, ht2, ht3, ht4⟩ := ht
  intro j
  induction j with
  | zero =>
    intro k hk ha
    have hi : ∀ i, f ≤ i → i < q → ((97 ≤ t i ∧ t i ≤ 122) ∨ (48 ≤ t i ∧ t i ≤ 57)) := fun i i0 i1 => ha i i0 (by omega)
    have hk1 := hK1 ⟨by omega, by omega, hL, hi⟩
    rw [show (q - f).toNat = k from by omega] at hk1
    exact b_nameOf_41 hd ⟨by constructor <;> omega, by constructor <;> omega, fun _ => hk1, fun z => absurd z (by omega)⟩
  | succ j ih =>
    intro k hk ha
    have hB := ht4 (f + k) (by omega) (by omega)
    have hr : ∀ i, f ≤ i → i < f + k → 0 ≤ t i ∧ t i < 256 := fun i i0 i1 => by have := ha i i0 i1; omega
    have hpr := pak_rng (t := t) (f := f) k hr
    have hk7 : k ≤ 7 := by omega
    have hp55 : pak t f k < 36028797018963968 := by
      by_cases hk0 : k = 0
      · subst hk0; show (0 : Int) < _; decide
      · have h1 := (pak_63 (t := t) (f := f) (q := f + k) ⟨by omega, by omega, hL, ha⟩).2
        obtain ⟨k', rfl⟩ : ∃ k', k = k' + 1 := ⟨k - 1, by omega⟩
        have hgen : ∀ m : Nat, m ≤ k' → pak t f (m + 1) < 128 * 256 ^ m := by
          intro m
          induction m with
          | zero => intro _; show 0 * 256 + t (f + ((0 : Nat) : Int)) < 128 * 256 ^ 0; rw [Int.pow_zero, show f + ((0 : Nat) : Int) = f from by omega]; omega
          | succ m ihm =>
            intro hm
            have h1 := ihm (by omega)
            have h2 := hr (f + ((m + 1 : Nat) : Int)) (by omega) (by omega)
            show pak t f (m + 1) * 256 + t (f + ((m + 1 : Nat) : Int)) < _
            rw [Int.pow_succ]
            omega
        have h3 := hgen k' (Nat.le_refl _)
        have h4 : (256 : Int) ^ k' ≤ 256 ^ 6 := bpow_le (by decide) (by omega)
        rw [show (256 : Int) ^ 6 = 281474976710656 from by decide] at h4
        omega
    have hstep : ∀ (hc : (97 ≤ t (f + k) ∧ t (f + k) ≤ 122) ∨ (48 ≤ t (f + k) ∧ t (f + k) ≤ 57)), im_T g d 280 41 [some (.ref 6952), none, some (vI q), some (vL (xlor (xlshl (pak t f k) 8) (M 6959 (f + k)))), none, some (vI (f + k + 1))] [] e M K := by
      intro hc
      rw [hB.1, xlor_8 hpr.1 hp55 (by omega) (by omega), show f + (k : Int) + 1 = f + ((k + 1 : Nat) : Int) from by omega]
      refine ih (k + 1) (by omega) (fun i i0 i1 => ?_)
      by_cases hi : i = f + k
      · subst hi; exact hc
      · exact ha i i0 (by omega)
    refine b_nameOf_41 hd ⟨by constructor <;> omega, by constructor <;> omega, fun z => absurd z (by omega), fun _ => ⟨by constructor <;> omega, ?_⟩⟩
    refine c_isIn (by rw [hB.1]; constructor <;> omega) (by constructor <;> decide) (by constructor <;> decide) (fun hc => ⟨_, rfl, rfl, by constructor <;> omega, fun _ => hstep (by omega), fun z => absurd z (by decide)⟩) (fun hc => ⟨_, rfl, rfl, by constructor <;> omega, fun z => absurd rfl z, fun _ => ?_⟩)
    refine c_isIn (by rw [hB.1]; constructor <;> omega) (by constructor <;> decide) (by constructor <;> decide) (fun hc2 => ⟨_, rfl, rfl, by constructor <;> omega, fun _ => hstep (by omega), fun z => absurd z (by decide)⟩) (fun hc2 => ⟨_, rfl, rfl, by constructor <;> omega, fun z => absurd rfl z, fun _ => hK0 (fun z => ?_)⟩)
    have := z.2.2.2 (f + k) (by omega) (by omega)
    omega
theorem c_nameOf {t : Int → Int} {n f q : Int} (ht : rtx M t n) (hf0 : 0 ≤ f) (hq0 : 0 ≤ q) (hq : q ≤ n) (hfq' : f ≤ q) (hd : 1 ≤ d)
    (hK1 : nmT t f q → K (.inl (some (vL (pak t f (q - f).toNat)))) e M) (hK0 : ¬ nmT t f q → K (.inl (some (vL 0))) e M) : im_T g d 280 0 [some (.ref 6952), some (vI f), some (vI q), none, none, none] [] e M K := by
  have ht' := ht
  obtain ⟨ht1, ht2, ht3, ht4⟩ := ht'
  refine b_nameOf_0 hd ⟨by constructor <;> omega, fun c1 c2 => ⟨by constructor <;> omega, ?_⟩, fun c => hK0 (fun z => ?_)⟩
  · have hB := ht4 f (by omega) (by omega)
    refine c_isIn (by rw [hB.1]; constructor <;> omega) (by constructor <;> decide) (by constructor <;> decide) (fun hc => ⟨_, rfl, rfl, by constructor <;> omega, fun _ => ?_, fun z => absurd z (by decide)⟩) (fun hc => ⟨_, rfl, rfl, by constructor <;> omega, fun z => absurd rfl z, fun _ => hK0 (fun z => ?_)⟩)
    · have := l_nameOf (g := g) (d := d) (K := K) ht hf0 hq c2 (by omega) (by omega) hd hK1 hK0 (q - f).toNat 0 (by omega) (fun i i0 i1 => by omega)
      rw [show f + ((0 : Nat) : Int) = f from by omega] at this
      exact this
    · have := z.2.2.1; omega
  · have h1 := z.1
    have h2 := z.2.1
    omega
theorem c_isKeyword {v r : Int} (hv : im_i64 v) (hr : kwr v r) (h1 : r ≠ -1 → K (.inl (some (vI 1))) e M) (h0 : r = -1 → K (.inl (some (vI 0))) e M) : im_T g d 281 0 [some (vL v), none, none, none] [] e M K := by
  refine b_isKeyword_0 ⟨hv, ?_⟩
  rcases hr with ⟨a, b⟩ | ⟨a, b, c⟩
  · have n0 : v ≠ 427021005669 := fun z => b 0 (by decide) (by decide) z.symm
    have n1 : v ≠ 7364985 := fun z => b 1 (by decide) (by decide) z.symm
    have n2 : v ≠ 26982 := fun z => b 2 (by decide) (by decide) z.symm
    have n3 : v ≠ 2003330414 := fun z => b 3 (by decide) (by decide) z.symm
    have n4 : v ≠ 7103860 := fun z => b 4 (by decide) (by decide) z.symm
    have n5 : v ≠ 107148485161588 := fun z => b 5 (by decide) (by decide) z.symm
    have n6 : v ≠ 1751477348 := fun z => b 6 (by decide) (by decide) z.symm
    have n7 : v ≠ 7234919 := fun z => b 7 (by decide) (by decide) z.symm
    have n8 : v ≠ 6382692 := fun z => b 8 (by decide) (by decide) z.symm
    have n9 : v ≠ 7566690 := fun z => b 9 (by decide) (by decide) z.symm
    have n10 : v ≠ 7173484 := fun z => b 10 (by decide) (by decide) z.symm
    have n11 : v ≠ 6580598 := fun z => b 11 (by decide) (by decide) z.symm
    have n12 : v ≠ 109300197582190 := fun z => b 12 (by decide) (by decide) z.symm
    have n13 : v ≠ 495873782388 := fun z => b 13 (by decide) (by decide) z.symm
    have n14 : v ≠ 6647396 := fun z => b 14 (by decide) (by decide) z.symm
    have n15 : v ≠ 7697253 := fun z => b 15 (by decide) (by decide) z.symm
    have n16 : v ≠ 1668247140 := fun z => b 16 (by decide) (by decide) z.symm
    have n17 : v ≠ 6385252 := fun z => b 17 (by decide) (by decide) z.symm
    have n18 : v ≠ 28530 := fun z => b 18 (by decide) (by decide) z.symm
    have n19 : v ≠ 7237492 := fun z => b 19 (by decide) (by decide) z.symm
    have n20 : v ≠ 426953896805 := fun z => b 20 (by decide) (by decide) z.symm
    have n21 : v ≠ 26469 := fun z => b 21 (by decide) (by decide) z.symm
    have n22 : v ≠ 26484 := fun z => b 22 (by decide) (by decide) z.symm
    have n23 : v ≠ 27749 := fun z => b 23 (by decide) (by decide) z.symm
    have n24 : v ≠ 27764 := fun z => b 24 (by decide) (by decide) z.symm
    have n25 : v ≠ 25969 := fun z => b 25 (by decide) (by decide) z.symm
    have n26 : v ≠ 1953658213 := fun z => b 26 (by decide) (by decide) z.symm
    have n27 : v ≠ 439721161573 := fun z => b 27 (by decide) (by decide) z.symm
    have n28 : v ≠ 28259031251642740 := fun z => b 28 (by decide) (by decide) z.symm
    have n29 : v ≠ 109300196926309 := fun z => b 29 (by decide) (by decide) z.symm
    have n30 : v ≠ 121424973489785 := fun z => b 30 (by decide) (by decide) z.symm
    have n31 : v ≠ 1667330917 := fun z => b 31 (by decide) (by decide) z.symm
    have n32 : v ≠ 29807 := fun z => b 32 (by decide) (by decide) z.symm
    have n33 : v ≠ 1768846447 := fun z => b 33 (by decide) (by decide) z.symm
    have hk := h0 a
    simp [n0, n1, n2, n3, n4, n5, n6, n7, n8, n9, n10, n11, n12, n13, n14, n15, n16, n17, n18, n19, n20, n21, n22, n23, n24, n25, n26, n27, n28, n29, n30, n31, n32, n33, hk]
  · have hk := h1 (by omega)
    have hall : ∀ i : Fin 34, kwv ((i : Nat) : Int) ∈ kwl := by decide +kernel
    have hvm : v ∈ kwl := by
      have h9 := hall ⟨r.toNat, by omega⟩
      have e9 : kwv ((r.toNat : Nat) : Int) = v := by rw [Int.toNat_of_nonneg a, c]
      rw [← e9]
      exact h9
    have hc := hvm
    unfold kwl at hc
    simp only [List.mem_cons, List.not_mem_nil, or_false] at hc
    rcases hc with h | h | h | h | h | h | h | h | h | h | h | h | h | h | h | h | h | h | h | h | h | h | h | h | h | h | h | h | h | h | h | h | h | h <;> (subst h; simp [hk])
end RTOK

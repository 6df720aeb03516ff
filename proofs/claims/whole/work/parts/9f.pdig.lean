/-! numbers in the class's digits -/
def dgs (M : im_M) (p v p' : Int) : Prop := ∃ k : Nat, k ≤ 34 ∧ 0 ≤ p ∧ p' = p + 1 + k ∧ p' ≤ 32836 ∧ dnf 1000000000 (M 22) (p + 1) k ∧ ((M 22 p = 0 ∧ k = 0) ∨ ((M 22 p = k ∨ M 22 p = -k) ∧ 0 < k)) ∧ v = sg (M 22 p) * dv 1000000000 (M 22) (p + 1) k ∧ sm v
def dsq (M : im_M) : Int → List Int → Int → Prop
  | p, [], e => p = e
  | p, v :: vs, e => ∃ p', dgs M p v p' ∧ dsq M p' vs e
theorem dgs_congr {M M' : im_M} {p v p' : Int} (h : dgs M p v p') (hs : ∀ i, p ≤ i → i < p' → M' 22 i = M 22 i) : dgs M' p v p' := by
  obtain ⟨k, h1, h2, h3, h4, ⟨h5, h6⟩, h7, h8, h9⟩ := h
  have e0 := hs p (by omega) (by omega)
  have e2 : ∀ i : Int, 0 ≤ i → i < k → M 22 (p + 1 + i) = M' 22 (p + 1 + i) := fun i i0 i1 => (hs (p + 1 + i) (by omega) (by omega)).symm
  refine ⟨k, h1, h2, h3, h4, ⟨dok_congr e2 h5, fun hn => ?_⟩, by rw [e0]; exact h7, by rw [e0, ← dv_congr e2]; exact h8, h9⟩
  rw [← e2 _ (by omega) (by omega)]
  exact h6 hn
theorem dsq_congr {M M' : im_M} : ∀ (L : List Int) {p e : Int}, dsq M p L e → (∀ i, p ≤ i → i < e → M' 22 i = M 22 i) → dsq M' p L e ∧ p ≤ e := by
  intro L
  induction L with
  | nil => intro p e h _; exact ⟨h, by cases h; omega⟩
  | cons v vs ih =>
    intro p e h hs
    obtain ⟨p', h1, h2⟩ := h
    have hp : p < p' := by obtain ⟨k, _, _, h3, _⟩ := h1; omega
    have hle : p' ≤ e := by
      have : ∀ (L : List Int) {p e : Int}, dsq M p L e → p ≤ e := by
        intro L
        induction L with
        | nil => intro p e h; cases h; omega
        | cons v vs ih2 =>
          intro p e h
          obtain ⟨p', h1, h2⟩ := h
          obtain ⟨k, _, _, h3, _⟩ := h1
          have := ih2 h2
          omega
      exact this vs h2
    obtain ⟨h3, h4⟩ := ih h2 (fun i i0 i1 => hs i (by omega) i1)
    exact ⟨⟨p', dgs_congr h1 (fun i i0 i1 => hs i i0 (by omega)), h3⟩, by omega⟩
theorem dsq_snoc {M : im_M} : ∀ (L : List Int) {p q e v : Int}, dsq M p L q → dgs M q v e → dsq M p (L ++ [v]) e := by
  intro L
  induction L with
  | nil => intro p q e v h h'; cases h; exact ⟨e, h', rfl⟩
  | cons w vs ih =>
    intro p q e v h h'
    obtain ⟨p', h1, h2⟩ := h
    exact ⟨p', h1, ih h2 h'⟩
theorem dgs_len {M : im_M} {p v p' : Int} {L : Nat} (h : dgs M p v p') (hv : -(10 ^ L) < v ∧ v < 10 ^ L) : p' ≤ p + 1 + L := by
  obtain ⟨k, h1, h2, h3, h4, h5, h7, h8, h9⟩ := h
  apply Decidable.byContradiction
  intro hn
  have hk : L < k := by omega
  have h10 := dnf_pos (B := 1000000000) (by decide) h5 (by omega)
  have h11 : (1000000000 : Int) ^ (k - 1) = 10 ^ (9 * (k - 1)) := by rw [Int.pow_mul, p9]
  have h12 := bpow_le (B := 10) (by decide) (n := L) (m := 9 * (k - 1)) (by omega)
  have hsg : sg (M 22 p) = 1 ∨ sg (M 22 p) = -1 := by
    unfold sg
    rcases h7 with ⟨_, z⟩ | ⟨z, _⟩
    · omega
    · split
      · exact Or.inr rfl
      · split
        · omega
        · exact Or.inl rfl
  rcases hsg with w | w
  · rw [w, Int.one_mul] at h8; omega
  · rw [w, Int.neg_mul, Int.one_mul] at h8; omega
section PDIG
variable {g : im_g} {d : Nat} {e : im_E} {M M0 : im_M} {K : im_K}
theorem nm_22 {q : Nat} (h : im_num e q) : q ≠ 22 ∧ q + 1 ≠ 22 := by
  constructor
  · rintro rfl
    have := h.1.symm.trans sf_22
    simp at this
  · intro z
    have := h.2
    rw [z] at this
    have := this.symm.trans sf_22
    simp at this
theorem l_store {q n : Nat} {p : Int} (hq : im_num e q) (hn : M0 q 1 = n) (hn34 : n ≤ 34) (hp0 : 0 ≤ p) (hp : p + n < 32836)
    (hK : ∀ M', (∀ x, x ≠ 22 → M' x = M0 x) → (∀ i, i < p ∨ p + n < i → M' 22 i = M0 22 i) → M' 22 p = M0 22 p → (∀ i : Int, 0 ≤ i → i < n → M' 22 (p + 1 + i) = M0 (q + 1) i) → K (.inl (some (vI (1 + n)))) e M') :
    ∀ (j k : Nat) (M : im_M), k + j = n → (∀ x, x ≠ 22 → M x = M0 x) → (∀ i, i < p ∨ p + k < i → M 22 i = M0 22 i) → M 22 p = M0 22 p → (∀ i : Int, 0 ≤ i → i < k → M 22 (p + 1 + i) = M0 (q + 1) i) → im_T g d 58 37 [some (.ref 13), some (vI p), some (.ref q), some (vI k)] [] e M K := by
  have h22 := nm_22 hq
  intro j
  induction j with
  | zero =>
    intro k M hk hF hs h0 hc
    obtain rfl : k = n := by omega
    have q1 : M q 1 = k := by rw [hF q h22.1]; exact hn
    refine k_Pool_store_37 hq ?_
    rw [q1]
    exact ⟨by constructor <;> omega, fun _ => hK M hF hs h0 hc, fun z => absurd z (by omega)⟩
  | succ j ih =>
    intro k M hk hF hs h0 hc
    have q1 : M q 1 = n := by rw [hF q h22.1]; exact hn
    have q2 : M (q + 1) = M0 (q + 1) := hF _ h22.2
    refine k_Pool_store_37 hq ?_
    rw [q1, q2]
    refine ⟨by constructor <;> omega, fun z => absurd z (by omega), fun _ => ⟨by constructor <;> omega, by constructor <;> omega, ?_⟩⟩
    refine ih (k + 1) _ (by omega) (fun x hx => (im_u_ne _ _ _ hx).trans (hF x hx)) (fun i hi => (im_rdk _ _ _ (by omega)).trans (hs i (by omega))) ((im_rdk _ _ _ (by omega)).trans h0) (fun i i0 i1 => ?_)
    by_cases hi : i = k
    · subst hi; rw [im_rds]
    · rw [im_rdk _ _ _ (by omega)]; exact hc i i0 (by omega)
theorem c_store {q : Nat} {p v : Int} (hq : im_num e q) (hv : cn M q v) (hp0 : 0 ≤ p) (hp : p + 34 < 32836)
    (hK : ∀ M' p', (∀ x, x ≠ 22 → M' x = M x) → (∀ i, i < p ∨ p' ≤ i → M' 22 i = M 22 i) → dgs M' p v p' → K (.inl (some (vI (p' - p)))) e M') : im_T g d 58 0 [some (.ref 13), some (vI p), some (.ref q), none] [] e M K := by
  have h22 := nm_22 hq
  have hsg := cn_sg hv
  obtain ⟨n, h1, h2, h3, h4, h5, h6⟩ := hv
  refine k_Pool_store_0 hq ?_
  rw [h1]
  have hs3 : M q 0 = 1 ∨ M q 0 = -1 ∨ M q 0 = 0 := by omega
  have hi32 : im_i32 (M q 0 * n) := by
    rcases hs3 with z | z | z <;> rw [z] <;> constructor <;> omega
  refine ⟨by constructor <;> omega, fun _ => ⟨by constructor <;> omega, fun _ => ⟨by constructor <;> omega, hi32, ?_⟩⟩, fun z => by omega⟩
  refine l_store (M0 := im_u M 22 p (M q 0 * n)) (n := n) hq (by rw [im_rdn _ _ _ _ h22.1]; exact h1) h2 hp0 (by omega) (fun M' hF hs h0 hc => ?_) n 0 _ (by omega) (fun _ _ => rfl) (fun _ _ => rfl) rfl (fun i i0 i1 => by omega)
  have hk := hK M' (p + 1 + n) (fun x hx => (hF x hx).trans (im_u_ne _ _ _ hx)) (fun i hi => (hs i (by omega)).trans (im_rdk _ _ _ (by omega))) ?_
  · rw [show p + 1 + (n : Int) - p = 1 + n from by omega] at hk; exact hk
  · rw [im_rds] at h0
    have hcs : ∀ i : Int, 0 ≤ i → i < n → M (q + 1) (0 + i) = M' 22 (p + 1 + i) := fun i i0 i1 => by rw [hc i i0 i1, im_u_ne _ _ _ h22.2, Int.zero_add]
    refine ⟨n, h2, hp0, rfl, by omega, ⟨dok_congr hcs h3.1, fun hn => ?_⟩, ?_, ?_, h6⟩
    · rw [← hcs _ (by omega) (by omega)]; exact h3.2 hn
    · rw [h0]
      rcases h4 with ⟨z, z2⟩ | ⟨z | z, z2⟩
      · exact Or.inl ⟨by rw [z, Int.zero_mul], z2⟩
      · exact Or.inr ⟨Or.inl (by rw [z, Int.one_mul]), z2⟩
      · exact Or.inr ⟨Or.inr (by rw [z, Int.neg_mul, Int.one_mul]), z2⟩
    · rw [h0, ← dv_congr hcs, h5]
      congr 1
      unfold sg
      rcases h4 with ⟨z, z2⟩ | ⟨z | z, z2⟩
      · rw [z, Int.zero_mul]; rfl
      · rw [z, Int.one_mul, if_neg (by omega), if_neg (by omega)]
      · rw [z, Int.neg_mul, Int.one_mul, if_pos (by omega)]
end PDIG

/-! A SEARCH has found -/
theorem xiand_1 (x : Int) : xiand x 1 = x % 2 := by
  unfold xiand
  have h : (Int32.ofInt x &&& Int32.ofInt 1).toBitVec = BitVec.ofInt 32 x &&& 1#32 := rfl
  rw [← Int32.toInt_toBitVec, h]
  have h2 : (BitVec.ofInt 32 x &&& 1#32).toNat = (x % 2).toNat := by
    rw [BitVec.toNat_and, BitVec.toNat_ofInt]
    show ((x % ((2 ^ 32 : Nat) : Int)).toNat &&& (2 ^ 1 - 1)) = _
    rw [Nat.and_two_pow_sub_one_eq_mod]
    omega
  rw [BitVec.toInt_eq_toNat_of_lt (by rw [h2]; omega), h2]
  omega
def fnd (mask : Int) (ρ : Rl) : Prop := ∃ i : Nat, i < ρ.1 ∧ xiand (xishr mask (ρ.2.1 i - 1)) 1 = 1
section FOUND
variable {g : im_g} {d : Nat} {e : im_E} {M : im_M} {K : im_K} {ρ : Rl} {mask : Int}
theorem c_isFound (h : rw6 M 1459 ρ) (hK1 : fnd mask ρ → K (.inl (some (vI 1))) e M) (hK0 : ¬ fnd mask ρ → K (.inl (some (vI 0))) e M) : im_T g d 245 0 [some (.ref 1793), some (vI mask), none] [] e M K := by
  obtain ⟨V, ⟨c1, c2, _, c4, _⟩, _⟩ := h
  have loop : ∀ (j k : Nat), k + j = ρ.1 → (∀ i : Nat, i < k → xiand (xishr mask (ρ.2.1 i - 1)) 1 ≠ 1) → im_T g d 245 2 [some (.ref 1793), some (vI mask), some (vI k)] [] e M K := by
    intro j
    induction j with
    | zero =>
      intro k hk hn
      refine k_Search_isFound_2 ⟨by constructor <;> omega, fun _ => hK0 (fun z => ?_), fun z => by omega⟩
      obtain ⟨i, hi, hx⟩ := z
      exact hn i (by omega) hx
    | succ j ih =>
      intro k hk hn
      have e1 := (c4 k (by omega)).1
      have h1 := xiand_1 (xishr mask (ρ.2.1 k - 1))
      refine k_Search_isFound_2 ⟨by constructor <;> omega, fun z => by omega, fun _ => ⟨⟨by omega, by omega⟩, ?_⟩⟩
      rw [show (1460 : Nat) = 1459 + 1 from rfl, e1]
      refine ⟨fun z => ?_, fun z => hK1 ⟨k, by omega, by omega⟩⟩
      exact ih (k + 1) (by omega) (fun i hi => by
        by_cases hik : i = k
        · rw [hik]; omega
        · exact hn i (by omega))
  exact k_Search_isFound_0 (loop ρ.1 0 (by omega) (fun i hi => absurd hi (Nat.not_lt_zero i)))
theorem c_risFound {T : Int} (h : rr5 M 110 7026 7027 7028 7029 7030 ρ T) (hK1 : fnd mask ρ → K (.inl (some (vI 1))) e M) (hK0 : ¬ fnd mask ρ → K (.inl (some (vI 0))) e M) : im_T g d 437 0 [some (.ref 6952), some (vI mask), none, none] [] e M K := by
  obtain ⟨c1, c2, c3⟩ := h
  have loop : ∀ (j k : Nat) (p : Int), k + j = ρ.1 → (p = 0 ∨ p = 1) → (p = 1 ↔ ∃ i : Nat, i < k ∧ xiand (xishr mask (ρ.2.1 i - 1)) 1 = 1) → im_T g d 437 4 [some (.ref 6952), some (vI mask), some (vI p), some (vI k)] [] e M K := by
    intro j
    induction j with
    | zero =>
      intro k p hk hp hiff
      have hkn : k = ρ.1 := by omega
      subst hkn
      refine b_isFound_4 ⟨by constructor <;> omega, ⟨fun _ => ⟨by omega, ?_⟩, fun z => by omega⟩, fun z => by omega⟩
      rcases hp with z | z
      · rw [z]
        exact hK0 (fun y => by have := hiff.mpr y; omega)
      · rw [z]
        exact hK1 (hiff.mp z)
    | succ j ih =>
      intro k p hk hp hiff
      have e1 := (c3 k (by omega)).1.1
      have h1 := xiand_1 (xishr mask (ρ.2.1 k - 1))
      have up : ∀ i : Nat, i < k + 1 → i < k ∨ i = k := fun i hi => by omega
      refine b_isFound_4 ?_
      rw [e1]
      refine ⟨by constructor <;> omega, ⟨fun z => by omega, fun _ => ⟨by constructor <;> omega, fun hp0 => ⟨⟨by omega, by omega⟩, fun hx => ?_⟩⟩⟩, fun hor => ?_⟩
      · refine ih (k + 1) 0 (by omega) (Or.inl rfl) ⟨fun z => absurd z (by decide), fun z => ?_⟩
        obtain ⟨i, hi, hy⟩ := z
        rcases up i hi with q | q
        · have := hiff.mpr ⟨i, q, hy⟩
          omega
        · rw [q] at hy; exact absurd hy hx
      · refine ih (k + 1) 1 (by omega) (Or.inr rfl) ⟨fun _ => ?_, fun _ => rfl⟩
        by_cases hp0 : p = 0
        · refine ⟨k, by omega, ?_⟩
          rcases hor with q | q
          · exact absurd hp0 q.2
          · exact q.2.2
        · obtain ⟨i, hi, hy⟩ := hiff.mp (by omega)
          exact ⟨i, by omega, hy⟩
  exact b_isFound_0 (loop ρ.1 0 0 (by omega) (Or.inl rfl) ⟨fun z => absurd z (by decide), fun z => by obtain ⟨i, hi, _⟩ := z; exact absurd hi (Nat.not_lt_zero i)⟩)
end FOUND

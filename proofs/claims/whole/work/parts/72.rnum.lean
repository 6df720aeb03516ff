/-! THE REFERENCE'S NUMBERS: rn f r n v: at r of the row f stands the number v of n digits. -/
def rn (f : Int → Int) (r : Int) (n : Nat) (v : Int) : Prop := f (r + 1) = n ∧ dnf 10 f (r + 2) n ∧ ((f r = 0 ∧ n = 0) ∨ ((f r = 1 ∨ f r = -1) ∧ 0 < n)) ∧ v = f r * dv 10 f (r + 2) n
def cmpI (x y : Int) : Int := if x < y then -1 else if x = y then 0 else 1
theorem rn_congr {f f' : Int → Int} {r : Int} {n : Nat} {v : Int} (h : rn f r n v) (hs : ∀ i, r ≤ i → i < r + 2 + n → f' i = f i) : rn f' r n v := by
  obtain ⟨h1, ⟨h2, h3⟩, h4, h5⟩ := h
  have e0 := hs r (by omega) (by omega)
  have e1 := hs (r + 1) (by omega) (by omega)
  have e2 : ∀ i : Int, 0 ≤ i → i < n → f (r + 2 + i) = f' (r + 2 + i) := fun i i0 i1 => (hs (r + 2 + i) (by omega) (by omega)).symm
  refine ⟨by rw [e1]; exact h1, ⟨dok_congr e2 h2, fun hn => ?_⟩, by rw [e0]; exact h4, by rw [e0, ← dv_congr e2]; exact h5⟩
  rw [← e2 _ (by omega) (by omega)]
  exact h3 hn
/-- the same number at another place -/
theorem rn_move {f f' : Int → Int} {r r' : Int} {n : Nat} {v : Int} (h : rn f r n v) (hs : ∀ i : Int, 0 ≤ i → i < 2 + n → f' (r' + i) = f (r + i)) : rn f' r' n v := by
  obtain ⟨h1, ⟨h2, h3⟩, h4, h5⟩ := h
  have e0 := hs 0 (by omega) (by omega)
  rw [Int.add_zero, Int.add_zero] at e0
  have e1 := hs 1 (by omega) (by omega)
  have e2 : ∀ i : Int, 0 ≤ i → i < n → f (r + 2 + i) = f' (r' + 2 + i) := fun i i0 i1 => by
    have := (hs (2 + i) (by omega) (by omega)).symm
    rw [← Int.add_assoc, ← Int.add_assoc] at this
    exact this
  refine ⟨by rw [e1]; exact h1, ⟨dok_congr e2 h2, fun hn => ?_⟩, by rw [e0]; exact h4, by rw [e0, ← dv_congr e2]; exact h5⟩
  rw [← e2 _ (by omega) (by omega)]
  exact h3 hn
theorem rn_size {f : Int → Int} {r : Int} {n : Nat} {v : Int} (h : rn f r n v) : -(10 ^ n) < v ∧ v < 10 ^ n ∧ (0 < n → 10 ^ (n - 1) ≤ v ∨ v ≤ -(10 ^ (n - 1))) := by
  obtain ⟨h1, h2, h4, h5⟩ := h
  have hb := dv_bd (B := 10) (by decide) h2.1
  have hp := bpow_pos (B := 10) (by decide) n
  have ht := dnf_pos (B := 10) (by decide) h2
  rcases h4 with ⟨e, rfl⟩ | ⟨e | e, hn⟩
  · rw [e, Int.zero_mul] at h5
    subst h5
    exact ⟨by omega, by omega, fun z => by omega⟩
  · rw [e, Int.one_mul] at h5
    subst h5
    exact ⟨by omega, by omega, fun z => Or.inl (ht z)⟩
  · rw [e, Int.neg_mul, Int.one_mul] at h5
    subst h5
    exact ⟨by omega, by omega, fun z => Or.inr (by have := ht z; omega)⟩
theorem rn_sg {f : Int → Int} {r : Int} {n : Nat} {v : Int} (h : rn f r n v) : f r = sg v := by
  obtain ⟨h1, h2, h4, h5⟩ := h
  have hb := dv_bd (B := 10) (by decide) h2.1
  have ht := dnf_pos (B := 10) (by decide) h2
  unfold sg
  rcases h4 with ⟨e, rfl⟩ | ⟨e | e, hn⟩
  · rw [e, Int.zero_mul] at h5; subst h5; rw [e]; rfl
  · have := ht hn
    have hp := bpow_pos (B := 10) (by decide) (n - 1)
    rw [e, Int.one_mul] at h5
    rw [e, if_neg (by omega), if_neg (by omega)]
  · have := ht hn
    have hp := bpow_pos (B := 10) (by decide) (n - 1)
    rw [e, Int.neg_mul, Int.one_mul] at h5
    rw [e, if_pos (by omega)]
/-- not LARGE: 300 digits at most -/
theorem rn_small {f : Int → Int} {r : Int} {n : Nat} {v : Int} (h : rn f r n v) : n ≤ 300 ↔ (-LIM < v ∧ v < LIM) := by
  obtain ⟨h1, h2, h3⟩ := rn_size h
  constructor
  · intro hn
    have := bpow_le (B := 10) (by decide) hn
    have e : LIM = 10 ^ 300 := rfl
    omega
  · intro hv
    apply Decidable.byContradiction
    intro hn
    have hn : 300 ≤ n - 1 := by omega
    have := bpow_le (B := 10) (by decide) hn
    have e : LIM = 10 ^ 300 := rfl
    rcases h3 (by omega) with z | z <;> omega
def dg (f : Int → Int) (r k : Int) : Int := if k < f (r + 1) then f (r + 2 + k) else 0
theorem dg_dv {f : Int → Int} {r : Int} {n N : Nat} (h : f (r + 1) = n) (hN : n ≤ N) : dv 10 (dg f r) 0 N = dv 10 f (r + 2) n := by
  obtain ⟨k, rfl⟩ : ∃ k, N = n + k := ⟨N - n, by omega⟩
  rw [dv_zeros (fun i h0 h1 => by unfold dg; rw [if_neg (by omega)])]
  exact dv_congr (fun i h0 h1 => by unfold dg; rw [if_pos (by omega), Int.zero_add])
theorem dg_dok {f : Int → Int} {r : Int} {n : Nat} (h : f (r + 1) = n) (hd : dok 10 f (r + 2) n) (N : Nat) : dok 10 (dg f r) 0 N := by
  intro i h0 h1
  rw [Int.zero_add]
  unfold dg
  split
  · exact hd i h0 (by omega)
  · decide
section RNUM
variable {g : im_g} {d : Nat} {e : im_E} {M : im_M} {K : im_K}
theorem c_digit {r k : Int} (h1 : 0 ≤ r) (h3 : 0 ≤ k) (h3' : k ≤ 100000) (h5 : 0 ≤ M 6955 (r + 1)) (h4 : r + 2 + M 6955 (r + 1) ≤ 1100000) (hK : K (.inl (some (vI (dg (M 6955) r k)))) e M) : im_T g d 304 0 [some (.ref 6952), some (vI r), some (vI k)] [] e M K := by
  refine b_digit_0 ⟨by omega, by constructor <;> omega, fun hc => by omega, fun x hx => ?_⟩
  have e1 : x = dg (M 6955) r k := by
    unfold dg
    rcases hx with ⟨a, b⟩ | ⟨a, b⟩
    · rw [if_neg (by omega), b]
    · rw [if_pos a, b]
  rw [e1]
  exact hK
end RNUM

/-! CONSTRUCTORS, pure: where the receiver is the heap's last cell -/
def pu_limb : va_E := .inl (1, 34, .inl (fun _ => 0))
def pu_num (k : Nat) : va_E := .inr (3, [.int 0, .int 0, .ref k])
/-- k NUMBERS from cell b on -/
def pu_nums (b : Nat) : Nat → am_H
  | 0 => []
  | k + 1 => pu_nums b k ++ [pu_num (b + 2 * k + 1), pu_limb]
theorem pu_nums_len (b k : Nat) : (pu_nums b k).length = 2 * k := by
  induction k with
  | zero => rfl
  | succ k ih => rw [pu_nums, List.length_append, ih]; simp only [List.length_cons, List.length_nil]; omega
theorem pu_end (h0 : am_H) (a : va_E) : (h0 ++ [a])[h0.length]? = some a := by simp
theorem pu_set (h0 : am_H) (a c : va_E) (t : am_H) : (h0 ++ a :: t).set h0.length c = h0 ++ c :: t := by
  rw [List.set_append_right _ _ (Nat.le_refl _), Nat.sub_self]; rfl
theorem pu_at (h0 : am_H) (a : va_E) (t : am_H) : (h0 ++ a :: t)[h0.length]? = some a := by
  rw [List.getElem?_append_right (Nat.le_refl _), Nat.sub_self]; rfl
section PUC
variable (xs : Nat → Int32) (L : Nat)
abbrev pu_G : am_G := am_P (am_sp xs L)
set_option maxRecDepth 20000 in
theorem pu_Num_init (d : Nat) (h0 : am_H) : am_R (pu_G xs L) d 2 0 (lv_args 0 [.ref h0.length]) [] (h0 ++ [.inr (3, [.int 0, .int 0, .null])]) (.inl none) (h0 ++ [pu_num (h0.length + 1), pu_limb]) := by
  refine am_R.one rfl ?_
  refine am_R.obj rfl ?_
  refine am_R.one rfl ?_
  refine am_R.one rfl ?_
  refine am_R.one rfl ?_
  rw [List.append_assoc]
  refine am_R.putf (ci := 3) (k := 2) (md := 1) (fs := [.int 0, .int 0, .null]) ⟨rfl, rfl, 3, rfl⟩ rfl (pu_at h0 _ _) (Nat.le_of_ble_eq_true rfl) (Or.inr ⟨rfl, rfl⟩) rfl rfl rfl (by decide) ?_
  rw [show ([.inr (3, [.int 0, .int 0, .null])] ++ [_] : am_H) = .inr (3, [.int 0, .int 0, .null]) :: [_] from rfl, pu_set]
  have e1 : (h0 ++ [(.inr (3, [.int 0, .int 0, .null]) : va_E)]).length = h0.length + 1 := by simp
  rw [e1]
  exact am_R.fin rfl
end PUC
/-- a Book of n places, its cells from l on, k of its NUMBERS made -/
def pu_book (l n k : Nat) : am_H := .inr (0, [.ref (l + 3), .ref (l + 4), .ref (l + 5), .ref (l + 1), .int 0]) :: pu_num (l + 2) :: pu_limb :: .inl (2, n, .inr (.inl (fun _ => 0))) :: .inl (2, n, .inr (.inl (fun _ => 0))) :: .inl (4, n, .inr (.inr (.inr (.inr (fun j => if j < k then some (l + 6 + 2 * j) else none))))) :: pu_nums (l + 6) k
theorem pu_book_len (l n k : Nat) : (pu_book l n k).length = 6 + 2 * k := by
  unfold pu_book
  simp only [List.length_cons, pu_nums_len]
  omega
section PUB
variable (xs : Nat → Int32) (L : Nat)
/-- the pairs' array, one more -/
theorem pu_book_put (h0 : am_H) (n k : Nat) : (h0 ++ pu_book h0.length n k ++ [pu_num (h0.length + 6 + 2 * k + 1), pu_limb]).set (h0.length + 5) (.inl (4, n, .inr (.inr (.inr (.inr (va_up (fun j => if j < k then some (h0.length + 6 + 2 * j) else none) k (some (h0.length + 6 + 2 * k)))))))) = h0 ++ pu_book h0.length n (k + 1) := by
  rw [List.append_assoc, List.set_append_right _ _ (by omega), show h0.length + 5 - h0.length = 5 by omega]
  congr 1
  show [_, _, _, _, _, _] ++ (pu_nums (h0.length + 6) k ++ [_, _]) = _
  unfold pu_book
  rw [pu_nums]
  have e1 : (va_up (fun j => if j < k then some (h0.length + 6 + 2 * j) else none) k (some (h0.length + 6 + 2 * k))) = (fun j => if j < k + 1 then some (h0.length + 6 + 2 * j) else none) := by
    funext j
    simp only [va_up]
    by_cases hj : j = k
    · subst hj; simp
    · rw [if_neg hj]
      by_cases h1 : j < k
      · rw [if_pos h1, if_pos (by omega)]
      · rw [if_neg h1, if_neg (by omega)]
  rw [e1]
  rfl
set_option maxRecDepth 20000 in
set_option maxHeartbeats 4000000 in
theorem pu_Book_loop (d : Nat) (h0 : am_H) (N : Nat) (hN : N < 2 ^ 31) : ∀ (m k : Nat), k + m = N → am_R (pu_G xs L) (d + 1) 13 39 [(2, .int (nI k)), (0, .ref h0.length), (1, .int (nI N))] [] (h0 ++ pu_book h0.length N k) (.inl none) (h0 ++ pu_book h0.length N N) := by
  intro m
  induction m with
  | zero =>
    intro k hk
    have hk : k = N := by omega
    subst hk
    refine am_R.one rfl ?_
    refine am_R.one rfl ?_
    refine am_R.one rfl ?_
    rw [if_pos (by simp only [am_tst, decide_eq_true_eq]; exact nI_le (Nat.le_refl _) hN)]
    exact am_R.fin rfl
  | succ m ih =>
    intro k hk
    have hkN : k < N := by omega
    refine am_R.one rfl ?_
    refine am_R.one rfl ?_
    refine am_R.one rfl ?_
    rw [if_neg (by simp only [am_tst, decide_eq_true_eq]; exact nI_ge hkN hN)]
    refine am_R.one rfl ?_
    refine am_R.getf (ci := 0) (k := 2) (md := 1) ⟨rfl, rfl, 3, rfl⟩ rfl (pu_at h0 _ _) rfl (by decide) ?_
    refine am_R.one rfl ?_
    refine am_R.one rfl ?_
    refine am_R.one rfl ?_
    have hl : (h0 ++ pu_book h0.length N k).length = h0.length + 6 + 2 * k := by rw [List.length_append, pu_book_len]; omega
    refine am_R.calls (k := 8) (y := 2) (ix := 11) (ins := .invokespecial 11) ⟨rfl, rfl, 3, rfl⟩ rfl rfl rfl rfl (Nat.le_refl 1) (by decide) (pu_Num_init xs L d (h0 ++ pu_book h0.length N k)) ?_
    rw [hl]
    have hj : ¬ (nI k < 0 ∨ N ≤ (nI k).toNatClampNeg) := nI_in hkN hN
    refine am_R.aast (ci := 3) (t := 4) (n := N) (f := fun j => if j < k then some (h0.length + 6 + 2 * j) else none) (vs := [.int 0, .int 0, .ref (h0.length + 6 + 2 * k + 1)]) ⟨rfl, rfl, 1, rfl⟩ ?_ ?_ rfl hj ?_
    · rw [List.append_assoc, List.getElem?_append_right (by omega), show h0.length + 5 - h0.length = 5 by omega]
      rfl
    · rw [List.getElem?_append_right (by omega), hl, Nat.sub_self]
      rfl
    · rw [nI_clamp (by omega), pu_book_put]
      refine am_R.one rfl ?_
      refine am_R.one rfl ?_
      have e1 : nI k + Int32.ofInt 1 = nI (k + 1) := nI_1 k
      have := ih (k + 1) (by omega)
      rw [← e1] at this
      exact this
end PUB
theorem pu_push (h0 : am_H) (B a : va_E) (t : am_H) : (h0 ++ B :: t) ++ [a] = h0 ++ B :: (t ++ [a]) := by rw [List.append_assoc]; rfl
theorem pu_app (h0 : am_H) (B : va_E) (t u : am_H) : (h0 ++ B :: t) ++ u = h0 ++ B :: (t ++ u) := by rw [List.append_assoc]; rfl
theorem pu_len (h0 : am_H) (B : va_E) (t : am_H) {n : Nat} (hn : t.length = n) : (h0 ++ B :: t).length = h0.length + (n + 1) := by rw [List.length_append, List.length_cons, hn]
section PUB2
variable (xs : Nat → Int32) (L : Nat)
set_option maxRecDepth 20000 in
set_option maxHeartbeats 4000000 in
theorem pu_Book_init (d : Nat) (h0 : am_H) (N : Nat) (hN : N ≤ 1000) : am_R (pu_G xs L) (d + 1) 13 0 (lv_args 0 [.ref h0.length, .int (nI N)]) [] (h0 ++ [.inr (0, [.null, .null, .null, .null, .int 0])]) (.inl none) (h0 ++ pu_book h0.length N N) := by
  have hp : ¬ nI N < 0 := nI_pos (by omega)
  have hcl : (nI N).toNatClampNeg = N := nI_clamp (by omega)
  refine am_R.one rfl ?_
  refine am_R.obj rfl ?_
  refine am_R.one rfl ?_
  refine am_R.one rfl ?_
  refine am_R.one rfl ?_
  refine am_R.calls (k := 8) (y := 2) (ix := 11) (ins := .invokespecial 11) ⟨rfl, rfl, 3, rfl⟩ rfl rfl rfl rfl (Nat.le_refl 1) (by decide) (pu_Num_init xs L d (h0 ++ [.inr (0, [.null, .null, .null, .null, .int 0])])) ?_
  rw [pu_len h0 _ [] (n := 0) rfl, pu_app h0]
  refine am_R.putf (ci := 0) (k := 3) (md := 1) ⟨rfl, rfl, 3, rfl⟩ rfl (pu_at h0 _ _) (Nat.le_of_ble_eq_true rfl) (Or.inr ⟨rfl, rfl⟩) rfl rfl rfl (by decide) ?_
  rw [pu_set]
  refine am_R.one rfl ?_
  refine am_R.one rfl ?_
  refine am_R.newa (t := 2) ⟨rfl, rfl, 2, rfl⟩ rfl hp hcl (by show N * 8 ≤ _; omega) ?_
  rw [pu_push h0, pu_len h0 _ _ (n := 2) rfl]
  refine am_R.putf (ci := 0) (k := 0) (md := 1) ⟨rfl, rfl, 3, rfl⟩ rfl (pu_at h0 _ _) (Nat.le_of_ble_eq_true rfl) (Or.inr ⟨rfl, rfl⟩) rfl rfl rfl (by decide) ?_
  rw [pu_set]
  refine am_R.one rfl ?_
  refine am_R.one rfl ?_
  refine am_R.newa (t := 2) ⟨rfl, rfl, 2, rfl⟩ rfl hp hcl (by show N * 8 ≤ _; omega) ?_
  rw [pu_push h0, pu_len h0 _ _ (n := 3) rfl]
  refine am_R.putf (ci := 0) (k := 1) (md := 1) ⟨rfl, rfl, 3, rfl⟩ rfl (pu_at h0 _ _) (Nat.le_of_ble_eq_true rfl) (Or.inr ⟨rfl, rfl⟩) rfl rfl rfl (by decide) ?_
  rw [pu_set]
  refine am_R.one rfl ?_
  refine am_R.one rfl ?_
  refine am_R.anewa (t := 4) ⟨rfl, rfl, 3, rfl⟩ rfl (Or.inl rfl) hp hcl (by omega) ?_
  rw [pu_push h0, pu_len h0 _ _ (n := 4) rfl]
  refine am_R.putf (ci := 0) (k := 2) (md := 1) ⟨rfl, rfl, 3, rfl⟩ rfl (pu_at h0 _ _) (Nat.le_of_ble_eq_true rfl) (Or.inr ⟨rfl, rfl⟩) rfl rfl rfl (by decide) ?_
  rw [pu_set]
  refine am_R.one rfl ?_
  refine am_R.one rfl ?_
  exact pu_Book_loop xs L d h0 N (by omega) N 0 (by omega)
end PUB2

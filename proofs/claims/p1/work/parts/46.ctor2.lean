/-- a Row of n places -/
def pu_row (l n k : Nat) : am_H := .inr (7, [.ref (l + 1), .ref (l + 2), .ref (l + 3), .ref (l + 4), .ref (l + 5), .int 0]) :: .inl (1, n, .inl (fun _ => 0)) :: .inl (2, n, .inr (.inl (fun _ => 0))) :: .inl (2, n, .inr (.inl (fun _ => 0))) :: .inl (2, n, .inr (.inl (fun _ => 0))) :: .inl (4, n, .inr (.inr (.inr (.inr (fun j => if j < k then some (l + 6 + 2 * j) else none))))) :: pu_nums (l + 6) k
theorem pu_row_len (l n k : Nat) : (pu_row l n k).length = 6 + 2 * k := by
  unfold pu_row
  simp only [List.length_cons, pu_nums_len]
  omega
section PUR
variable (xs : Nat → Int32) (L : Nat)
/-- the pairs' array, one more -/
theorem pu_row_put (h0 : am_H) (n k : Nat) : (h0 ++ pu_row h0.length n k ++ [pu_num (h0.length + 6 + 2 * k + 1), pu_limb]).set (h0.length + 5) (.inl (4, n, .inr (.inr (.inr (.inr (va_up (fun j => if j < k then some (h0.length + 6 + 2 * j) else none) k (some (h0.length + 6 + 2 * k)))))))) = h0 ++ pu_row h0.length n (k + 1) := by
  rw [List.append_assoc, List.set_append_right _ _ (by omega), show h0.length + 5 - h0.length = 5 by omega]
  congr 1
  show [_, _, _, _, _, _] ++ (pu_nums (h0.length + 6) k ++ [_, _]) = _
  unfold pu_row
  rw [pu_nums]
  have e1 : (va_up (fun j => if j < k then some (h0.length + 6 + 2 * j) else none) k (some (h0.length + 6 + 2 * k))) = (fun j => if j < k + 1 then some (h0.length + 6 + 2 * j) else none) := by
    funext j
    simp only [va_up]
    by_cases hj : j = k
    · subst hj; simp
    · rw [if_neg hj]
      by_cases h1 : j < k
      · rw [if_pos h1, if_pos (by omega)]
      · rw [if_neg h1, if_neg (by omega)]
  rw [e1]
  rfl
set_option maxRecDepth 20000 in
set_option maxHeartbeats 4000000 in
theorem pu_Row_loop (d : Nat) (h0 : am_H) (N : Nat) (hN : N < 2 ^ 31) : ∀ (m k : Nat), k + m = N → am_R (pu_G xs L) (d + 1) 14 42 [(2, .int (nI k)), (0, .ref h0.length), (1, .int (nI N))] [] (h0 ++ pu_row h0.length N k) (.inl none) (h0 ++ pu_row h0.length N N) := by
  intro m
  induction m with
  | zero =>
    intro k hk
    have hk : k = N := by omega
    subst hk
    refine am_R.one rfl ?_
    refine am_R.one rfl ?_
    refine am_R.one rfl ?_
    rw [if_pos (by simp only [am_tst, decide_eq_true_eq]; exact nI_le (Nat.le_refl _) hN)]
    exact am_R.fin rfl
  | succ m ih =>
    intro k hk
    have hkN : k < N := by omega
    refine am_R.one rfl ?_
    refine am_R.one rfl ?_
    refine am_R.one rfl ?_
    rw [if_neg (by simp only [am_tst, decide_eq_true_eq]; exact nI_ge hkN hN)]
    refine am_R.one rfl ?_
    refine am_R.getf (ci := 7) (k := 4) (md := 1) ⟨rfl, rfl, 3, rfl⟩ rfl (pu_at h0 _ _) rfl (by decide) ?_
    refine am_R.one rfl ?_
    refine am_R.one rfl ?_
    refine am_R.one rfl ?_
    have hl : (h0 ++ pu_row h0.length N k).length = h0.length + 6 + 2 * k := by rw [List.length_append, pu_row_len]; omega
    refine am_R.calls (k := 8) (y := 2) (ix := 29) (ins := .invokespecial 29) ⟨rfl, rfl, 3, rfl⟩ rfl rfl rfl rfl (Nat.le_refl 1) (by decide) (pu_Num_init xs L d (h0 ++ pu_row h0.length N k)) ?_
    rw [hl]
    have hj : ¬ (nI k < 0 ∨ N ≤ (nI k).toNatClampNeg) := nI_in hkN hN
    refine am_R.aast (ci := 3) (t := 4) (n := N) (f := fun j => if j < k then some (h0.length + 6 + 2 * j) else none) (vs := [.int 0, .int 0, .ref (h0.length + 6 + 2 * k + 1)]) ⟨rfl, rfl, 1, rfl⟩ ?_ ?_ rfl hj ?_
    · rw [List.append_assoc, List.getElem?_append_right (by omega), show h0.length + 5 - h0.length = 5 by omega]
      rfl
    · rw [List.getElem?_append_right (by omega), hl, Nat.sub_self]
      rfl
    · rw [nI_clamp (by omega), pu_row_put]
      refine am_R.one rfl ?_
      refine am_R.one rfl ?_
      have e1 : nI k + Int32.ofInt 1 = nI (k + 1) := nI_1 k
      have := ih (k + 1) (by omega)
      rw [← e1] at this
      exact this
set_option maxRecDepth 20000 in
set_option maxHeartbeats 4000000 in
theorem pu_Row_init (d : Nat) (h0 : am_H) (N : Nat) (hN : N ≤ 1000) : am_R (pu_G xs L) (d + 1) 14 0 (lv_args 0 [.ref h0.length, .int (nI N)]) [] (h0 ++ [.inr (7, [.null, .null, .null, .null, .null, .int 0])]) (.inl none) (h0 ++ pu_row h0.length N N) := by
  have hp : ¬ nI N < 0 := nI_pos (by omega)
  have hcl : (nI N).toNatClampNeg = N := nI_clamp (by omega)
  refine am_R.one rfl ?_
  refine am_R.obj rfl ?_
  refine am_R.one rfl ?_
  refine am_R.one rfl ?_
  refine am_R.newa (t := 1) ⟨rfl, rfl, 2, rfl⟩ rfl hp hcl (by show N * 4 ≤ _; omega) ?_
  rw [pu_push h0, pu_len h0 _ _ (n := 0) rfl]
  refine am_R.putf (ci := 7) (k := 0) (md := 1) ⟨rfl, rfl, 3, rfl⟩ rfl (pu_at h0 _ _) (Nat.le_of_ble_eq_true rfl) (Or.inr ⟨rfl, rfl⟩) rfl rfl rfl (by decide) ?_
  rw [pu_set]
  refine am_R.one rfl ?_
  refine am_R.one rfl ?_
  refine am_R.newa (t := 2) ⟨rfl, rfl, 2, rfl⟩ rfl hp hcl (by show N * 8 ≤ _; omega) ?_
  rw [pu_push h0, pu_len h0 _ _ (n := 1) rfl]
  refine am_R.putf (ci := 7) (k := 1) (md := 1) ⟨rfl, rfl, 3, rfl⟩ rfl (pu_at h0 _ _) (Nat.le_of_ble_eq_true rfl) (Or.inr ⟨rfl, rfl⟩) rfl rfl rfl (by decide) ?_
  rw [pu_set]
  refine am_R.one rfl ?_
  refine am_R.one rfl ?_
  refine am_R.newa (t := 2) ⟨rfl, rfl, 2, rfl⟩ rfl hp hcl (by show N * 8 ≤ _; omega) ?_
  rw [pu_push h0, pu_len h0 _ _ (n := 2) rfl]
  refine am_R.putf (ci := 7) (k := 2) (md := 1) ⟨rfl, rfl, 3, rfl⟩ rfl (pu_at h0 _ _) (Nat.le_of_ble_eq_true rfl) (Or.inr ⟨rfl, rfl⟩) rfl rfl rfl (by decide) ?_
  rw [pu_set]
  refine am_R.one rfl ?_
  refine am_R.one rfl ?_
  refine am_R.newa (t := 2) ⟨rfl, rfl, 2, rfl⟩ rfl hp hcl (by show N * 8 ≤ _; omega) ?_
  rw [pu_push h0, pu_len h0 _ _ (n := 3) rfl]
  refine am_R.putf (ci := 7) (k := 3) (md := 1) ⟨rfl, rfl, 3, rfl⟩ rfl (pu_at h0 _ _) (Nat.le_of_ble_eq_true rfl) (Or.inr ⟨rfl, rfl⟩) rfl rfl rfl (by decide) ?_
  rw [pu_set]
  refine am_R.one rfl ?_
  refine am_R.one rfl ?_
  refine am_R.anewa (t := 4) ⟨rfl, rfl, 3, rfl⟩ rfl (Or.inl rfl) hp hcl (by omega) ?_
  rw [pu_push h0, pu_len h0 _ _ (n := 4) rfl]
  refine am_R.putf (ci := 7) (k := 4) (md := 1) ⟨rfl, rfl, 3, rfl⟩ rfl (pu_at h0 _ _) (Nat.le_of_ble_eq_true rfl) (Or.inr ⟨rfl, rfl⟩) rfl rfl rfl (by decide) ?_
  rw [pu_set]
  refine am_R.one rfl ?_
  refine am_R.one rfl ?_
  exact pu_Row_loop xs L d h0 N (by omega) N 0 (by omega)
end PUR
def pu_journal (l : Nat) : am_H := .inr (1, [.ref (l + 1), .int 0, .int 0, .int (-1), .int 0, .int 0, .int 0]) :: ([] ++ [.inl (0, 16384, .inl (fun _ => 0))])
theorem pu_journal_len (l : Nat) : (pu_journal l).length = 2 := by
  unfold pu_journal
  simp only [List.length_append, List.length_cons, List.length_nil, pu_book_len, pu_row_len]
set_option maxRecDepth 20000 in
set_option maxHeartbeats 4000000 in
theorem pu_Journal_init (xs : Nat → Int32) (L d : Nat) (h0 : am_H) : am_R (pu_G xs L) (d + 1) 18 0 (lv_args 0 [.ref h0.length]) [] (h0 ++ [.inr (1, [.null, .int 0, .int 0, .int 0, .int 0, .int 0, .int 0])]) (.inl none) (h0 ++ pu_journal h0.length) := by
  refine am_R.one rfl ?_
  refine am_R.obj rfl ?_
  refine am_R.one rfl ?_
  refine am_R.one rfl ?_
  refine am_R.newa (t := 0) (N := 16384) ⟨rfl, rfl, 2, rfl⟩ rfl (by decide) (by decide) (by decide) ?_
  rw [pu_push h0, pu_len h0 _ _ (n := 0) rfl]
  refine am_R.putf (ci := 1) (k := 0) (md := 1) ⟨rfl, rfl, 3, rfl⟩ rfl (pu_at h0 _ _) (Nat.le_of_ble_eq_true rfl) (Or.inr ⟨rfl, rfl⟩) rfl rfl rfl (by decide) ?_
  rw [pu_set]
  refine am_R.one rfl ?_
  refine am_R.one rfl ?_
  refine am_R.putf (ci := 1) (k := 3) (md := 0) ⟨rfl, rfl, 3, rfl⟩ rfl (pu_at h0 _ _) (Nat.le_of_ble_eq_true rfl) (Or.inl rfl) rfl rfl rfl (by decide) ?_
  rw [pu_set]
  exact am_R.fin rfl
def pu_writer (l : Nat) (p1 : Nat) : am_H := .inr (10, [.ref (l + 1), .int 0, .ref p1, .ref (l + 2), .ref (l + 3), .int 0, .ref (l + 4)]) :: (((([] ++ [.inl (0, 16384, .inl (fun _ => 0))]) ++ [.inl (1, 1024, .inl (fun _ => 0))]) ++ [.inl (1, 1024, .inl (fun _ => 0))]) ++ [pu_num (l + 4 + 1), pu_limb])
theorem pu_writer_len (l : Nat) (p1 : Nat) : (pu_writer l p1).length = 6 := by
  unfold pu_writer
  simp only [List.length_append, List.length_cons, List.length_nil, pu_book_len, pu_row_len, pu_journal_len]
set_option maxRecDepth 20000 in
set_option maxHeartbeats 4000000 in
theorem pu_Writer_init (xs : Nat → Int32) (L d : Nat) (h0 : am_H) (p1 : Nat) : am_R (pu_G xs L) (d + 1) 10 0 (lv_args 0 [.ref h0.length, .ref p1]) [] (h0 ++ [.inr (10, [.null, .int 0, .null, .null, .null, .int 0, .null])]) (.inl none) (h0 ++ pu_writer h0.length p1) := by
  refine am_R.one rfl ?_
  refine am_R.obj rfl ?_
  refine am_R.one rfl ?_
  refine am_R.one rfl ?_
  refine am_R.newa (t := 0) (N := 16384) ⟨rfl, rfl, 2, rfl⟩ rfl (by decide) (by decide) (by decide) ?_
  rw [pu_push h0, pu_len h0 _ _ (n := 0) rfl]
  refine am_R.putf (ci := 10) (k := 0) (md := 1) ⟨rfl, rfl, 3, rfl⟩ rfl (pu_at h0 _ _) (Nat.le_of_ble_eq_true rfl) (Or.inr ⟨rfl, rfl⟩) rfl rfl rfl (by decide) ?_
  rw [pu_set]
  refine am_R.one rfl ?_
  refine am_R.one rfl ?_
  refine am_R.newa (t := 1) (N := 1024) ⟨rfl, rfl, 2, rfl⟩ rfl (by decide) (by decide) (by decide) ?_
  rw [pu_push h0, pu_len h0 _ _ (n := 1) (by simp only [List.length_append, List.length_cons, List.length_nil, pu_book_len, pu_row_len, pu_journal_len])]
  refine am_R.putf (ci := 10) (k := 3) (md := 1) ⟨rfl, rfl, 3, rfl⟩ rfl (pu_at h0 _ _) (Nat.le_of_ble_eq_true rfl) (Or.inr ⟨rfl, rfl⟩) rfl rfl rfl (by decide) ?_
  rw [pu_set]
  refine am_R.one rfl ?_
  refine am_R.one rfl ?_
  refine am_R.newa (t := 1) (N := 1024) ⟨rfl, rfl, 2, rfl⟩ rfl (by decide) (by decide) (by decide) ?_
  rw [pu_push h0, pu_len h0 _ _ (n := 2) (by simp only [List.length_append, List.length_cons, List.length_nil, pu_book_len, pu_row_len, pu_journal_len])]
  refine am_R.putf (ci := 10) (k := 4) (md := 1) ⟨rfl, rfl, 3, rfl⟩ rfl (pu_at h0 _ _) (Nat.le_of_ble_eq_true rfl) (Or.inr ⟨rfl, rfl⟩) rfl rfl rfl (by decide) ?_
  rw [pu_set]
  refine am_R.one rfl ?_
  refine am_R.one rfl ?_
  refine am_R.one rfl ?_
  refine am_R.calls (k := 8) (y := 2) (ix := 24) (ins := .invokespecial 24) ⟨rfl, rfl, 3, rfl⟩ rfl rfl rfl rfl (Nat.le_of_ble_eq_true rfl) (by decide) (pu_Num_init xs L (d + 0) _) ?_
  rw [pu_len h0 _ _ (n := 3) (by simp only [List.length_append, List.length_cons, List.length_nil, pu_book_len, pu_row_len, pu_journal_len]), pu_app h0]
  refine am_R.putf (ci := 10) (k := 6) (md := 1) ⟨rfl, rfl, 3, rfl⟩ rfl (pu_at h0 _ _) (Nat.le_of_ble_eq_true rfl) (Or.inr ⟨rfl, rfl⟩) rfl rfl rfl (by decide) ?_
  rw [pu_set]
  refine am_R.one rfl ?_
  refine am_R.one rfl ?_
  refine am_R.putf (ci := 10) (k := 2) (md := 1) ⟨rfl, rfl, 3, rfl⟩ rfl (pu_at h0 _ _) (Nat.le_of_ble_eq_true rfl) (Or.inr ⟨rfl, rfl⟩) rfl rfl rfl (by decide) ?_
  rw [pu_set]
  exact am_R.fin rfl
def pu_pool (l : Nat) : am_H := .inr (5, [.ref (l + 1), .ref (l + 2), .ref (l + 3), .ref (l + 4), .ref (l + 5), .ref (l + 6), .ref (l + 7), .ref (l + 8), .int 0, .ref (l + 9), .int 0]) :: ((((((((([] ++ [.inl (1, 5000, .inl (fun _ => 0))]) ++ [.inl (1, 5000, .inl (fun _ => 0))]) ++ [.inl (1, 5000, .inl (fun _ => 0))]) ++ [.inl (1, 5000, .inl (fun _ => 0))]) ++ [.inl (1, 5000, .inl (fun _ => 0))]) ++ [.inl (2, 5000, .inr (.inl (fun _ => 0)))]) ++ [.inl (2, 5000, .inr (.inl (fun _ => 0)))]) ++ [.inl (2, 5000, .inr (.inl (fun _ => 0)))]) ++ [.inl (1, 32836, .inl (fun _ => 0))])
theorem pu_pool_len (l : Nat) : (pu_pool l).length = 10 := by
  unfold pu_pool
  simp only [List.length_append, List.length_cons, List.length_nil, pu_book_len, pu_row_len, pu_journal_len, pu_writer_len]
set_option maxRecDepth 20000 in
set_option maxHeartbeats 4000000 in
theorem pu_Pool_init (xs : Nat → Int32) (L d : Nat) (h0 : am_H) : am_R (pu_G xs L) (d + 1) 11 0 (lv_args 0 [.ref h0.length]) [] (h0 ++ [.inr (5, [.null, .null, .null, .null, .null, .null, .null, .null, .int 0, .null, .int 0])]) (.inl none) (h0 ++ pu_pool h0.length) := by
  refine am_R.one rfl ?_
  refine am_R.obj rfl ?_
  refine am_R.one rfl ?_
  refine am_R.one rfl ?_
  refine am_R.newa (t := 1) (N := 5000) ⟨rfl, rfl, 2, rfl⟩ rfl (by decide) (by decide) (by decide) ?_
  rw [pu_push h0, pu_len h0 _ _ (n := 0) rfl]
  refine am_R.putf (ci := 5) (k := 0) (md := 1) ⟨rfl, rfl, 3, rfl⟩ rfl (pu_at h0 _ _) (Nat.le_of_ble_eq_true rfl) (Or.inr ⟨rfl, rfl⟩) rfl rfl rfl (by decide) ?_
  rw [pu_set]
  refine am_R.one rfl ?_
  refine am_R.one rfl ?_
  refine am_R.newa (t := 1) (N := 5000) ⟨rfl, rfl, 2, rfl⟩ rfl (by decide) (by decide) (by decide) ?_
  rw [pu_push h0, pu_len h0 _ _ (n := 1) (by simp only [List.length_append, List.length_cons, List.length_nil, pu_book_len, pu_row_len, pu_journal_len, pu_writer_len])]
  refine am_R.putf (ci := 5) (k := 1) (md := 1) ⟨rfl, rfl, 3, rfl⟩ rfl (pu_at h0 _ _) (Nat.le_of_ble_eq_true rfl) (Or.inr ⟨rfl, rfl⟩) rfl rfl rfl (by decide) ?_
  rw [pu_set]
  refine am_R.one rfl ?_
  refine am_R.one rfl ?_
  refine am_R.newa (t := 1) (N := 5000) ⟨rfl, rfl, 2, rfl⟩ rfl (by decide) (by decide) (by decide) ?_
  rw [pu_push h0, pu_len h0 _ _ (n := 2) (by simp only [List.length_append, List.length_cons, List.length_nil, pu_book_len, pu_row_len, pu_journal_len, pu_writer_len])]
  refine am_R.putf (ci := 5) (k := 2) (md := 1) ⟨rfl, rfl, 3, rfl⟩ rfl (pu_at h0 _ _) (Nat.le_of_ble_eq_true rfl) (Or.inr ⟨rfl, rfl⟩) rfl rfl rfl (by decide) ?_
  rw [pu_set]
  refine am_R.one rfl ?_
  refine am_R.one rfl ?_
  refine am_R.newa (t := 1) (N := 5000) ⟨rfl, rfl, 2, rfl⟩ rfl (by decide) (by decide) (by decide) ?_
  rw [pu_push h0, pu_len h0 _ _ (n := 3) (by simp only [List.length_append, List.length_cons, List.length_nil, pu_book_len, pu_row_len, pu_journal_len, pu_writer_len])]
  refine am_R.putf (ci := 5) (k := 3) (md := 1) ⟨rfl, rfl, 3, rfl⟩ rfl (pu_at h0 _ _) (Nat.le_of_ble_eq_true rfl) (Or.inr ⟨rfl, rfl⟩) rfl rfl rfl (by decide) ?_
  rw [pu_set]
  refine am_R.one rfl ?_
  refine am_R.one rfl ?_
  refine am_R.newa (t := 1) (N := 5000) ⟨rfl, rfl, 2, rfl⟩ rfl (by decide) (by decide) (by decide) ?_
  rw [pu_push h0, pu_len h0 _ _ (n := 4) (by simp only [List.length_append, List.length_cons, List.length_nil, pu_book_len, pu_row_len, pu_journal_len, pu_writer_len])]
  refine am_R.putf (ci := 5) (k := 4) (md := 1) ⟨rfl, rfl, 3, rfl⟩ rfl (pu_at h0 _ _) (Nat.le_of_ble_eq_true rfl) (Or.inr ⟨rfl, rfl⟩) rfl rfl rfl (by decide) ?_
  rw [pu_set]
  refine am_R.one rfl ?_
  refine am_R.one rfl ?_
  refine am_R.newa (t := 2) (N := 5000) ⟨rfl, rfl, 2, rfl⟩ rfl (by decide) (by decide) (by decide) ?_
  rw [pu_push h0, pu_len h0 _ _ (n := 5) (by simp only [List.length_append, List.length_cons, List.length_nil, pu_book_len, pu_row_len, pu_journal_len, pu_writer_len])]
  refine am_R.putf (ci := 5) (k := 5) (md := 1) ⟨rfl, rfl, 3, rfl⟩ rfl (pu_at h0 _ _) (Nat.le_of_ble_eq_true rfl) (Or.inr ⟨rfl, rfl⟩) rfl rfl rfl (by decide) ?_
  rw [pu_set]
  refine am_R.one rfl ?_
  refine am_R.one rfl ?_
  refine am_R.newa (t := 2) (N := 5000) ⟨rfl, rfl, 2, rfl⟩ rfl (by decide) (by decide) (by decide) ?_
  rw [pu_push h0, pu_len h0 _ _ (n := 6) (by simp only [List.length_append, List.length_cons, List.length_nil, pu_book_len, pu_row_len, pu_journal_len, pu_writer_len])]
  refine am_R.putf (ci := 5) (k := 6) (md := 1) ⟨rfl, rfl, 3, rfl⟩ rfl (pu_at h0 _ _) (Nat.le_of_ble_eq_true rfl) (Or.inr ⟨rfl, rfl⟩) rfl rfl rfl (by decide) ?_
  rw [pu_set]
  refine am_R.one rfl ?_
  refine am_R.one rfl ?_
  refine am_R.newa (t := 2) (N := 5000) ⟨rfl, rfl, 2, rfl⟩ rfl (by decide) (by decide) (by decide) ?_
  rw [pu_push h0, pu_len h0 _ _ (n := 7) (by simp only [List.length_append, List.length_cons, List.length_nil, pu_book_len, pu_row_len, pu_journal_len, pu_writer_len])]
  refine am_R.putf (ci := 5) (k := 7) (md := 1) ⟨rfl, rfl, 3, rfl⟩ rfl (pu_at h0 _ _) (Nat.le_of_ble_eq_true rfl) (Or.inr ⟨rfl, rfl⟩) rfl rfl rfl (by decide) ?_
  rw [pu_set]
  refine am_R.one rfl ?_
  refine am_R.one rfl ?_
  refine am_R.newa (t := 1) (N := 32836) ⟨rfl, rfl, 2, rfl⟩ rfl (by decide) (by decide) (by decide) ?_
  rw [pu_push h0, pu_len h0 _ _ (n := 8) (by simp only [List.length_append, List.length_cons, List.length_nil, pu_book_len, pu_row_len, pu_journal_len, pu_writer_len])]
  refine am_R.putf (ci := 5) (k := 9) (md := 1) ⟨rfl, rfl, 3, rfl⟩ rfl (pu_at h0 _ _) (Nat.le_of_ble_eq_true rfl) (Or.inr ⟨rfl, rfl⟩) rfl rfl rfl (by decide) ?_
  rw [pu_set]
  exact am_R.fin rfl
def pu_parser (l : Nat) (p1 p2 : Nat) : am_H := .inr (4, [.ref p1, .ref p2, .ref (l + 1), .ref (l + 2), .int 0, .int 0, .ref (l + 3), .int 0]) :: ((([] ++ [.inl (1, 1024, .inl (fun _ => 0))]) ++ [.inl (1, 1024, .inl (fun _ => 0))]) ++ [pu_num (l + 3 + 1), pu_limb])
theorem pu_parser_len (l : Nat) (p1 p2 : Nat) : (pu_parser l p1 p2).length = 5 := by
  unfold pu_parser
  simp only [List.length_append, List.length_cons, List.length_nil, pu_book_len, pu_row_len, pu_journal_len, pu_writer_len, pu_pool_len]
set_option maxRecDepth 20000 in
set_option maxHeartbeats 4000000 in
theorem pu_Parser_init (xs : Nat → Int32) (L d : Nat) (h0 : am_H) (p1 p2 : Nat) : am_R (pu_G xs L) (d + 1) 12 0 (lv_args 0 [.ref h0.length, .ref p1, .ref p2]) [] (h0 ++ [.inr (4, [.null, .null, .null, .null, .int 0, .int 0, .null, .int 0])]) (.inl none) (h0 ++ pu_parser h0.length p1 p2) := by
  refine am_R.one rfl ?_
  refine am_R.obj rfl ?_
  refine am_R.one rfl ?_
  refine am_R.one rfl ?_
  refine am_R.newa (t := 1) (N := 1024) ⟨rfl, rfl, 2, rfl⟩ rfl (by decide) (by decide) (by decide) ?_
  rw [pu_push h0, pu_len h0 _ _ (n := 0) rfl]
  refine am_R.putf (ci := 4) (k := 2) (md := 1) ⟨rfl, rfl, 3, rfl⟩ rfl (pu_at h0 _ _) (Nat.le_of_ble_eq_true rfl) (Or.inr ⟨rfl, rfl⟩) rfl rfl rfl (by decide) ?_
  rw [pu_set]
  refine am_R.one rfl ?_
  refine am_R.one rfl ?_
  refine am_R.newa (t := 1) (N := 1024) ⟨rfl, rfl, 2, rfl⟩ rfl (by decide) (by decide) (by decide) ?_
  rw [pu_push h0, pu_len h0 _ _ (n := 1) (by simp only [List.length_append, List.length_cons, List.length_nil, pu_book_len, pu_row_len, pu_journal_len, pu_writer_len, pu_pool_len])]
  refine am_R.putf (ci := 4) (k := 3) (md := 1) ⟨rfl, rfl, 3, rfl⟩ rfl (pu_at h0 _ _) (Nat.le_of_ble_eq_true rfl) (Or.inr ⟨rfl, rfl⟩) rfl rfl rfl (by decide) ?_
  rw [pu_set]
  refine am_R.one rfl ?_
  refine am_R.one rfl ?_
  refine am_R.one rfl ?_
  refine am_R.calls (k := 8) (y := 2) (ix := 20) (ins := .invokespecial 20) ⟨rfl, rfl, 3, rfl⟩ rfl rfl rfl rfl (Nat.le_of_ble_eq_true rfl) (by decide) (pu_Num_init xs L (d + 0) _) ?_
  rw [pu_len h0 _ _ (n := 2) (by simp only [List.length_append, List.length_cons, List.length_nil, pu_book_len, pu_row_len, pu_journal_len, pu_writer_len, pu_pool_len]), pu_app h0]
  refine am_R.putf (ci := 4) (k := 6) (md := 1) ⟨rfl, rfl, 3, rfl⟩ rfl (pu_at h0 _ _) (Nat.le_of_ble_eq_true rfl) (Or.inr ⟨rfl, rfl⟩) rfl rfl rfl (by decide) ?_
  rw [pu_set]
  refine am_R.one rfl ?_
  refine am_R.one rfl ?_
  refine am_R.putf (ci := 4) (k := 0) (md := 1) ⟨rfl, rfl, 3, rfl⟩ rfl (pu_at h0 _ _) (Nat.le_of_ble_eq_true rfl) (Or.inr ⟨rfl, rfl⟩) rfl rfl rfl (by decide) ?_
  rw [pu_set]
  refine am_R.one rfl ?_
  refine am_R.one rfl ?_
  refine am_R.putf (ci := 4) (k := 1) (md := 1) ⟨rfl, rfl, 3, rfl⟩ rfl (pu_at h0 _ _) (Nat.le_of_ble_eq_true rfl) (Or.inr ⟨rfl, rfl⟩) rfl rfl rfl (by decide) ?_
  rw [pu_set]
  exact am_R.fin rfl
def pu_state (l : Nat) (np : Nat) : am_H := .inr (9, [.ref (l + 1), .ref (l + 87), .ref (l + 173), .ref (l + 259), .long 0, .int 0, .int 0]) :: (((([] ++ pu_book (l + 1) 40 40) ++ pu_book (l + 87) 40 40) ++ pu_book (l + 173) 40 40) ++ pu_book (l + 259) np np)
set_option maxRecDepth 20000 in
set_option maxHeartbeats 4000000 in
theorem pu_State_init (xs : Nat → Int32) (L d : Nat) (h0 : am_H) (np : Nat) (hnp : np ≤ 1000) : am_R (pu_G xs L) (d + 2) 15 0 (lv_args 0 [.ref h0.length, .int (nI np)]) [] (h0 ++ [.inr (9, [.null, .null, .null, .null, .long 0, .int 0, .int 0])]) (.inl none) (h0 ++ pu_state h0.length np) := by
  refine am_R.one rfl ?_
  refine am_R.obj rfl ?_
  refine am_R.one rfl ?_
  refine am_R.one rfl ?_
  refine am_R.one rfl ?_
  refine am_R.one rfl ?_
  refine am_R.calls (k := 2) (y := 13) (ix := 11) (ins := .invokespecial 11) ⟨rfl, rfl, 3, rfl⟩ rfl rfl rfl rfl (Nat.le_of_ble_eq_true rfl) (by decide) (pu_Book_init xs L (d + 0) _ 40 (by omega)) ?_
  rw [pu_len h0 _ _ (n := 0) rfl, pu_app h0]
  refine am_R.putf (ci := 9) (k := 0) (md := 1) ⟨rfl, rfl, 3, rfl⟩ rfl (pu_at h0 _ _) (Nat.le_of_ble_eq_true rfl) (Or.inr ⟨rfl, rfl⟩) rfl rfl rfl (by decide) ?_
  rw [pu_set]
  refine am_R.one rfl ?_
  refine am_R.one rfl ?_
  refine am_R.one rfl ?_
  refine am_R.one rfl ?_
  refine am_R.calls (k := 2) (y := 13) (ix := 11) (ins := .invokespecial 11) ⟨rfl, rfl, 3, rfl⟩ rfl rfl rfl rfl (Nat.le_of_ble_eq_true rfl) (by decide) (pu_Book_init xs L (d + 0) _ 40 (by omega)) ?_
  rw [pu_len h0 _ _ (n := 86) (by simp only [List.length_append, List.length_cons, List.length_nil, pu_book_len, pu_row_len, pu_journal_len, pu_writer_len, pu_pool_len, pu_parser_len]), pu_app h0]
  refine am_R.putf (ci := 9) (k := 1) (md := 1) ⟨rfl, rfl, 3, rfl⟩ rfl (pu_at h0 _ _) (Nat.le_of_ble_eq_true rfl) (Or.inr ⟨rfl, rfl⟩) rfl rfl rfl (by decide) ?_
  rw [pu_set]
  refine am_R.one rfl ?_
  refine am_R.one rfl ?_
  refine am_R.one rfl ?_
  refine am_R.one rfl ?_
  refine am_R.calls (k := 2) (y := 13) (ix := 11) (ins := .invokespecial 11) ⟨rfl, rfl, 3, rfl⟩ rfl rfl rfl rfl (Nat.le_of_ble_eq_true rfl) (by decide) (pu_Book_init xs L (d + 0) _ 40 (by omega)) ?_
  rw [pu_len h0 _ _ (n := 172) (by simp only [List.length_append, List.length_cons, List.length_nil, pu_book_len, pu_row_len, pu_journal_len, pu_writer_len, pu_pool_len, pu_parser_len]), pu_app h0]
  refine am_R.putf (ci := 9) (k := 2) (md := 1) ⟨rfl, rfl, 3, rfl⟩ rfl (pu_at h0 _ _) (Nat.le_of_ble_eq_true rfl) (Or.inr ⟨rfl, rfl⟩) rfl rfl rfl (by decide) ?_
  rw [pu_set]
  refine am_R.one rfl ?_
  refine am_R.one rfl ?_
  refine am_R.one rfl ?_
  refine am_R.one rfl ?_
  refine am_R.calls (k := 2) (y := 13) (ix := 11) (ins := .invokespecial 11) ⟨rfl, rfl, 3, rfl⟩ rfl rfl rfl rfl (Nat.le_of_ble_eq_true rfl) (by decide) (pu_Book_init xs L (d + 0) _ np hnp) ?_
  rw [pu_len h0 _ _ (n := 258) (by simp only [List.length_append, List.length_cons, List.length_nil, pu_book_len, pu_row_len, pu_journal_len, pu_writer_len, pu_pool_len, pu_parser_len]), pu_app h0]
  refine am_R.putf (ci := 9) (k := 3) (md := 1) ⟨rfl, rfl, 3, rfl⟩ rfl (pu_at h0 _ _) (Nat.le_of_ble_eq_true rfl) (Or.inr ⟨rfl, rfl⟩) rfl rfl rfl (by decide) ?_
  rw [pu_set]
  exact am_R.fin rfl
def pu_search (l : Nat) (p1 p2 : Nat) : am_H := .inr (8, [.ref p1, .ref p2, .ref (l + 1), .ref (l + 2), .ref (l + 264), .ref (l + 265), .ref (l + 266), .ref (l + 267), .ref (l + 269), .int 0]) :: ((((((([] ++ [.inl (5, 128, .inr (.inr (.inr (.inr (fun _ => none)))))]) ++ pu_row (l + 2) 128 128) ++ [.inl (2, 128, .inr (.inl (fun _ => 0)))]) ++ [.inl (1, 128, .inl (fun _ => 0))]) ++ [.inl (1, 128, .inl (fun _ => 0))]) ++ [pu_num (l + 267 + 1), pu_limb]) ++ pu_book (l + 269) 0 0)
theorem pu_search_len (l : Nat) (p1 p2 : Nat) : (pu_search l p1 p2).length = 275 := by
  unfold pu_search
  simp only [List.length_append, List.length_cons, List.length_nil, pu_book_len, pu_row_len, pu_journal_len, pu_writer_len, pu_pool_len, pu_parser_len]
set_option maxRecDepth 20000 in
set_option maxHeartbeats 4000000 in
theorem pu_Search_init (xs : Nat → Int32) (L d : Nat) (h0 : am_H) (p1 p2 : Nat) : am_R (pu_G xs L) (d + 2) 17 0 (lv_args 0 [.ref h0.length, .ref p1, .ref p2]) [] (h0 ++ [.inr (8, [.null, .null, .null, .null, .null, .null, .null, .null, .null, .int 0])]) (.inl none) (h0 ++ pu_search h0.length p1 p2) := by
  refine am_R.one rfl ?_
  refine am_R.obj rfl ?_
  refine am_R.one rfl ?_
  refine am_R.one rfl ?_
  refine am_R.anewa (t := 5) (N := 128) ⟨rfl, rfl, 3, rfl⟩ rfl (Or.inr rfl) (by decide) (by decide) (by decide) ?_
  rw [pu_push h0, pu_len h0 _ _ (n := 0) rfl]
  refine am_R.putf (ci := 8) (k := 2) (md := 1) ⟨rfl, rfl, 3, rfl⟩ rfl (pu_at h0 _ _) (Nat.le_of_ble_eq_true rfl) (Or.inr ⟨rfl, rfl⟩) rfl rfl rfl (by decide) ?_
  rw [pu_set]
  refine am_R.one rfl ?_
  refine am_R.one rfl ?_
  refine am_R.one rfl ?_
  refine am_R.one rfl ?_
  refine am_R.calls (k := 2) (y := 14) (ix := 19) (ins := .invokespecial 19) ⟨rfl, rfl, 3, rfl⟩ rfl rfl rfl rfl (Nat.le_of_ble_eq_true rfl) (by decide) (pu_Row_init xs L (d + 0) _ 128 (by omega)) ?_
  rw [pu_len h0 _ _ (n := 1) (by simp only [List.length_append, List.length_cons, List.length_nil, pu_book_len, pu_row_len, pu_journal_len, pu_writer_len, pu_pool_len, pu_parser_len]), pu_app h0]
  refine am_R.putf (ci := 8) (k := 3) (md := 1) ⟨rfl, rfl, 3, rfl⟩ rfl (pu_at h0 _ _) (Nat.le_of_ble_eq_true rfl) (Or.inr ⟨rfl, rfl⟩) rfl rfl rfl (by decide) ?_
  rw [pu_set]
  refine am_R.one rfl ?_
  refine am_R.one rfl ?_
  refine am_R.newa (t := 2) (N := 128) ⟨rfl, rfl, 2, rfl⟩ rfl (by decide) (by decide) (by decide) ?_
  rw [pu_push h0, pu_len h0 _ _ (n := 263) (by simp only [List.length_append, List.length_cons, List.length_nil, pu_book_len, pu_row_len, pu_journal_len, pu_writer_len, pu_pool_len, pu_parser_len])]
  refine am_R.putf (ci := 8) (k := 4) (md := 1) ⟨rfl, rfl, 3, rfl⟩ rfl (pu_at h0 _ _) (Nat.le_of_ble_eq_true rfl) (Or.inr ⟨rfl, rfl⟩) rfl rfl rfl (by decide) ?_
  rw [pu_set]
  refine am_R.one rfl ?_
  refine am_R.one rfl ?_
  refine am_R.newa (t := 1) (N := 128) ⟨rfl, rfl, 2, rfl⟩ rfl (by decide) (by decide) (by decide) ?_
  rw [pu_push h0, pu_len h0 _ _ (n := 264) (by simp only [List.length_append, List.length_cons, List.length_nil, pu_book_len, pu_row_len, pu_journal_len, pu_writer_len, pu_pool_len, pu_parser_len])]
  refine am_R.putf (ci := 8) (k := 5) (md := 1) ⟨rfl, rfl, 3, rfl⟩ rfl (pu_at h0 _ _) (Nat.le_of_ble_eq_true rfl) (Or.inr ⟨rfl, rfl⟩) rfl rfl rfl (by decide) ?_
  rw [pu_set]
  refine am_R.one rfl ?_
  refine am_R.one rfl ?_
  refine am_R.newa (t := 1) (N := 128) ⟨rfl, rfl, 2, rfl⟩ rfl (by decide) (by decide) (by decide) ?_
  rw [pu_push h0, pu_len h0 _ _ (n := 265) (by simp only [List.length_append, List.length_cons, List.length_nil, pu_book_len, pu_row_len, pu_journal_len, pu_writer_len, pu_pool_len, pu_parser_len])]
  refine am_R.putf (ci := 8) (k := 6) (md := 1) ⟨rfl, rfl, 3, rfl⟩ rfl (pu_at h0 _ _) (Nat.le_of_ble_eq_true rfl) (Or.inr ⟨rfl, rfl⟩) rfl rfl rfl (by decide) ?_
  rw [pu_set]
  refine am_R.one rfl ?_
  refine am_R.one rfl ?_
  refine am_R.one rfl ?_
  refine am_R.calls (k := 8) (y := 2) (ix := 39) (ins := .invokespecial 39) ⟨rfl, rfl, 3, rfl⟩ rfl rfl rfl rfl (Nat.le_of_ble_eq_true rfl) (by decide) (pu_Num_init xs L (d + 1) _) ?_
  rw [pu_len h0 _ _ (n := 266) (by simp only [List.length_append, List.length_cons, List.length_nil, pu_book_len, pu_row_len, pu_journal_len, pu_writer_len, pu_pool_len, pu_parser_len]), pu_app h0]
  refine am_R.putf (ci := 8) (k := 7) (md := 1) ⟨rfl, rfl, 3, rfl⟩ rfl (pu_at h0 _ _) (Nat.le_of_ble_eq_true rfl) (Or.inr ⟨rfl, rfl⟩) rfl rfl rfl (by decide) ?_
  rw [pu_set]
  refine am_R.one rfl ?_
  refine am_R.one rfl ?_
  refine am_R.one rfl ?_
  refine am_R.one rfl ?_
  refine am_R.calls (k := 2) (y := 13) (ix := 46) (ins := .invokespecial 46) ⟨rfl, rfl, 3, rfl⟩ rfl rfl rfl rfl (Nat.le_of_ble_eq_true rfl) (by decide) (pu_Book_init xs L (d + 0) _ 0 (by omega)) ?_
  rw [pu_len h0 _ _ (n := 268) (by simp only [List.length_append, List.length_cons, List.length_nil, pu_book_len, pu_row_len, pu_journal_len, pu_writer_len, pu_pool_len, pu_parser_len]), pu_app h0]
  refine am_R.putf (ci := 8) (k := 8) (md := 0) ⟨rfl, rfl, 3, rfl⟩ rfl (pu_at h0 _ _) (Nat.le_of_ble_eq_true rfl) (Or.inl rfl) rfl rfl rfl (by decide) ?_
  rw [pu_set]
  refine am_R.one rfl ?_
  refine am_R.one rfl ?_
  refine am_R.putf (ci := 8) (k := 0) (md := 1) ⟨rfl, rfl, 3, rfl⟩ rfl (pu_at h0 _ _) (Nat.le_of_ble_eq_true rfl) (Or.inr ⟨rfl, rfl⟩) rfl rfl rfl (by decide) ?_
  rw [pu_set]
  refine am_R.one rfl ?_
  refine am_R.one rfl ?_
  refine am_R.putf (ci := 8) (k := 1) (md := 1) ⟨rfl, rfl, 3, rfl⟩ rfl (pu_at h0 _ _) (Nat.le_of_ble_eq_true rfl) (Or.inr ⟨rfl, rfl⟩) rfl rfl rfl (by decide) ?_
  rw [pu_set]
  exact am_R.fin rfl

theorem pu_state_len (l np : Nat) : (pu_state l np).length = 265 + 2 * np := by
  unfold pu_state
  simp only [List.length_append, List.length_cons, List.length_nil, pu_book_len]
  omega
theorem pu_reader_len (l : Nat) (f : Nat → Int64) : (pu_reader l f).length = 5 := rfl
set_option maxRecDepth 20000 in
set_option maxHeartbeats 8000000 in
theorem pu_Reader_init (xs : Nat → Int32) (L d : Nat) (h0 : am_H) : am_R (pu_G xs L) (d + 5) 1 0 (lv_args 0 [.ref h0.length]) [] (h0 ++ [.inr (6, [.null, .null, .int 0, .int 0, .int 0, .int 0, .long 0, .null, .int 0, .int 0])]) (.inl none) (h0 ++ pu_reader h0.length pu_words) := by
  refine am_R.one rfl ?_
  refine am_R.obj rfl ?_
  refine am_R.one rfl ?_
  refine am_R.one rfl ?_
  refine am_R.newa (t := 2) (N := 34) ⟨rfl, rfl, 2, rfl⟩ rfl (by decide) (by decide) (by decide) ?_
  rw [pu_push h0, pu_len h0 _ _ (n := 0) rfl]
  refine am_R.putf (ci := 6) (k := 0) (md := 1) ⟨rfl, rfl, 3, rfl⟩ rfl (pu_at h0 _ _) (Nat.le_of_ble_eq_true rfl) (Or.inr ⟨rfl, rfl⟩) rfl rfl rfl (by decide) ?_
  rw [pu_set]
  refine am_R.one rfl ?_
  refine am_R.one rfl ?_
  refine am_R.newa (t := 0) (N := 0) ⟨rfl, rfl, 2, rfl⟩ rfl (by decide) (by decide) (by decide) ?_
  rw [pu_push h0, pu_len h0 _ _ (n := 1) (by simp only [List.length_append, List.length_cons, List.length_nil, pu_book_len, pu_row_len, pu_journal_len, pu_writer_len, pu_pool_len, pu_parser_len, pu_state_len, pu_search_len, pu_reader_len])]
  refine am_R.putf (ci := 6) (k := 1) (md := 0) ⟨rfl, rfl, 3, rfl⟩ rfl (pu_at h0 _ _) (Nat.le_of_ble_eq_true rfl) (Or.inl rfl) rfl rfl rfl (by decide) ?_
  rw [pu_set]
  refine am_R.one rfl ?_
  refine am_R.one rfl ?_
  refine am_R.one rfl ?_
  refine am_R.calls (k := 8) (y := 2) (ix := 21) (ins := .invokespecial 21) ⟨rfl, rfl, 3, rfl⟩ rfl rfl rfl rfl (Nat.le_of_ble_eq_true rfl) (by decide) (pu_Num_init xs L (d + 4) _) ?_
  rw [pu_len h0 _ _ (n := 2) (by simp only [List.length_append, List.length_cons, List.length_nil, pu_book_len, pu_row_len, pu_journal_len, pu_writer_len, pu_pool_len, pu_parser_len, pu_state_len, pu_search_len, pu_reader_len]), pu_app h0]
  refine am_R.putf (ci := 6) (k := 7) (md := 1) ⟨rfl, rfl, 3, rfl⟩ rfl (pu_at h0 _ _) (Nat.le_of_ble_eq_true rfl) (Or.inr ⟨rfl, rfl⟩) rfl rfl rfl (by decide) ?_
  rw [pu_set]
  refine am_R.one rfl ?_
  refine am_R.one rfl ?_
  refine am_R.putf (ci := 6) (k := 8) (md := 0) ⟨rfl, rfl, 3, rfl⟩ rfl (pu_at h0 _ _) (Nat.le_of_ble_eq_true rfl) (Or.inl rfl) rfl rfl rfl (by decide) ?_
  rw [pu_set]
  refine am_R.one rfl ?_
  refine am_R.one rfl ?_
  refine am_R.putf (ci := 6) (k := 9) (md := 0) ⟨rfl, rfl, 3, rfl⟩ rfl (pu_at h0 _ _) (Nat.le_of_ble_eq_true rfl) (Or.inl rfl) rfl rfl rfl (by decide) ?_
  rw [pu_set]
  refine am_R.one rfl ?_
  refine am_R.one rfl ?_
  refine am_R.one rfl ?_
  refine am_R.one rfl ?_
  exact am_R.lv [(0, .ref h0.length), (1, .int (nI (pu_rw 0))), (2, .int (nI 0))] (am_sub.of (by repeat' (first | exact trivial | rfl | refine ⟨?_, ?_⟩))) (pu_Reader_loop xs L d h0 158 0 (by omega))
def pu_machR (l : Nat) : am_H := ((((((([] ++ [.inl (2, 72, .inr (.inl (fun _ => 0)))]) ++ [pu_num (l + 3 + 1), pu_limb]) ++ pu_state (l + 5) 0) ++ pu_book (l + 270) 0 0) ++ pu_book (l + 276) 60 60) ++ pu_row (l + 402) 60 60) ++ pu_row (l + 528) 60 60)
theorem pu_machR_len (l : Nat) : (pu_machR l).length = 652 := by
  unfold pu_machR
  simp only [List.length_append, List.length_cons, List.length_nil, pu_book_len, pu_row_len, pu_journal_len, pu_writer_len, pu_pool_len, pu_parser_len, pu_state_len, pu_search_len, pu_reader_len]
def pu_machB (l p1 : Nat) : va_E := .inr (2, [.ref p1, .ref (l + 1), .ref (l + 2), .ref (l + 3), .ref (l + 5), .ref (l + 270), .int 0, .ref (l + 276), .ref (l + 402), .ref (l + 528), .long 0, .long 0, .int 0, .int 0])
/-- a Machine, k of its NUMBERS made -/
def pu_mach (l p1 k : Nat) : am_H := pu_machB l p1 :: .inl (4, 104, .inr (.inr (.inr (.inr (fun j => if j < k then some (l + 654 + 2 * j) else none))))) :: (pu_machR l ++ pu_nums (l + 654) k)
theorem pu_mach_len (l p1 k : Nat) : (pu_mach l p1 k).length = 654 + 2 * k := by
  unfold pu_mach
  simp only [List.length_cons, List.length_append, pu_machR_len, pu_nums_len]
  omega
set_option maxRecDepth 20000 in
set_option maxHeartbeats 8000000 in
theorem pu_Mach_loop (xs : Nat → Int32) (L d : Nat) (h0 : am_H) (p1 : Nat) : ∀ (m k : Nat), k + m = 104 → am_R (pu_G xs L) (d + 1) 16 102 [(2, .int (nI k)), (0, .ref h0.length), (1, .ref p1)] [] (h0 ++ pu_mach h0.length p1 k) (.inl none) (h0 ++ pu_mach h0.length p1 104) := by
  intro m
  induction m with
  | zero =>
    intro k hk
    have hk : k = 104 := by omega
    subst hk
    refine am_R.one rfl ?_
    refine am_R.one rfl ?_
    refine am_R.getf (ci := 2) (k := 1) (md := 1) ⟨rfl, rfl, 3, rfl⟩ rfl (pu_at h0 _ _) rfl (by decide) ?_
    refine am_R.alen (t := 4) (n := 104) ⟨rfl, rfl, 1, rfl⟩ (pu_at1 h0 _ _ _) (by decide) ?_
    refine am_R.one rfl ?_
    rw [if_pos (by simp only [am_tst, decide_eq_true_eq]; exact nI_le (a := 104) (b := 104) (Nat.le_refl _) (by omega))]
    exact am_R.fin rfl
  | succ m ih =>
    intro k hk
    have hk9 : k < 104 := by omega
    refine am_R.one rfl ?_
    refine am_R.one rfl ?_
    refine am_R.getf (ci := 2) (k := 1) (md := 1) ⟨rfl, rfl, 3, rfl⟩ rfl (pu_at h0 _ _) rfl (by decide) ?_
    refine am_R.alen (t := 4) (n := 104) ⟨rfl, rfl, 1, rfl⟩ (pu_at1 h0 _ _ _) (by decide) ?_
    refine am_R.one rfl ?_
    rw [if_neg (by simp only [am_tst, decide_eq_true_eq]; exact nI_ge (a := k) (b := 104) hk9 (by omega))]
    refine am_R.one rfl ?_
    refine am_R.getf (ci := 2) (k := 1) (md := 1) ⟨rfl, rfl, 3, rfl⟩ rfl (pu_at h0 _ _) rfl (by decide) ?_
    refine am_R.one rfl ?_
    refine am_R.one rfl ?_
    refine am_R.one rfl ?_
    have hl : (h0 ++ pu_mach h0.length p1 k).length = h0.length + 654 + 2 * k := by rw [List.length_append, pu_mach_len]; omega
    refine am_R.calls (k := 8) (y := 2) (ix := 21) (ins := .invokespecial 21) ⟨rfl, rfl, 3, rfl⟩ rfl rfl rfl rfl (Nat.le_refl 1) (by decide) (pu_Num_init xs L d (h0 ++ pu_mach h0.length p1 k)) ?_
    rw [hl]
    have hj : ¬ (nI k < 0 ∨ 104 ≤ (nI k).toNatClampNeg) := nI_in hk9 (by omega)
    refine am_R.aast (ci := 3) (t := 4) (n := 104) (f := fun j => if j < k then some (h0.length + 654 + 2 * j) else none) (vs := [.int 0, .int 0, .ref (h0.length + 654 + 2 * k + 1)]) ⟨rfl, rfl, 1, rfl⟩ ?_ ?_ rfl hj ?_
    · rw [List.append_assoc]; exact pu_at1 h0 _ _ _
    · rw [List.getElem?_append_right (by omega), hl, Nat.sub_self]
      rfl
    · have e2 : (h0 ++ pu_mach h0.length p1 k ++ [pu_num (h0.length + 654 + 2 * k + 1), pu_limb]).set (h0.length + 1) (.inl (4, 104, .inr (.inr (.inr (.inr (va_up (fun j => if j < k then some (h0.length + 654 + 2 * j) else none) k (some (h0.length + 654 + 2 * k)))))))) = h0 ++ pu_mach h0.length p1 (k + 1) := by
        rw [List.append_assoc]
        unfold pu_mach
        rw [List.cons_append, List.cons_append, pu_set1, pu_nums, List.append_assoc]
        congr 10
        funext j
        simp only [va_up]
        by_cases hj : j = k
        · subst hj; simp
        · rw [if_neg hj]
          by_cases h1 : j < k
          · rw [if_pos h1, if_pos (by omega)]
          · rw [if_neg h1, if_neg (by omega)]
      rw [nI_clamp (by omega), e2]
      refine am_R.one rfl ?_
      refine am_R.one rfl ?_
      have e1 : nI k + Int32.ofInt 1 = nI (k + 1) := nI_1 k
      have := ih (k + 1) (by omega)
      rw [← e1] at this
      exact this
set_option maxRecDepth 20000 in
set_option maxHeartbeats 8000000 in
theorem pu_Mach_init (xs : Nat → Int32) (L d : Nat) (h0 : am_H) (p1 : Nat) : am_R (pu_G xs L) (d + 3) 16 0 (lv_args 0 [.ref h0.length, .ref p1]) [] (h0 ++ [.inr (2, [.null, .null, .null, .null, .null, .null, .int 0, .null, .null, .null, .long 0, .long 0, .int 0, .int 0])]) (.inl none) (h0 ++ pu_mach h0.length p1 104) := by
  refine am_R.one rfl ?_
  refine am_R.obj rfl ?_
  refine am_R.one rfl ?_
  refine am_R.one rfl ?_
  refine am_R.anewa (t := 4) (N := 104) ⟨rfl, rfl, 3, rfl⟩ rfl (Or.inl rfl) (by decide) (by decide) (by decide) ?_
  rw [pu_push h0, pu_len h0 _ _ (n := 0) rfl]
  refine am_R.putf (ci := 2) (k := 1) (md := 1) ⟨rfl, rfl, 3, rfl⟩ rfl (pu_at h0 _ _) (Nat.le_of_ble_eq_true rfl) (Or.inr ⟨rfl, rfl⟩) rfl rfl rfl (by decide) ?_
  rw [pu_set]
  refine am_R.one rfl ?_
  refine am_R.one rfl ?_
  refine am_R.newa (t := 2) (N := 72) ⟨rfl, rfl, 2, rfl⟩ rfl (by decide) (by decide) (by decide) ?_
  rw [pu_push h0, pu_len h0 _ _ (n := 1) (by simp only [List.length_append, List.length_cons, List.length_nil, pu_book_len, pu_row_len, pu_journal_len, pu_writer_len, pu_pool_len, pu_parser_len, pu_state_len, pu_search_len, pu_reader_len])]
  refine am_R.putf (ci := 2) (k := 2) (md := 1) ⟨rfl, rfl, 3, rfl⟩ rfl (pu_at h0 _ _) (Nat.le_of_ble_eq_true rfl) (Or.inr ⟨rfl, rfl⟩) rfl rfl rfl (by decide) ?_
  rw [pu_set]
  refine am_R.one rfl ?_
  refine am_R.one rfl ?_
  refine am_R.one rfl ?_
  refine am_R.calls (k := 8) (y := 2) (ix := 21) (ins := .invokespecial 21) ⟨rfl, rfl, 3, rfl⟩ rfl rfl rfl rfl (Nat.le_of_ble_eq_true rfl) (by decide) (pu_Num_init xs L (d + 2) _) ?_
  rw [pu_len h0 _ _ (n := 2) (by simp only [List.length_append, List.length_cons, List.length_nil, pu_book_len, pu_row_len, pu_journal_len, pu_writer_len, pu_pool_len, pu_parser_len, pu_state_len, pu_search_len, pu_reader_len]), pu_app h0]
  refine am_R.putf (ci := 2) (k := 3) (md := 1) ⟨rfl, rfl, 3, rfl⟩ rfl (pu_at h0 _ _) (Nat.le_of_ble_eq_true rfl) (Or.inr ⟨rfl, rfl⟩) rfl rfl rfl (by decide) ?_
  rw [pu_set]
  refine am_R.one rfl ?_
  refine am_R.one rfl ?_
  refine am_R.one rfl ?_
  refine am_R.one rfl ?_
  refine am_R.calls (k := 2) (y := 15) (ix := 28) (ins := .invokespecial 28) ⟨rfl, rfl, 3, rfl⟩ rfl rfl rfl rfl (Nat.le_of_ble_eq_true rfl) (by decide) (pu_State_init xs L (d + 0) _ 0 (by omega)) ?_
  rw [pu_len h0 _ _ (n := 4) (by simp only [List.length_append, List.length_cons, List.length_nil, pu_book_len, pu_row_len, pu_journal_len, pu_writer_len, pu_pool_len, pu_parser_len, pu_state_len, pu_search_len, pu_reader_len]), pu_app h0]
  refine am_R.putf (ci := 2) (k := 4) (md := 0) ⟨rfl, rfl, 3, rfl⟩ rfl (pu_at h0 _ _) (Nat.le_of_ble_eq_true rfl) (Or.inl rfl) rfl rfl rfl (by decide) ?_
  rw [pu_set]
  refine am_R.one rfl ?_
  refine am_R.one rfl ?_
  refine am_R.one rfl ?_
  refine am_R.one rfl ?_
  refine am_R.calls (k := 2) (y := 13) (ix := 37) (ins := .invokespecial 37) ⟨rfl, rfl, 3, rfl⟩ rfl rfl rfl rfl (Nat.le_of_ble_eq_true rfl) (by decide) (pu_Book_init xs L (d + 1) _ 0 (by omega)) ?_
  rw [pu_len h0 _ _ (n := 269) (by simp only [List.length_append, List.length_cons, List.length_nil, pu_book_len, pu_row_len, pu_journal_len, pu_writer_len, pu_pool_len, pu_parser_len, pu_state_len, pu_search_len, pu_reader_len]), pu_app h0]
  refine am_R.putf (ci := 2) (k := 5) (md := 0) ⟨rfl, rfl, 3, rfl⟩ rfl (pu_at h0 _ _) (Nat.le_of_ble_eq_true rfl) (Or.inl rfl) rfl rfl rfl (by decide) ?_
  rw [pu_set]
  refine am_R.one rfl ?_
  refine am_R.one rfl ?_
  refine am_R.one rfl ?_
  refine am_R.one rfl ?_
  refine am_R.calls (k := 2) (y := 13) (ix := 37) (ins := .invokespecial 37) ⟨rfl, rfl, 3, rfl⟩ rfl rfl rfl rfl (Nat.le_of_ble_eq_true rfl) (by decide) (pu_Book_init xs L (d + 1) _ 60 (by omega)) ?_
  rw [pu_len h0 _ _ (n := 275) (by simp only [List.length_append, List.length_cons, List.length_nil, pu_book_len, pu_row_len, pu_journal_len, pu_writer_len, pu_pool_len, pu_parser_len, pu_state_len, pu_search_len, pu_reader_len]), pu_app h0]
  refine am_R.putf (ci := 2) (k := 7) (md := 1) ⟨rfl, rfl, 3, rfl⟩ rfl (pu_at h0 _ _) (Nat.le_of_ble_eq_true rfl) (Or.inr ⟨rfl, rfl⟩) rfl rfl rfl (by decide) ?_
  rw [pu_set]
  refine am_R.one rfl ?_
  refine am_R.one rfl ?_
  refine am_R.one rfl ?_
  refine am_R.one rfl ?_
  refine am_R.calls (k := 2) (y := 14) (ix := 47) (ins := .invokespecial 47) ⟨rfl, rfl, 3, rfl⟩ rfl rfl rfl rfl (Nat.le_of_ble_eq_true rfl) (by decide) (pu_Row_init xs L (d + 1) _ 60 (by omega)) ?_
  rw [pu_len h0 _ _ (n := 401) (by simp only [List.length_append, List.length_cons, List.length_nil, pu_book_len, pu_row_len, pu_journal_len, pu_writer_len, pu_pool_len, pu_parser_len, pu_state_len, pu_search_len, pu_reader_len]), pu_app h0]
  refine am_R.putf (ci := 2) (k := 8) (md := 1) ⟨rfl, rfl, 3, rfl⟩ rfl (pu_at h0 _ _) (Nat.le_of_ble_eq_true rfl) (Or.inr ⟨rfl, rfl⟩) rfl rfl rfl (by decide) ?_
  rw [pu_set]
  refine am_R.one rfl ?_
  refine am_R.one rfl ?_
  refine am_R.one rfl ?_
  refine am_R.one rfl ?_
  refine am_R.calls (k := 2) (y := 14) (ix := 47) (ins := .invokespecial 47) ⟨rfl, rfl, 3, rfl⟩ rfl rfl rfl rfl (Nat.le_of_ble_eq_true rfl) (by decide) (pu_Row_init xs L (d + 1) _ 60 (by omega)) ?_
  rw [pu_len h0 _ _ (n := 527) (by simp only [List.length_append, List.length_cons, List.length_nil, pu_book_len, pu_row_len, pu_journal_len, pu_writer_len, pu_pool_len, pu_parser_len, pu_state_len, pu_search_len, pu_reader_len]), pu_app h0]
  refine am_R.putf (ci := 2) (k := 9) (md := 1) ⟨rfl, rfl, 3, rfl⟩ rfl (pu_at h0 _ _) (Nat.le_of_ble_eq_true rfl) (Or.inr ⟨rfl, rfl⟩) rfl rfl rfl (by decide) ?_
  rw [pu_set]
  refine am_R.one rfl ?_
  refine am_R.one rfl ?_
  refine am_R.putf (ci := 2) (k := 0) (md := 1) ⟨rfl, rfl, 3, rfl⟩ rfl (pu_at h0 _ _) (Nat.le_of_ble_eq_true rfl) (Or.inr ⟨rfl, rfl⟩) rfl rfl rfl (by decide) ?_
  rw [pu_set]
  refine am_R.one rfl ?_
  refine am_R.one rfl ?_
  have h9 := pu_Mach_loop xs L (d + 2) h0 p1 104 0 (by omega)
  have e9 : h0 ++ pu_mach h0.length p1 0 = h0 ++ pu_machB h0.length p1 :: .inl (4, 104, .inr (.inr (.inr (.inr (fun _ => none))))) :: pu_machR h0.length := by
    unfold pu_mach
    rw [pu_nums, List.append_nil]
    simp only [Nat.not_lt_zero, if_false]
  rw [e9] at h9
  exact h9

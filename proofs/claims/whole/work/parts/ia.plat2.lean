set_option maxRecDepth 20000 in
set_option maxHeartbeats 8000000 in
theorem pu_Plat_init (xs : Nat → Int32) (L d : Nat) (h0 : am_H) : am_R (pu_G xs L) (d + 10) 0 0 (lv_args 0 [.ref h0.length]) [] (h0 ++ [.inr (11, [.null, .int 0, .null, .null, .null, .null, .null, .null, .null, .null, .null, .null, .null, .null, .null, .null, .null, .null, .null, .int 0])]) (.inl none) (h0 ++ pu_plat h0.length 16) := by
  refine am_R.one rfl ?_
  refine am_R.obj rfl ?_
  refine am_R.one rfl ?_
  refine am_R.one rfl ?_
  refine am_R.newa (t := 0) (N := 16384) ⟨rfl, rfl, 2, rfl⟩ rfl (by decide) (by decide) (by decide) ?_
  rw [pu_push h0, pu_len h0 _ _ (n := 0) rfl]
  refine am_R.putf (ci := 11) (k := 0) (md := 1) ⟨rfl, rfl, 3, rfl⟩ rfl (pu_at h0 _ _) (Nat.le_of_ble_eq_true rfl) (Or.inr ⟨rfl, rfl⟩) rfl rfl rfl (by decide) ?_
  rw [pu_set]
  refine am_R.one rfl ?_
  refine am_R.one rfl ?_
  refine am_R.one rfl ?_
  refine am_R.calls (k := 2) (y := 1) (ix := 15) (ins := .invokespecial 15) ⟨rfl, rfl, 3, rfl⟩ rfl rfl rfl rfl (Nat.le_of_ble_eq_true rfl) (by decide) (pu_Reader_init xs L (d + 4) _) ?_
  rw [pu_len h0 _ _ (n := 1) (by simp only [List.length_append, List.length_cons, List.length_nil, pu_book_len, pu_row_len, pu_journal_len, pu_writer_len, pu_pool_len, pu_parser_len, pu_state_len, pu_search_len, pu_reader_len, pu_mach_len]), pu_app h0]
  refine am_R.putf (ci := 11) (k := 2) (md := 1) ⟨rfl, rfl, 3, rfl⟩ rfl (pu_at h0 _ _) (Nat.le_of_ble_eq_true rfl) (Or.inr ⟨rfl, rfl⟩) rfl rfl rfl (by decide) ?_
  rw [pu_set]
  refine am_R.one rfl ?_
  refine am_R.one rfl ?_
  refine am_R.one rfl ?_
  refine am_R.one rfl ?_
  refine am_R.getf (ci := 11) (k := 2) (md := 1) ⟨rfl, rfl, 3, rfl⟩ rfl (pu_atp h0 _ _ _) rfl (by decide) ?_
  refine am_R.getf (ci := 6) (k := 0) (md := 2) ⟨rfl, rfl, 3, rfl⟩ rfl (pu_at2 h0 _ _ _ _ _) rfl (by decide) ?_
  refine am_R.calls (k := 2) (y := 10) (ix := 26) (ins := .invokespecial 26) ⟨rfl, rfl, 3, rfl⟩ rfl rfl rfl rfl (Nat.le_of_ble_eq_true rfl) (by decide) (pu_Writer_init xs L (d + 8) _ (h0.length + 3)) ?_
  rw [pu_len h0 _ _ (n := 6) (by simp only [List.length_append, List.length_cons, List.length_nil, pu_book_len, pu_row_len, pu_journal_len, pu_writer_len, pu_pool_len, pu_parser_len, pu_state_len, pu_search_len, pu_reader_len, pu_mach_len]), pu_app h0]
  refine am_R.putf (ci := 11) (k := 3) (md := 1) ⟨rfl, rfl, 3, rfl⟩ rfl (pu_at h0 _ _) (Nat.le_of_ble_eq_true rfl) (Or.inr ⟨rfl, rfl⟩) rfl rfl rfl (by decide) ?_
  rw [pu_set]
  refine am_R.one rfl ?_
  refine am_R.one rfl ?_
  refine am_R.one rfl ?_
  refine am_R.calls (k := 8) (y := 11) (ix := 35) (ins := .invokespecial 35) ⟨rfl, rfl, 3, rfl⟩ rfl rfl rfl rfl (Nat.le_of_ble_eq_true rfl) (by decide) (pu_Pool_init xs L (d + 8) _) ?_
  rw [pu_len h0 _ _ (n := 12) (by simp only [List.length_append, List.length_cons, List.length_nil, pu_book_len, pu_row_len, pu_journal_len, pu_writer_len, pu_pool_len, pu_parser_len, pu_state_len, pu_search_len, pu_reader_len, pu_mach_len]), pu_app h0]
  refine am_R.putf (ci := 11) (k := 4) (md := 1) ⟨rfl, rfl, 3, rfl⟩ rfl (pu_at h0 _ _) (Nat.le_of_ble_eq_true rfl) (Or.inr ⟨rfl, rfl⟩) rfl rfl rfl (by decide) ?_
  rw [pu_set]
  refine am_R.one rfl ?_
  refine am_R.one rfl ?_
  refine am_R.one rfl ?_
  refine am_R.one rfl ?_
  refine am_R.getf (ci := 11) (k := 4) (md := 1) ⟨rfl, rfl, 3, rfl⟩ rfl (pu_atp h0 _ _ _) rfl (by decide) ?_
  refine am_R.one rfl ?_
  refine am_R.getf (ci := 11) (k := 2) (md := 1) ⟨rfl, rfl, 3, rfl⟩ rfl (pu_atp h0 _ _ _) rfl (by decide) ?_
  refine am_R.calls (k := 2) (y := 12) (ix := 42) (ins := .invokespecial 42) ⟨rfl, rfl, 3, rfl⟩ rfl rfl rfl rfl (Nat.le_of_ble_eq_true rfl) (by decide) (pu_Parser_init xs L (d + 8) _ (h0.length + 13) (h0.length + 2)) ?_
  rw [pu_len h0 _ _ (n := 22) (by simp only [List.length_append, List.length_cons, List.length_nil, pu_book_len, pu_row_len, pu_journal_len, pu_writer_len, pu_pool_len, pu_parser_len, pu_state_len, pu_search_len, pu_reader_len, pu_mach_len]), pu_app h0]
  refine am_R.putf (ci := 11) (k := 5) (md := 1) ⟨rfl, rfl, 3, rfl⟩ rfl (pu_at h0 _ _) (Nat.le_of_ble_eq_true rfl) (Or.inr ⟨rfl, rfl⟩) rfl rfl rfl (by decide) ?_
  rw [pu_set]
  refine am_R.one rfl ?_
  refine am_R.one rfl ?_
  refine am_R.newa (t := 1) (N := 16) ⟨rfl, rfl, 2, rfl⟩ rfl (by decide) (by decide) (by decide) ?_
  rw [pu_push h0, pu_len h0 _ _ (n := 27) (by simp only [List.length_append, List.length_cons, List.length_nil, pu_book_len, pu_row_len, pu_journal_len, pu_writer_len, pu_pool_len, pu_parser_len, pu_state_len, pu_search_len, pu_reader_len, pu_mach_len])]
  refine am_R.putf (ci := 11) (k := 6) (md := 1) ⟨rfl, rfl, 3, rfl⟩ rfl (pu_at h0 _ _) (Nat.le_of_ble_eq_true rfl) (Or.inr ⟨rfl, rfl⟩) rfl rfl rfl (by decide) ?_
  rw [pu_set]
  refine am_R.one rfl ?_
  refine am_R.one rfl ?_
  refine am_R.anewa (t := 5) (N := 16) ⟨rfl, rfl, 3, rfl⟩ rfl (Or.inr rfl) (by decide) (by decide) (by decide) ?_
  rw [pu_push h0, pu_len h0 _ _ (n := 28) (by simp only [List.length_append, List.length_cons, List.length_nil, pu_book_len, pu_row_len, pu_journal_len, pu_writer_len, pu_pool_len, pu_parser_len, pu_state_len, pu_search_len, pu_reader_len, pu_mach_len])]
  refine am_R.putf (ci := 11) (k := 7) (md := 1) ⟨rfl, rfl, 3, rfl⟩ rfl (pu_at h0 _ _) (Nat.le_of_ble_eq_true rfl) (Or.inr ⟨rfl, rfl⟩) rfl rfl rfl (by decide) ?_
  rw [pu_set]
  refine am_R.one rfl ?_
  refine am_R.one rfl ?_
  refine am_R.one rfl ?_
  refine am_R.one rfl ?_
  refine am_R.calls (k := 2) (y := 13) (ix := 61) (ins := .invokespecial 61) ⟨rfl, rfl, 3, rfl⟩ rfl rfl rfl rfl (Nat.le_of_ble_eq_true rfl) (by decide) (pu_Book_init xs L (d + 8) _ 20 (by omega)) ?_
  rw [pu_len h0 _ _ (n := 29) (by simp only [List.length_append, List.length_cons, List.length_nil, pu_book_len, pu_row_len, pu_journal_len, pu_writer_len, pu_pool_len, pu_parser_len, pu_state_len, pu_search_len, pu_reader_len, pu_mach_len]), pu_app h0]
  refine am_R.putf (ci := 11) (k := 8) (md := 1) ⟨rfl, rfl, 3, rfl⟩ rfl (pu_at h0 _ _) (Nat.le_of_ble_eq_true rfl) (Or.inr ⟨rfl, rfl⟩) rfl rfl rfl (by decide) ?_
  rw [pu_set]
  refine am_R.one rfl ?_
  refine am_R.one rfl ?_
  refine am_R.one rfl ?_
  refine am_R.one rfl ?_
  refine am_R.calls (k := 2) (y := 13) (ix := 61) (ins := .invokespecial 61) ⟨rfl, rfl, 3, rfl⟩ rfl rfl rfl rfl (Nat.le_of_ble_eq_true rfl) (by decide) (pu_Book_init xs L (d + 8) _ 60 (by omega)) ?_
  rw [pu_len h0 _ _ (n := 75) (by simp only [List.length_append, List.length_cons, List.length_nil, pu_book_len, pu_row_len, pu_journal_len, pu_writer_len, pu_pool_len, pu_parser_len, pu_state_len, pu_search_len, pu_reader_len, pu_mach_len]), pu_app h0]
  refine am_R.putf (ci := 11) (k := 9) (md := 1) ⟨rfl, rfl, 3, rfl⟩ rfl (pu_at h0 _ _) (Nat.le_of_ble_eq_true rfl) (Or.inr ⟨rfl, rfl⟩) rfl rfl rfl (by decide) ?_
  rw [pu_set]
  refine am_R.one rfl ?_
  refine am_R.one rfl ?_
  refine am_R.one rfl ?_
  refine am_R.one rfl ?_
  refine am_R.calls (k := 2) (y := 13) (ix := 61) (ins := .invokespecial 61) ⟨rfl, rfl, 3, rfl⟩ rfl rfl rfl rfl (Nat.le_of_ble_eq_true rfl) (by decide) (pu_Book_init xs L (d + 8) _ 60 (by omega)) ?_
  rw [pu_len h0 _ _ (n := 201) (by simp only [List.length_append, List.length_cons, List.length_nil, pu_book_len, pu_row_len, pu_journal_len, pu_writer_len, pu_pool_len, pu_parser_len, pu_state_len, pu_search_len, pu_reader_len, pu_mach_len]), pu_app h0]
  refine am_R.putf (ci := 11) (k := 10) (md := 1) ⟨rfl, rfl, 3, rfl⟩ rfl (pu_at h0 _ _) (Nat.le_of_ble_eq_true rfl) (Or.inr ⟨rfl, rfl⟩) rfl rfl rfl (by decide) ?_
  rw [pu_set]
  refine am_R.one rfl ?_
  refine am_R.one rfl ?_
  refine am_R.one rfl ?_
  refine am_R.one rfl ?_
  refine am_R.calls (k := 2) (y := 14) (ix := 76) (ins := .invokespecial 76) ⟨rfl, rfl, 3, rfl⟩ rfl rfl rfl rfl (Nat.le_of_ble_eq_true rfl) (by decide) (pu_Row_init xs L (d + 8) _ 40 (by omega)) ?_
  rw [pu_len h0 _ _ (n := 327) (by simp only [List.length_append, List.length_cons, List.length_nil, pu_book_len, pu_row_len, pu_journal_len, pu_writer_len, pu_pool_len, pu_parser_len, pu_state_len, pu_search_len, pu_reader_len, pu_mach_len]), pu_app h0]
  refine am_R.putf (ci := 11) (k := 11) (md := 1) ⟨rfl, rfl, 3, rfl⟩ rfl (pu_at h0 _ _) (Nat.le_of_ble_eq_true rfl) (Or.inr ⟨rfl, rfl⟩) rfl rfl rfl (by decide) ?_
  rw [pu_set]
  refine am_R.one rfl ?_
  refine am_R.one rfl ?_
  refine am_R.one rfl ?_
  refine am_R.one rfl ?_
  refine am_R.calls (k := 2) (y := 14) (ix := 76) (ins := .invokespecial 76) ⟨rfl, rfl, 3, rfl⟩ rfl rfl rfl rfl (Nat.le_of_ble_eq_true rfl) (by decide) (pu_Row_init xs L (d + 8) _ 60 (by omega)) ?_
  rw [pu_len h0 _ _ (n := 413) (by simp only [List.length_append, List.length_cons, List.length_nil, pu_book_len, pu_row_len, pu_journal_len, pu_writer_len, pu_pool_len, pu_parser_len, pu_state_len, pu_search_len, pu_reader_len, pu_mach_len]), pu_app h0]
  refine am_R.putf (ci := 11) (k := 12) (md := 1) ⟨rfl, rfl, 3, rfl⟩ rfl (pu_at h0 _ _) (Nat.le_of_ble_eq_true rfl) (Or.inr ⟨rfl, rfl⟩) rfl rfl rfl (by decide) ?_
  rw [pu_set]
  refine am_R.one rfl ?_
  refine am_R.one rfl ?_
  refine am_R.one rfl ?_
  refine am_R.one rfl ?_
  refine am_R.calls (k := 2) (y := 14) (ix := 76) (ins := .invokespecial 76) ⟨rfl, rfl, 3, rfl⟩ rfl rfl rfl rfl (Nat.le_of_ble_eq_true rfl) (by decide) (pu_Row_init xs L (d + 8) _ 60 (by omega)) ?_
  rw [pu_len h0 _ _ (n := 539) (by simp only [List.length_append, List.length_cons, List.length_nil, pu_book_len, pu_row_len, pu_journal_len, pu_writer_len, pu_pool_len, pu_parser_len, pu_state_len, pu_search_len, pu_reader_len, pu_mach_len]), pu_app h0]
  refine am_R.putf (ci := 11) (k := 13) (md := 1) ⟨rfl, rfl, 3, rfl⟩ rfl (pu_at h0 _ _) (Nat.le_of_ble_eq_true rfl) (Or.inr ⟨rfl, rfl⟩) rfl rfl rfl (by decide) ?_
  rw [pu_set]
  refine am_R.one rfl ?_
  refine am_R.one rfl ?_
  refine am_R.one rfl ?_
  refine am_R.one rfl ?_
  refine am_R.calls (k := 2) (y := 15) (ix := 87) (ins := .invokespecial 87) ⟨rfl, rfl, 3, rfl⟩ rfl rfl rfl rfl (Nat.le_of_ble_eq_true rfl) (by decide) (pu_State_init xs L (d + 7) _ 0 (by omega)) ?_
  rw [pu_len h0 _ _ (n := 665) (by simp only [List.length_append, List.length_cons, List.length_nil, pu_book_len, pu_row_len, pu_journal_len, pu_writer_len, pu_pool_len, pu_parser_len, pu_state_len, pu_search_len, pu_reader_len, pu_mach_len]), pu_app h0]
  refine am_R.putf (ci := 11) (k := 14) (md := 1) ⟨rfl, rfl, 3, rfl⟩ rfl (pu_at h0 _ _) (Nat.le_of_ble_eq_true rfl) (Or.inr ⟨rfl, rfl⟩) rfl rfl rfl (by decide) ?_
  rw [pu_set]
  refine am_R.one rfl ?_
  refine am_R.one rfl ?_
  refine am_R.one rfl ?_
  refine am_R.one rfl ?_
  refine am_R.getf (ci := 11) (k := 4) (md := 1) ⟨rfl, rfl, 3, rfl⟩ rfl (pu_atp h0 _ _ _) rfl (by decide) ?_
  refine am_R.calls (k := 2) (y := 16) (ix := 94) (ins := .invokespecial 94) ⟨rfl, rfl, 3, rfl⟩ rfl rfl rfl rfl (Nat.le_of_ble_eq_true rfl) (by decide) (pu_Mach_init xs L (d + 6) _ (h0.length + 13)) ?_
  rw [pu_len h0 _ _ (n := 930) (by simp only [List.length_append, List.length_cons, List.length_nil, pu_book_len, pu_row_len, pu_journal_len, pu_writer_len, pu_pool_len, pu_parser_len, pu_state_len, pu_search_len, pu_reader_len, pu_mach_len]), pu_app h0]
  refine am_R.putf (ci := 11) (k := 15) (md := 1) ⟨rfl, rfl, 3, rfl⟩ rfl (pu_at h0 _ _) (Nat.le_of_ble_eq_true rfl) (Or.inr ⟨rfl, rfl⟩) rfl rfl rfl (by decide) ?_
  rw [pu_set]
  refine am_R.one rfl ?_
  refine am_R.one rfl ?_
  refine am_R.one rfl ?_
  refine am_R.one rfl ?_
  refine am_R.getf (ci := 11) (k := 4) (md := 1) ⟨rfl, rfl, 3, rfl⟩ rfl (pu_atp h0 _ _ _) rfl (by decide) ?_
  refine am_R.one rfl ?_
  refine am_R.getf (ci := 11) (k := 15) (md := 1) ⟨rfl, rfl, 3, rfl⟩ rfl (pu_atp h0 _ _ _) rfl (by decide) ?_
  refine am_R.calls (k := 2) (y := 17) (ix := 103) (ins := .invokespecial 103) ⟨rfl, rfl, 3, rfl⟩ rfl rfl rfl rfl (Nat.le_of_ble_eq_true rfl) (by decide) (pu_Search_init xs L (d + 7) _ (h0.length + 13) (h0.length + 931)) ?_
  rw [pu_len h0 _ _ (n := 1792) (by simp only [List.length_append, List.length_cons, List.length_nil, pu_book_len, pu_row_len, pu_journal_len, pu_writer_len, pu_pool_len, pu_parser_len, pu_state_len, pu_search_len, pu_reader_len, pu_mach_len]), pu_app h0]
  refine am_R.putf (ci := 11) (k := 16) (md := 1) ⟨rfl, rfl, 3, rfl⟩ rfl (pu_at h0 _ _) (Nat.le_of_ble_eq_true rfl) (Or.inr ⟨rfl, rfl⟩) rfl rfl rfl (by decide) ?_
  rw [pu_set]
  refine am_R.one rfl ?_
  refine am_R.one rfl ?_
  refine am_R.one rfl ?_
  refine am_R.calls (k := 8) (y := 18) (ix := 112) (ins := .invokespecial 112) ⟨rfl, rfl, 3, rfl⟩ rfl rfl rfl rfl (Nat.le_of_ble_eq_true rfl) (by decide) (pu_Journal_init xs L (d + 8) _) ?_
  rw [pu_len h0 _ _ (n := 2067) (by simp only [List.length_append, List.length_cons, List.length_nil, pu_book_len, pu_row_len, pu_journal_len, pu_writer_len, pu_pool_len, pu_parser_len, pu_state_len, pu_search_len, pu_reader_len, pu_mach_len]), pu_app h0]
  refine am_R.putf (ci := 11) (k := 17) (md := 1) ⟨rfl, rfl, 3, rfl⟩ rfl (pu_at h0 _ _) (Nat.le_of_ble_eq_true rfl) (Or.inr ⟨rfl, rfl⟩) rfl rfl rfl (by decide) ?_
  rw [pu_set]
  refine am_R.one rfl ?_
  refine am_R.one rfl ?_
  refine am_R.one rfl ?_
  refine am_R.calls (k := 8) (y := 2) (ix := 119) (ins := .invokespecial 119) ⟨rfl, rfl, 3, rfl⟩ rfl rfl rfl rfl (Nat.le_of_ble_eq_true rfl) (by decide) (pu_Num_init xs L (d + 9) _) ?_
  rw [pu_len h0 _ _ (n := 2069) (by simp only [List.length_append, List.length_cons, List.length_nil, pu_book_len, pu_row_len, pu_journal_len, pu_writer_len, pu_pool_len, pu_parser_len, pu_state_len, pu_search_len, pu_reader_len, pu_mach_len]), pu_app h0]
  refine am_R.putf (ci := 11) (k := 18) (md := 1) ⟨rfl, rfl, 3, rfl⟩ rfl (pu_at h0 _ _) (Nat.le_of_ble_eq_true rfl) (Or.inr ⟨rfl, rfl⟩) rfl rfl rfl (by decide) ?_
  rw [pu_set]
  refine am_R.one rfl ?_
  refine am_R.one rfl ?_
  refine am_R.heq ?_ (am_R.lv [(1, .int (nI 0)), (0, .ref h0.length)] (am_sub.of (by repeat' (first | exact trivial | rfl | refine ⟨?_, ?_⟩))) (pu_Plat_loop xs L (d + 7) h0 16 0 (by omega)))
  refine congrArg (fun t => h0 ++ t) ?_
  refine congr (congrArg List.cons (rfl : _ = pu_platB h0.length)) ?_
  unfold pu_roots pu_insts pu_platA pu_platR
  simp only [pu_states, Nat.not_lt_zero, if_false, List.append_assoc, List.cons_append, List.nil_append, List.append_nil, Nat.reduceEqDiff, ite_false, ite_true, Nat.reduceAdd]

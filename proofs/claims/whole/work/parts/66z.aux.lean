theorem im_u9 {u : UInt32} (h : Nat.blt u.toNat 30 = true) : Nat.blt u.toNat 900 = true := by
  have := Nat.le_of_ble_eq_true h
  exact Nat.ble_eq_true_of_le (by omega)
set_option maxRecDepth 20000 in
theorem sf_933 {e : im_E} : (im_sh0 ++ e)[933]? = some (2, 72, []) := im_sh_of (pu_L (pu_L (pu_Rr (n := 0) (i := 933) rfl rfl (pu_Cc (i := 932) rfl (pu_Rr (n := 27) (i := 905) (pu_platA_len 0) rfl (pu_Cc (i := 904) rfl (pu_Cc (i := 903) rfl (pu_L (pu_L (pu_L (pu_L (pu_Rr (n := 901) (i := 2) (by simp only [List.length_append, List.length_cons, List.length_nil, pu_book_len, pu_row_len, pu_journal_len, pu_writer_len, pu_pool_len, pu_parser_len, pu_state_len, pu_search_len, pu_reader_len, pu_mach_len]) rfl rfl)))))))))))) rfl

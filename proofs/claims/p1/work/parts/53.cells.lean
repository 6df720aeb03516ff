/-! THE HEAP BEFORE THE FIRST CALL: its cells, its size. -/
def pu_H : am_H := ([] ++ pu_plat 0 16) ++ pu_model 6952 ++ [.inl (2, 1, .inr (.inl (fun _ => 0)))]
theorem pu_H_len : pu_H.length = 7082 := by
  unfold pu_H
  simp only [List.length_append, List.length_cons, List.length_nil, pu_plat_len, pu_model_len]
theorem pu_L {A B : am_H} {i : Nat} {c : va_E} (h : A[i]? = some c) : (A ++ B)[i]? = some c := by
  have hi : i < A.length := (List.getElem?_eq_some_iff.mp h).1
  rw [List.getElem?_append_left hi]; exact h
theorem pu_Rr {A B : am_H} {n i j : Nat} {c : va_E} (hA : A.length = n) (hj : j = n + i) (h : B[i]? = some c) : (A ++ B)[j]? = some c := by
  subst hj; subst hA
  rw [List.getElem?_append_right (by omega), Nat.add_sub_cancel_left]; exact h
theorem pu_Cc {B : am_H} {a c : va_E} {i j : Nat} (hj : j = i + 1) (h : B[i]? = some c) : (a :: B)[j]? = some c := by
  subst hj; rw [List.getElem?_cons_succ]; exact h
theorem pu_states_at (b : Nat) (k : Nat) : ∀ j i, j < k → i = 305 * j → (pu_states b k)[i]? = some (.inr (9, [.ref (b + 305 * j + 1), .ref (b + 305 * j + 87), .ref (b + 305 * j + 173), .ref (b + 305 * j + 259), .long 0, .int 0, .int 0])) := by
  induction k with
  | zero => intro j i h; omega
  | succ k ih =>
    intro j i h e
    rw [pu_states]
    by_cases hj : j < k
    · exact pu_L (ih j i hj e)
    · have hj : j = k := by omega
      subst hj
      exact pu_Rr (i := 0) (pu_states_len b j) (by omega) rfl
set_option maxRecDepth 20000 in
theorem pu_H0 : pu_H[0]? = some (.inr (11, [.ref 1, .int 0, .ref 2, .ref 7, .ref 13, .ref 23, .ref 28, .ref 29, .ref 30, .ref 76, .ref 202, .ref 328, .ref 414, .ref 540, .ref 666, .ref 931, .ref 1793, .ref 2068, .ref 2070, .int 0])) := pu_L (pu_L (pu_Rr (n := 0) (i := 0) rfl rfl rfl))
set_option maxRecDepth 20000 in
theorem pu_H1 : pu_H[1]? = some (.inl (0, 16384, .inl (fun _ => 0))) := pu_L (pu_L (pu_Rr (n := 0) (i := 1) rfl rfl rfl))
set_option maxRecDepth 20000 in
theorem pu_H2 : pu_H[2]? = some (.inr (6, [.ref 3, .ref 4, .int 0, .int 0, .int 0, .int 0, .long 0, .ref 5, .int (-1), .int (-1)])) := pu_L (pu_L (pu_Rr (n := 0) (i := 2) rfl rfl rfl))
set_option maxRecDepth 20000 in
theorem pu_H3 : pu_H[3]? = some (.inl (2, 34, .inr (.inl pu_words))) := pu_L (pu_L (pu_Rr (n := 0) (i := 3) rfl rfl rfl))
set_option maxRecDepth 20000 in
theorem pu_H7 : pu_H[7]? = some (.inr (10, [.ref 8, .int 0, .ref 3, .ref 9, .ref 10, .int 0, .ref 11])) := pu_L (pu_L (pu_Rr (n := 0) (i := 7) rfl rfl rfl))
set_option maxRecDepth 20000 in
theorem pu_H8 : pu_H[8]? = some (.inl (0, 16384, .inl (fun _ => 0))) := pu_L (pu_L (pu_Rr (n := 0) (i := 8) rfl rfl rfl))
set_option maxRecDepth 20000 in
theorem pu_H13 : pu_H[13]? = some (.inr (5, [.ref 14, .ref 15, .ref 16, .ref 17, .ref 18, .ref 19, .ref 20, .ref 21, .int 0, .ref 22, .int 0])) := pu_L (pu_L (pu_Rr (n := 0) (i := 13) rfl rfl rfl))
set_option maxRecDepth 20000 in
theorem pu_H23 : pu_H[23]? = some (.inr (4, [.ref 13, .ref 2, .ref 24, .ref 25, .int 0, .int 0, .ref 26, .int 0])) := pu_L (pu_L (pu_Rr (n := 0) (i := 23) rfl rfl rfl))
set_option maxRecDepth 20000 in
theorem pu_H24 : pu_H[24]? = some (.inl (1, 1024, .inl (fun _ => 0))) := pu_L (pu_L (pu_Rr (n := 0) (i := 24) rfl rfl rfl))
set_option maxRecDepth 20000 in
theorem pu_H25 : pu_H[25]? = some (.inl (1, 1024, .inl (fun _ => 0))) := pu_L (pu_L (pu_Rr (n := 0) (i := 25) rfl rfl rfl))
set_option maxRecDepth 20000 in
theorem pu_H28 : pu_H[28]? = some (.inl (1, 16, .inl (fun j => if j < 16 then -1 else 0))) := pu_L (pu_L (pu_Rr (n := 0) (i := 28) rfl rfl rfl))
set_option maxRecDepth 20000 in
theorem pu_H29 : pu_H[29]? = some (.inl (5, 16, .inr (.inr (.inr (.inr (fun j => if j < 16 then some (2072 + 305 * j) else none)))))) := pu_L (pu_L (pu_Rr (n := 0) (i := 29) rfl rfl rfl))
set_option maxRecDepth 20000 in
theorem pu_H30 : pu_H[30]? = some (.inr (0, [.ref 33, .ref 34, .ref 35, .ref 31, .int 0])) := pu_L (pu_L (pu_Rr (n := 0) (i := 30) rfl rfl (pu_Cc (i := 29) rfl (pu_Rr (n := 27) (i := 2) (pu_platA_len 0) rfl (pu_Cc (i := 1) rfl (pu_Cc (i := 0) rfl (pu_L (pu_L (pu_L (pu_L (pu_L (pu_L (pu_L (pu_L (pu_L (pu_L (pu_L (pu_Rr (n := 0) (i := 0) (by simp only [List.length_append, List.length_cons, List.length_nil, pu_book_len, pu_row_len, pu_journal_len, pu_writer_len, pu_pool_len, pu_parser_len, pu_state_len, pu_search_len, pu_reader_len, pu_mach_len]) rfl rfl))))))))))))))))))
set_option maxRecDepth 20000 in
theorem pu_H76 : pu_H[76]? = some (.inr (0, [.ref 79, .ref 80, .ref 81, .ref 77, .int 0])) := pu_L (pu_L (pu_Rr (n := 0) (i := 76) rfl rfl (pu_Cc (i := 75) rfl (pu_Rr (n := 27) (i := 48) (pu_platA_len 0) rfl (pu_Cc (i := 47) rfl (pu_Cc (i := 46) rfl (pu_L (pu_L (pu_L (pu_L (pu_L (pu_L (pu_L (pu_L (pu_L (pu_L (pu_Rr (n := 46) (i := 0) (by simp only [List.length_append, List.length_cons, List.length_nil, pu_book_len, pu_row_len, pu_journal_len, pu_writer_len, pu_pool_len, pu_parser_len, pu_state_len, pu_search_len, pu_reader_len, pu_mach_len]) rfl rfl)))))))))))))))))
set_option maxRecDepth 20000 in
theorem pu_H77 : pu_H[77]? = some (.inr (3, [.int 0, .int 0, .ref 78])) := pu_L (pu_L (pu_Rr (n := 0) (i := 77) rfl rfl (pu_Cc (i := 76) rfl (pu_Rr (n := 27) (i := 49) (pu_platA_len 0) rfl (pu_Cc (i := 48) rfl (pu_Cc (i := 47) rfl (pu_L (pu_L (pu_L (pu_L (pu_L (pu_L (pu_L (pu_L (pu_L (pu_L (pu_Rr (n := 46) (i := 1) (by simp only [List.length_append, List.length_cons, List.length_nil, pu_book_len, pu_row_len, pu_journal_len, pu_writer_len, pu_pool_len, pu_parser_len, pu_state_len, pu_search_len, pu_reader_len, pu_mach_len]) rfl rfl)))))))))))))))))
set_option maxRecDepth 20000 in
theorem pu_H202 : pu_H[202]? = some (.inr (0, [.ref 205, .ref 206, .ref 207, .ref 203, .int 0])) := pu_L (pu_L (pu_Rr (n := 0) (i := 202) rfl rfl (pu_Cc (i := 201) rfl (pu_Rr (n := 27) (i := 174) (pu_platA_len 0) rfl (pu_Cc (i := 173) rfl (pu_Cc (i := 172) rfl (pu_L (pu_L (pu_L (pu_L (pu_L (pu_L (pu_L (pu_L (pu_L (pu_Rr (n := 172) (i := 0) (by simp only [List.length_append, List.length_cons, List.length_nil, pu_book_len, pu_row_len, pu_journal_len, pu_writer_len, pu_pool_len, pu_parser_len, pu_state_len, pu_search_len, pu_reader_len, pu_mach_len]) rfl rfl))))))))))))))))
set_option maxRecDepth 20000 in
theorem pu_H414 : pu_H[414]? = some (.inr (7, [.ref 415, .ref 416, .ref 417, .ref 418, .ref 419, .int 0])) := pu_L (pu_L (pu_Rr (n := 0) (i := 414) rfl rfl (pu_Cc (i := 413) rfl (pu_Rr (n := 27) (i := 386) (pu_platA_len 0) rfl (pu_Cc (i := 385) rfl (pu_Cc (i := 384) rfl (pu_L (pu_L (pu_L (pu_L (pu_L (pu_L (pu_L (pu_Rr (n := 384) (i := 0) (by simp only [List.length_append, List.length_cons, List.length_nil, pu_book_len, pu_row_len, pu_journal_len, pu_writer_len, pu_pool_len, pu_parser_len, pu_state_len, pu_search_len, pu_reader_len, pu_mach_len]) rfl rfl))))))))))))))
set_option maxRecDepth 20000 in
theorem pu_H540 : pu_H[540]? = some (.inr (7, [.ref 541, .ref 542, .ref 543, .ref 544, .ref 545, .int 0])) := pu_L (pu_L (pu_Rr (n := 0) (i := 540) rfl rfl (pu_Cc (i := 539) rfl (pu_Rr (n := 27) (i := 512) (pu_platA_len 0) rfl (pu_Cc (i := 511) rfl (pu_Cc (i := 510) rfl (pu_L (pu_L (pu_L (pu_L (pu_L (pu_L (pu_Rr (n := 510) (i := 0) (by simp only [List.length_append, List.length_cons, List.length_nil, pu_book_len, pu_row_len, pu_journal_len, pu_writer_len, pu_pool_len, pu_parser_len, pu_state_len, pu_search_len, pu_reader_len, pu_mach_len]) rfl rfl)))))))))))))
set_option maxRecDepth 20000 in
theorem pu_H1793 : pu_H[1793]? = some (.inr (8, [.ref 13, .ref 931, .ref 1794, .ref 1795, .ref 2057, .ref 2058, .ref 2059, .ref 2060, .ref 2062, .int 0])) := pu_L (pu_L (pu_Rr (n := 0) (i := 1793) rfl rfl (pu_Cc (i := 1792) rfl (pu_Rr (n := 27) (i := 1765) (pu_platA_len 0) rfl (pu_Cc (i := 1764) rfl (pu_Cc (i := 1763) rfl (pu_L (pu_L (pu_L (pu_Rr (n := 1763) (i := 0) (by simp only [List.length_append, List.length_cons, List.length_nil, pu_book_len, pu_row_len, pu_journal_len, pu_writer_len, pu_pool_len, pu_parser_len, pu_state_len, pu_search_len, pu_reader_len, pu_mach_len]) rfl rfl))))))))))
set_option maxRecDepth 20000 in
theorem pu_H2068 : pu_H[2068]? = some (.inr (1, [.ref 2069, .int 0, .int 0, .int (-1), .int 0, .int 0, .int 0])) := pu_L (pu_L (pu_Rr (n := 0) (i := 2068) rfl rfl (pu_Cc (i := 2067) rfl (pu_Rr (n := 27) (i := 2040) (pu_platA_len 0) rfl (pu_Cc (i := 2039) rfl (pu_Cc (i := 2038) rfl (pu_L (pu_L (pu_Rr (n := 2038) (i := 0) (by simp only [List.length_append, List.length_cons, List.length_nil, pu_book_len, pu_row_len, pu_journal_len, pu_writer_len, pu_pool_len, pu_parser_len, pu_state_len, pu_search_len, pu_reader_len, pu_mach_len]) rfl rfl)))))))))
set_option maxRecDepth 20000 in
theorem pu_H2069 : pu_H[2069]? = some (.inl (0, 16384, .inl (fun _ => 0))) := pu_L (pu_L (pu_Rr (n := 0) (i := 2069) rfl rfl (pu_Cc (i := 2068) rfl (pu_Rr (n := 27) (i := 2041) (pu_platA_len 0) rfl (pu_Cc (i := 2040) rfl (pu_Cc (i := 2039) rfl (pu_L (pu_L (pu_Rr (n := 2038) (i := 1) (by simp only [List.length_append, List.length_cons, List.length_nil, pu_book_len, pu_row_len, pu_journal_len, pu_writer_len, pu_pool_len, pu_parser_len, pu_state_len, pu_search_len, pu_reader_len, pu_mach_len]) rfl rfl)))))))))
set_option maxRecDepth 20000 in
theorem pu_H2070 : pu_H[2070]? = some (.inr (3, [.int 0, .int 0, .ref 2071])) := pu_L (pu_L (pu_Rr (n := 0) (i := 2070) rfl rfl (pu_Cc (i := 2069) rfl (pu_Rr (n := 27) (i := 2042) (pu_platA_len 0) rfl (pu_Cc (i := 2041) rfl (pu_Cc (i := 2040) rfl (pu_L (pu_Rr (n := 2040) (i := 0) (by simp only [List.length_append, List.length_cons, List.length_nil, pu_book_len, pu_row_len, pu_journal_len, pu_writer_len, pu_pool_len, pu_parser_len, pu_state_len, pu_search_len, pu_reader_len, pu_mach_len]) rfl rfl))))))))
set_option maxRecDepth 20000 in
theorem pu_H2072 : pu_H[2072]? = some (.inr (9, [.ref 2073, .ref 2159, .ref 2245, .ref 2331, .long 0, .int 0, .int 0])) := pu_L (pu_L (pu_Rr (n := 0) (i := 2072) rfl rfl (pu_Cc (i := 2071) rfl (pu_Rr (n := 27) (i := 2044) (pu_platA_len 0) rfl (pu_Cc (i := 2043) rfl (pu_Cc (i := 2042) rfl (pu_Rr (n := 2042) (i := 0) (pu_platR_len 0) rfl (pu_states_at 2072 16 0 0 (by decide) rfl))))))))
set_option maxRecDepth 20000 in
theorem pu_H2377 : pu_H[2377]? = some (.inr (9, [.ref 2378, .ref 2464, .ref 2550, .ref 2636, .long 0, .int 0, .int 0])) := pu_L (pu_L (pu_Rr (n := 0) (i := 2377) rfl rfl (pu_Cc (i := 2376) rfl (pu_Rr (n := 27) (i := 2349) (pu_platA_len 0) rfl (pu_Cc (i := 2348) rfl (pu_Cc (i := 2347) rfl (pu_Rr (n := 2042) (i := 305) (pu_platR_len 0) rfl (pu_states_at 2072 16 1 305 (by decide) rfl))))))))
set_option maxRecDepth 20000 in
theorem pu_H2682 : pu_H[2682]? = some (.inr (9, [.ref 2683, .ref 2769, .ref 2855, .ref 2941, .long 0, .int 0, .int 0])) := pu_L (pu_L (pu_Rr (n := 0) (i := 2682) rfl rfl (pu_Cc (i := 2681) rfl (pu_Rr (n := 27) (i := 2654) (pu_platA_len 0) rfl (pu_Cc (i := 2653) rfl (pu_Cc (i := 2652) rfl (pu_Rr (n := 2042) (i := 610) (pu_platR_len 0) rfl (pu_states_at 2072 16 2 610 (by decide) rfl))))))))
set_option maxRecDepth 20000 in
theorem pu_H2987 : pu_H[2987]? = some (.inr (9, [.ref 2988, .ref 3074, .ref 3160, .ref 3246, .long 0, .int 0, .int 0])) := pu_L (pu_L (pu_Rr (n := 0) (i := 2987) rfl rfl (pu_Cc (i := 2986) rfl (pu_Rr (n := 27) (i := 2959) (pu_platA_len 0) rfl (pu_Cc (i := 2958) rfl (pu_Cc (i := 2957) rfl (pu_Rr (n := 2042) (i := 915) (pu_platR_len 0) rfl (pu_states_at 2072 16 3 915 (by decide) rfl))))))))
set_option maxRecDepth 20000 in
theorem pu_H3292 : pu_H[3292]? = some (.inr (9, [.ref 3293, .ref 3379, .ref 3465, .ref 3551, .long 0, .int 0, .int 0])) := pu_L (pu_L (pu_Rr (n := 0) (i := 3292) rfl rfl (pu_Cc (i := 3291) rfl (pu_Rr (n := 27) (i := 3264) (pu_platA_len 0) rfl (pu_Cc (i := 3263) rfl (pu_Cc (i := 3262) rfl (pu_Rr (n := 2042) (i := 1220) (pu_platR_len 0) rfl (pu_states_at 2072 16 4 1220 (by decide) rfl))))))))
set_option maxRecDepth 20000 in
theorem pu_H3597 : pu_H[3597]? = some (.inr (9, [.ref 3598, .ref 3684, .ref 3770, .ref 3856, .long 0, .int 0, .int 0])) := pu_L (pu_L (pu_Rr (n := 0) (i := 3597) rfl rfl (pu_Cc (i := 3596) rfl (pu_Rr (n := 27) (i := 3569) (pu_platA_len 0) rfl (pu_Cc (i := 3568) rfl (pu_Cc (i := 3567) rfl (pu_Rr (n := 2042) (i := 1525) (pu_platR_len 0) rfl (pu_states_at 2072 16 5 1525 (by decide) rfl))))))))
set_option maxRecDepth 20000 in
theorem pu_H3902 : pu_H[3902]? = some (.inr (9, [.ref 3903, .ref 3989, .ref 4075, .ref 4161, .long 0, .int 0, .int 0])) := pu_L (pu_L (pu_Rr (n := 0) (i := 3902) rfl rfl (pu_Cc (i := 3901) rfl (pu_Rr (n := 27) (i := 3874) (pu_platA_len 0) rfl (pu_Cc (i := 3873) rfl (pu_Cc (i := 3872) rfl (pu_Rr (n := 2042) (i := 1830) (pu_platR_len 0) rfl (pu_states_at 2072 16 6 1830 (by decide) rfl))))))))
set_option maxRecDepth 20000 in
theorem pu_H4207 : pu_H[4207]? = some (.inr (9, [.ref 4208, .ref 4294, .ref 4380, .ref 4466, .long 0, .int 0, .int 0])) := pu_L (pu_L (pu_Rr (n := 0) (i := 4207) rfl rfl (pu_Cc (i := 4206) rfl (pu_Rr (n := 27) (i := 4179) (pu_platA_len 0) rfl (pu_Cc (i := 4178) rfl (pu_Cc (i := 4177) rfl (pu_Rr (n := 2042) (i := 2135) (pu_platR_len 0) rfl (pu_states_at 2072 16 7 2135 (by decide) rfl))))))))
set_option maxRecDepth 20000 in
theorem pu_H4512 : pu_H[4512]? = some (.inr (9, [.ref 4513, .ref 4599, .ref 4685, .ref 4771, .long 0, .int 0, .int 0])) := pu_L (pu_L (pu_Rr (n := 0) (i := 4512) rfl rfl (pu_Cc (i := 4511) rfl (pu_Rr (n := 27) (i := 4484) (pu_platA_len 0) rfl (pu_Cc (i := 4483) rfl (pu_Cc (i := 4482) rfl (pu_Rr (n := 2042) (i := 2440) (pu_platR_len 0) rfl (pu_states_at 2072 16 8 2440 (by decide) rfl))))))))
set_option maxRecDepth 20000 in
theorem pu_H4817 : pu_H[4817]? = some (.inr (9, [.ref 4818, .ref 4904, .ref 4990, .ref 5076, .long 0, .int 0, .int 0])) := pu_L (pu_L (pu_Rr (n := 0) (i := 4817) rfl rfl (pu_Cc (i := 4816) rfl (pu_Rr (n := 27) (i := 4789) (pu_platA_len 0) rfl (pu_Cc (i := 4788) rfl (pu_Cc (i := 4787) rfl (pu_Rr (n := 2042) (i := 2745) (pu_platR_len 0) rfl (pu_states_at 2072 16 9 2745 (by decide) rfl))))))))
set_option maxRecDepth 20000 in
theorem pu_H5122 : pu_H[5122]? = some (.inr (9, [.ref 5123, .ref 5209, .ref 5295, .ref 5381, .long 0, .int 0, .int 0])) := pu_L (pu_L (pu_Rr (n := 0) (i := 5122) rfl rfl (pu_Cc (i := 5121) rfl (pu_Rr (n := 27) (i := 5094) (pu_platA_len 0) rfl (pu_Cc (i := 5093) rfl (pu_Cc (i := 5092) rfl (pu_Rr (n := 2042) (i := 3050) (pu_platR_len 0) rfl (pu_states_at 2072 16 10 3050 (by decide) rfl))))))))
set_option maxRecDepth 20000 in
theorem pu_H5427 : pu_H[5427]? = some (.inr (9, [.ref 5428, .ref 5514, .ref 5600, .ref 5686, .long 0, .int 0, .int 0])) := pu_L (pu_L (pu_Rr (n := 0) (i := 5427) rfl rfl (pu_Cc (i := 5426) rfl (pu_Rr (n := 27) (i := 5399) (pu_platA_len 0) rfl (pu_Cc (i := 5398) rfl (pu_Cc (i := 5397) rfl (pu_Rr (n := 2042) (i := 3355) (pu_platR_len 0) rfl (pu_states_at 2072 16 11 3355 (by decide) rfl))))))))
set_option maxRecDepth 20000 in
theorem pu_H5732 : pu_H[5732]? = some (.inr (9, [.ref 5733, .ref 5819, .ref 5905, .ref 5991, .long 0, .int 0, .int 0])) := pu_L (pu_L (pu_Rr (n := 0) (i := 5732) rfl rfl (pu_Cc (i := 5731) rfl (pu_Rr (n := 27) (i := 5704) (pu_platA_len 0) rfl (pu_Cc (i := 5703) rfl (pu_Cc (i := 5702) rfl (pu_Rr (n := 2042) (i := 3660) (pu_platR_len 0) rfl (pu_states_at 2072 16 12 3660 (by decide) rfl))))))))
set_option maxRecDepth 20000 in
theorem pu_H6037 : pu_H[6037]? = some (.inr (9, [.ref 6038, .ref 6124, .ref 6210, .ref 6296, .long 0, .int 0, .int 0])) := pu_L (pu_L (pu_Rr (n := 0) (i := 6037) rfl rfl (pu_Cc (i := 6036) rfl (pu_Rr (n := 27) (i := 6009) (pu_platA_len 0) rfl (pu_Cc (i := 6008) rfl (pu_Cc (i := 6007) rfl (pu_Rr (n := 2042) (i := 3965) (pu_platR_len 0) rfl (pu_states_at 2072 16 13 3965 (by decide) rfl))))))))
set_option maxRecDepth 20000 in
theorem pu_H6342 : pu_H[6342]? = some (.inr (9, [.ref 6343, .ref 6429, .ref 6515, .ref 6601, .long 0, .int 0, .int 0])) := pu_L (pu_L (pu_Rr (n := 0) (i := 6342) rfl rfl (pu_Cc (i := 6341) rfl (pu_Rr (n := 27) (i := 6314) (pu_platA_len 0) rfl (pu_Cc (i := 6313) rfl (pu_Cc (i := 6312) rfl (pu_Rr (n := 2042) (i := 4270) (pu_platR_len 0) rfl (pu_states_at 2072 16 14 4270 (by decide) rfl))))))))
set_option maxRecDepth 20000 in
theorem pu_H6647 : pu_H[6647]? = some (.inr (9, [.ref 6648, .ref 6734, .ref 6820, .ref 6906, .long 0, .int 0, .int 0])) := pu_L (pu_L (pu_Rr (n := 0) (i := 6647) rfl rfl (pu_Cc (i := 6646) rfl (pu_Rr (n := 27) (i := 6619) (pu_platA_len 0) rfl (pu_Cc (i := 6618) rfl (pu_Cc (i := 6617) rfl (pu_Rr (n := 2042) (i := 4575) (pu_platR_len 0) rfl (pu_states_at 2072 16 15 4575 (by decide) rfl))))))))
set_option maxRecDepth 20000 in
theorem pu_H6952 : pu_H[6952]? = some (.inr (12, [.int 0, .ref 6953, .int 0, .ref 6954, .int 0, .ref 6955, .int 0, .int 0, .int 0, .ref 6956, .ref 6957, .ref 6958, .ref 6959, .int 0, .int 0, .int 0, .int 0, .int 0, .long 0, .int (-1), .int (-1), .ref 6960, .ref 6961, .ref 6962, .ref 6963, .ref 6964, .ref 6965, .ref 6966, .ref 6967, .ref 6968, .ref 6969, .ref 6970, .ref 6971, .ref 6972, .ref 6973, .ref 6974, .int 0, .int 0, .int 0, .int 0, .int 0, .ref 6975, .ref 6976, .ref 6977, .ref 6978, .int 0, .int 0, .ref 6979, .ref 6980, .ref 6981, .ref 6982, .ref 6983, .ref 6984, .ref 6985, .ref 6986, .ref 6987, .ref 6988, .int 0, .ref 6989, .ref 6990, .int 0, .ref 6991, .int 0, .ref 6992, .ref 6993, .int 0, .ref 6994, .ref 6995, .ref 6996, .ref 6997, .ref 6998, .ref 6999, .ref 7000, .ref 7001, .ref 7002, .ref 7003, .ref 7004, .ref 7005, .ref 7006, .ref 7007, .ref 7008, .ref 7009, .ref 7010, .int 0, .long 0, .int 0, .ref 7011, .ref 7012, .ref 7013, .int 0, .ref 7014, .ref 7015, .ref 7016, .int 0, .ref 7017, .ref 7018, .int 0, .ref 7019, .ref 7020, .long 0, .long 0, .int 0, .int 0, .int 0, .int 0, .ref 7021, .ref 7022, .ref 7023, .ref 7024, .ref 7025, .int 0, .ref 7026, .ref 7027, .ref 7028, .ref 7029, .ref 7030, .int 0, .ref 7031, .ref 7032, .ref 7033, .ref 7034, .ref 7035, .int 0, .ref 7036, .int 0, .ref 7037, .ref 7038, .ref 7039, .ref 7040, .ref 7041, .int 0, .ref 7042, .ref 7043, .ref 7044, .int 0, .ref 7045, .ref 7046, .int 0, .ref 7047, .ref 7048, .ref 7049, .ref 7050, .ref 7051, .int 0, .ref 7052, .ref 7053, .ref 7054, .ref 7055, .ref 7056, .int 0, .int 0, .ref 7057, .ref 7058, .ref 7059, .ref 7060, .ref 7061, .ref 7062, .ref 7063, .ref 7064, .ref 7065, .ref 7066, .ref 7067, .ref 7068, .ref 7069, .ref 7070, .ref 7071, .ref 7072, .ref 7073, .ref 7074, .ref 7075, .ref 7076, .ref 7077, .ref 7078, .ref 7079, .long 0, .int 0, .ref 7080, .int 0, .int 0, .int (-1), .int 0, .int 0])) := pu_L (pu_Rr (n := 6952) (i := 0) (by simp only [List.length_append, List.length_nil, pu_plat_len]) rfl rfl)
set_option maxRecDepth 20000 in
theorem pu_H6953 : pu_H[6953]? = some (.inl (1, 16384, .inl (fun _ => 0))) := pu_L (pu_Rr (n := 6952) (i := 1) (by simp only [List.length_append, List.length_nil, pu_plat_len]) rfl rfl)
set_option maxRecDepth 20000 in
theorem pu_H6954 : pu_H[6954]? = some (.inl (1, 16384, .inl (fun _ => 0))) := pu_L (pu_Rr (n := 6952) (i := 2) (by simp only [List.length_append, List.length_nil, pu_plat_len]) rfl rfl)
set_option maxRecDepth 20000 in
theorem pu_H6955 : pu_H[6955]? = some (.inl (1, 1100000, .inl (fun _ => 0))) := pu_L (pu_Rr (n := 6952) (i := 3) (by simp only [List.length_append, List.length_nil, pu_plat_len]) rfl rfl)
set_option maxRecDepth 20000 in
theorem pu_H6975 : pu_H[6975]? = some (.inl (1, 30000, .inl (fun _ => 0))) := pu_L (pu_Rr (n := 6952) (i := 23) (by simp only [List.length_append, List.length_nil, pu_plat_len]) rfl rfl)
set_option maxRecDepth 20000 in
theorem pu_H6976 : pu_H[6976]? = some (.inl (1, 30000, .inl (fun _ => 0))) := pu_L (pu_Rr (n := 6952) (i := 24) (by simp only [List.length_append, List.length_nil, pu_plat_len]) rfl rfl)
set_option maxRecDepth 20000 in
theorem pu_H6977 : pu_H[6977]? = some (.inl (1, 30000, .inl (fun _ => 0))) := pu_L (pu_Rr (n := 6952) (i := 25) (by simp only [List.length_append, List.length_nil, pu_plat_len]) rfl rfl)
set_option maxRecDepth 20000 in
theorem pu_H6978 : pu_H[6978]? = some (.inl (1, 30000, .inl (fun _ => 0))) := pu_L (pu_Rr (n := 6952) (i := 26) (by simp only [List.length_append, List.length_nil, pu_plat_len]) rfl rfl)
set_option maxRecDepth 20000 in
theorem pu_H6984 : pu_H[6984]? = some (.inl (3, 16, .inl (fun _ => 0))) := pu_L (pu_Rr (n := 6952) (i := 32) (by simp only [List.length_append, List.length_nil, pu_plat_len]) rfl rfl)
set_option maxRecDepth 20000 in
theorem pu_H6994 : pu_H[6994]? = some (.inl (3, 16, .inl (fun _ => 0))) := pu_L (pu_Rr (n := 6952) (i := 42) (by simp only [List.length_append, List.length_nil, pu_plat_len]) rfl rfl)
set_option maxRecDepth 20000 in
theorem pu_H7080 : pu_H[7080]? = some (.inl (1, 16384, .inl (fun _ => 0))) := pu_L (pu_Rr (n := 6952) (i := 128) (by simp only [List.length_append, List.length_nil, pu_plat_len]) rfl rfl)
set_option maxRecDepth 20000 in
theorem pu_H7081 : pu_H[7081]? = some (.inl (2, 1, .inr (.inl (fun _ => 0)))) := pu_Rr (n := 7081) (i := 0) (by simp only [List.length_append, List.length_nil, pu_plat_len, pu_model_len]) rfl rfl
def am_ovH (h : am_H) : am_O → Prop
  | [] => True
  | p :: r => h[p.1]? = some p.2 ∧ am_ovH h r
theorem pu_set_same {h : am_H} {i : Nat} {c : va_E} (e : h[i]? = some c) : h.set i c = h := by
  refine List.ext_getElem? (fun j => ?_)
  by_cases hj : i = j
  · subst hj
    rw [List.getElem?_set_self (List.getElem?_eq_some_iff.mp e).1, e]
  · rw [List.getElem?_set_ne hj]
theorem am_ovH_ov {h : am_H} {ov : am_O} (hh : am_ovH h ov) : am_ov ov h = h := by
  induction ov with
  | nil => rfl
  | cons p r ih =>
    show (am_ov r h).set p.1 p.2 = h
    rw [ih hh.2]
    exact pu_set_same hh.1
theorem am_ovH_fd {h : am_H} {ov : am_O} (hh : am_ovH h ov) {i : Nat} {c : va_E} (hf : am_fd i ov = some c) : h[i]? = some c := by
  induction ov with
  | nil => cases hf
  | cons p r ih =>
    obtain ⟨j, e⟩ := p
    unfold am_fd at hf
    cases hq : Nat.beq i j with
    | true =>
      rw [hq] at hf
      have hj : i = j := Nat.eq_of_beq_eq_true hq
      subst hj
      replace hf : some e = some c := hf
      rw [← hf]
      exact hh.1
    | false =>
      rw [hq] at hf
      exact ih hh.2 hf
theorem pu_H_ovH : am_ovH pu_H pu_ov0 := ⟨pu_H0, pu_H1, pu_H2, pu_H3, pu_H7, pu_H8, pu_H13, pu_H23, pu_H24, pu_H25, pu_H28, pu_H29, pu_H30, pu_H76, pu_H77, pu_H202, pu_H414, pu_H540, pu_H1793, pu_H2068, pu_H2069, pu_H2070, pu_H2072, pu_H2377, pu_H2682, pu_H2987, pu_H3292, pu_H3597, pu_H3902, pu_H4207, pu_H4512, pu_H4817, pu_H5122, pu_H5427, pu_H5732, pu_H6037, pu_H6342, pu_H6647, pu_H6952, pu_H6953, pu_H6954, pu_H6955, pu_H6975, pu_H6976, pu_H6977, pu_H6978, pu_H6984, pu_H6994, pu_H7080, pu_H7081, trivial⟩
theorem am_sl_app (a b : am_H) : am_sl (a ++ b) = am_sl a + am_sl b := by
  unfold am_sl; rw [List.map_append, List.sum_append]
theorem am_sl_cons (c : va_E) (t : am_H) : am_sl (c :: t) = am_sz c + am_sl t := by
  unfold am_sl; rw [List.map_cons, List.sum_cons]
theorem am_sl_nil : am_sl [] = 0 := rfl
theorem pu_nums_sl (b k : Nat) : am_sl (pu_nums b k) = 37 * k := by
  induction k with
  | zero => rfl
  | succ k ih =>
    rw [pu_nums, am_sl_app, ih]
    show _ + 37 = _
    omega
theorem pu_book_sl (l n k : Nat) : am_sl (pu_book l n k) = 42 + 3 * n + 37 * k := by
  unfold pu_book pu_num pu_limb
  simp only [am_sl_cons, pu_nums_sl, am_sz, List.length_cons, List.length_nil]
  omega
theorem pu_row_sl (l n k : Nat) : am_sl (pu_row l n k) = 6 + 5 * n + 37 * k := by
  unfold pu_row
  simp only [am_sl_cons, pu_nums_sl, am_sz, List.length_cons, List.length_nil]
  omega
theorem pu_state_sl (l n : Nat) : am_sl (pu_state l n) = 4975 + 40 * n := by
  unfold pu_state
  simp only [am_sl_cons, am_sl_app, am_sl_nil, pu_book_sl, am_sz, List.length_cons, List.length_nil]
  omega
theorem pu_states_sl (b k : Nat) : am_sl (pu_states b k) = 5775 * k := by
  induction k with
  | zero => rfl
  | succ k ih => rw [pu_states, am_sl_app, ih, pu_state_sl]; omega
theorem pu_platA_sl : am_sl (pu_platA 0) = 109881 := by decide +kernel
theorem pu_mach_sl : am_sl (pu_mach (0 + 931) (0 + 13) 104) = 16586 := by decide +kernel
theorem pu_search_sl : am_sl (pu_search (0 + 1793) (0 + 13) (0 + 931)) = 5983 := by decide +kernel
theorem pu_journal_sl : am_sl (pu_journal (0 + 2068)) = 16391 := by decide +kernel
theorem pu_model_sl : am_sl (pu_model 6952) = 2333066 := by decide +kernel
theorem pu_H_sl : am_sl pu_H = 2591836 := by
  unfold pu_H pu_plat pu_platR
  simp only [am_sl_app, am_sl_cons, am_sl_nil, pu_platA_sl, pu_mach_sl, pu_search_sl, pu_journal_sl, pu_model_sl, pu_states_sl, pu_state_sl, pu_book_sl, pu_row_sl]
  rfl
theorem am_sz_set {h : am_H} {i : Nat} {c : va_E} {S : List Nat} (hs : h.map am_sz = S) (hi : S[i]? = some (am_sz c)) : (h.set i c).map am_sz = S := by
  rw [List.map_set, hs]
  refine List.ext_getElem? (fun j => ?_)
  by_cases hj : i = j
  · subst hj
    rw [List.getElem?_set_self (List.getElem?_eq_some_iff.mp hi).1, hi]
  · rw [List.getElem?_set_ne hj]
theorem pu_okO_map (e : am_H) {ov : am_O} (hk : pu_okO ov = true) : (am_ov ov (pu_H ++ e)).map am_sz = (pu_H ++ e).map am_sz := by
  induction ov with
  | nil => rfl
  | cons p r ih =>
    unfold pu_okO at hk
    rw [List.all_cons, Bool.and_eq_true] at hk
    refine am_sz_set (ih hk.2) ?_
    obtain ⟨i, c⟩ := p
    have h1 := hk.1
    cases hf : am_fd i pu_ov0 with
    | none => simp only [hf] at h1; cases h1
    | some c0 =>
      simp only [hf] at h1
      have e1 : am_sz c = am_sz c0 := Nat.eq_of_beq_eq_true h1
      rw [List.getElem?_map, pu_L (am_ovH_fd pu_H_ovH hf)]
      show some (am_sz c0) = some (am_sz c)
      rw [e1]
theorem pu_ok_room {h' : am_H} (hk : pu_ok pu_H h') : h'.length ≤ 600000 ∧ am_sl h' ≤ 7301000 := by
  obtain ⟨ov, e, rfl, h1, h2, h3⟩ := hk
  refine ⟨by rw [am_ov_len, List.length_append, pu_H_len]; omega, ?_⟩
  unfold am_sl
  rw [pu_okO_map e h1]
  show am_sl (pu_H ++ e) ≤ _
  rw [am_sl_app, pu_H_sl]
  omega

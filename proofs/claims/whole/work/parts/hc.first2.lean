/-! THE FIRST WORLD: what its cells hold -/
section ROWSB
variable {e : im_E} {M : im_M}
theorem row_sb {l n : Nat} (h : sbs (fun i => (im_sh0 ++ e)[i]?) M l (pu_row l n n)) : crw M l n 0 z0 z0 z0 z0 z0 := by
  have h1 := sbs_c h rfl
  have h2 := sbs_c h1 rfl
  have h3 := sbs_c h2 rfl
  have h4 := sbs_c h3 rfl
  have h5 := sbs_c h4 rfl
  have h6 := sbs_c h5 rfl
  have nn := nums_sb h6
  refine ⟨?_, Nat.zero_le _, fun i hi => ?_, fun i hi => absurd hi (Nat.not_lt_zero i), fun i hi => (nn i hi).2⟩
  · rw [(sbs_0 h).2]; rfl
  · have : M (l + 5) = im_mf (.inl (4, n, .inr (.inr (.inr (.inr (fun j => if j < n then some (l + 6 + 2 * j) else none)))))) := (sbs_0 h5).2
    rw [this]
    show (match (if ((i : Int)).toNat < n then some (l + 6 + 2 * ((i : Int)).toNat) else none) with | none => (-1 : Int) | some b => (b : Int)) = _
    rw [show ((i : Int)).toNat = i by omega, if_pos hi]
theorem num1_sb {l k : Nat} (h : sbs (fun i => (im_sh0 ++ e)[i]?) M l [pu_num k, pu_limb]) : cn M l 0 := cn_z (by rw [(sbs_0 h).2]; rfl) (by rw [(sbs_0 h).2]; rfl)
theorem sts_sb {b : Nat} : ∀ (k : Nat), sbs (fun i => (im_sh0 ++ e)[i]?) M b (pu_states b k) → ∀ j, j < k → sbs (fun i => (im_sh0 ++ e)[i]?) M (b + 305 * j) (pu_state (b + 305 * j) 20) := by
  intro k
  induction k with
  | zero => intro _ j hj; omega
  | succ k ih =>
    intro h j hj
    by_cases c : j < k
    · exact ih (sbs_l h) j c
    · have : j = k := by omega
      subst this
      exact sbs_r h (pu_states_len b j) rfl
end ROWSB
theorem P00 : sbs (fun i => (im_sh0 ++ [])[i]?) M00 0 (pu_plat 0 16) ∧ sbs (fun i => (im_sh0 ++ [])[i]?) M00 6952 (pu_model 6952) := by
  have h1 : sbs (fun i => (im_sh0 ++ [])[i]?) M00 0 ((([] ++ pu_plat 0 16) ++ pu_model 6952) ++ [.inl (2, 1, .inr (.inl (fun _ => 0)))]) := S00
  have h2 := sbs_l h1
  have h3 : sbs (fun i => (im_sh0 ++ [])[i]?) M00 0 ([] ++ pu_plat 0 16) := sbs_l h2
  exact ⟨h3, sbs_r h2 pu_A_len rfl⟩
theorem Q00 : M00 0 = im_mf (pu_platB 0) ∧ sbs (fun i => (im_sh0 ++ [])[i]?) M00 1 (pu_platA 0) ∧ M00 28 = im_mf (pu_roots 16) ∧ M00 29 = im_mf (pu_insts 0 16) ∧ sbs (fun i => (im_sh0 ++ [])[i]?) M00 30 (pu_platR 0) ∧ sbs (fun i => (im_sh0 ++ [])[i]?) M00 2072 (pu_states 2072 16) := by
  have hP := P00.1
  have h1 := sbs_c (m := 1) hP rfl
  have h28 := sbs_r (m := 28) h1 (pu_platA_len 0) rfl
  have h29 := sbs_c (m := 29) h28 rfl
  have h30 := sbs_c (m := 30) h29 rfl
  exact ⟨(sbs_0 hP).2, sbs_l h1, (sbs_0 h28).2, (sbs_0 h29).2, sbs_l h30, sbs_r h30 (pu_platR_len 0) rfl⟩
theorem A00 : sbs (fun i => (im_sh0 ++ [])[i]?) M00 1 ([.inl (0, 16384, .inl (fun _ => 0))]) ∧ sbs (fun i => (im_sh0 ++ [])[i]?) M00 2 (pu_reader 2 pu_words) ∧ sbs (fun i => (im_sh0 ++ [])[i]?) M00 7 (pu_writer 7 3) ∧ sbs (fun i => (im_sh0 ++ [])[i]?) M00 13 (pu_pool 13) ∧ sbs (fun i => (im_sh0 ++ [])[i]?) M00 23 (pu_parser 23 13 2) := by
  have c5 := Q00.2.1
  have d4 := sbs_r (m := 23) (n := 22) c5 (by simp only [List.length_append, List.length_cons, List.length_nil, pu_book_len, pu_row_len, pu_journal_len, pu_writer_len, pu_pool_len, pu_parser_len, pu_state_len, pu_search_len, pu_reader_len, pu_mach_len]) rfl
  have c4 := sbs_l c5
  have d3 := sbs_r (m := 13) (n := 12) c4 (by simp only [List.length_append, List.length_cons, List.length_nil, pu_book_len, pu_row_len, pu_journal_len, pu_writer_len, pu_pool_len, pu_parser_len, pu_state_len, pu_search_len, pu_reader_len, pu_mach_len]) rfl
  have c3 := sbs_l c4
  have d2 := sbs_r (m := 7) (n := 6) c3 (by simp only [List.length_append, List.length_cons, List.length_nil, pu_book_len, pu_row_len, pu_journal_len, pu_writer_len, pu_pool_len, pu_parser_len, pu_state_len, pu_search_len, pu_reader_len, pu_mach_len]) rfl
  have c2 := sbs_l c3
  have d1 := sbs_r (m := 2) (n := 1) c2 (by simp only [List.length_append, List.length_cons, List.length_nil, pu_book_len, pu_row_len, pu_journal_len, pu_writer_len, pu_pool_len, pu_parser_len, pu_state_len, pu_search_len, pu_reader_len, pu_mach_len]) rfl
  have c1 := sbs_l c2
  have d0 := sbs_r (m := 1) (n := 0) c1 (by simp only [List.length_append, List.length_cons, List.length_nil, pu_book_len, pu_row_len, pu_journal_len, pu_writer_len, pu_pool_len, pu_parser_len, pu_state_len, pu_search_len, pu_reader_len, pu_mach_len]) rfl
  have c0 := sbs_l c1
  exact ⟨d0, d1, d2, d3, d4⟩
theorem R00 : sbs (fun i => (im_sh0 ++ [])[i]?) M00 30 (pu_book 30 20 20) ∧ sbs (fun i => (im_sh0 ++ [])[i]?) M00 76 (pu_book 76 60 60) ∧ sbs (fun i => (im_sh0 ++ [])[i]?) M00 202 (pu_book 202 60 60) ∧ sbs (fun i => (im_sh0 ++ [])[i]?) M00 328 (pu_row 328 40 40) ∧ sbs (fun i => (im_sh0 ++ [])[i]?) M00 414 (pu_row 414 60 60) ∧ sbs (fun i => (im_sh0 ++ [])[i]?) M00 540 (pu_row 540 60 60) ∧ sbs (fun i => (im_sh0 ++ [])[i]?) M00 666 (pu_state 666 0) ∧ sbs (fun i => (im_sh0 ++ [])[i]?) M00 931 (pu_mach 931 13 104) ∧ sbs (fun i => (im_sh0 ++ [])[i]?) M00 1793 (pu_search 1793 13 931) ∧ sbs (fun i => (im_sh0 ++ [])[i]?) M00 2068 (pu_journal 2068) ∧ sbs (fun i => (im_sh0 ++ [])[i]?) M00 2070 ([pu_num 2071, pu_limb]) := by
  have c11 := Q00.2.2.2.2.1
  have d10 := sbs_r (m := 2070) (n := 2040) c11 (by simp only [List.length_append, List.length_cons, List.length_nil, pu_book_len, pu_row_len, pu_journal_len, pu_writer_len, pu_pool_len, pu_parser_len, pu_state_len, pu_search_len, pu_reader_len, pu_mach_len]) rfl
  have c10 := sbs_l c11
  have d9 := sbs_r (m := 2068) (n := 2038) c10 (by simp only [List.length_append, List.length_cons, List.length_nil, pu_book_len, pu_row_len, pu_journal_len, pu_writer_len, pu_pool_len, pu_parser_len, pu_state_len, pu_search_len, pu_reader_len, pu_mach_len]) rfl
  have c9 := sbs_l c10
  have d8 := sbs_r (m := 1793) (n := 1763) c9 (by simp only [List.length_append, List.length_cons, List.length_nil, pu_book_len, pu_row_len, pu_journal_len, pu_writer_len, pu_pool_len, pu_parser_len, pu_state_len, pu_search_len, pu_reader_len, pu_mach_len]) rfl
  have c8 := sbs_l c9
  have d7 := sbs_r (m := 931) (n := 901) c8 (by simp only [List.length_append, List.length_cons, List.length_nil, pu_book_len, pu_row_len, pu_journal_len, pu_writer_len, pu_pool_len, pu_parser_len, pu_state_len, pu_search_len, pu_reader_len, pu_mach_len]) rfl
  have c7 := sbs_l c8
  have d6 := sbs_r (m := 666) (n := 636) c7 (by simp only [List.length_append, List.length_cons, List.length_nil, pu_book_len, pu_row_len, pu_journal_len, pu_writer_len, pu_pool_len, pu_parser_len, pu_state_len, pu_search_len, pu_reader_len, pu_mach_len]) rfl
  have c6 := sbs_l c7
  have d5 := sbs_r (m := 540) (n := 510) c6 (by simp only [List.length_append, List.length_cons, List.length_nil, pu_book_len, pu_row_len, pu_journal_len, pu_writer_len, pu_pool_len, pu_parser_len, pu_state_len, pu_search_len, pu_reader_len, pu_mach_len]) rfl
  have c5 := sbs_l c6
  have d4 := sbs_r (m := 414) (n := 384) c5 (by simp only [List.length_append, List.length_cons, List.length_nil, pu_book_len, pu_row_len, pu_journal_len, pu_writer_len, pu_pool_len, pu_parser_len, pu_state_len, pu_search_len, pu_reader_len, pu_mach_len]) rfl
  have c4 := sbs_l c5
  have d3 := sbs_r (m := 328) (n := 298) c4 (by simp only [List.length_append, List.length_cons, List.length_nil, pu_book_len, pu_row_len, pu_journal_len, pu_writer_len, pu_pool_len, pu_parser_len, pu_state_len, pu_search_len, pu_reader_len, pu_mach_len]) rfl
  have c3 := sbs_l c4
  have d2 := sbs_r (m := 202) (n := 172) c3 (by simp only [List.length_append, List.length_cons, List.length_nil, pu_book_len, pu_row_len, pu_journal_len, pu_writer_len, pu_pool_len, pu_parser_len, pu_state_len, pu_search_len, pu_reader_len, pu_mach_len]) rfl
  have c2 := sbs_l c3
  have d1 := sbs_r (m := 76) (n := 46) c2 (by simp only [List.length_append, List.length_cons, List.length_nil, pu_book_len, pu_row_len, pu_journal_len, pu_writer_len, pu_pool_len, pu_parser_len, pu_state_len, pu_search_len, pu_reader_len, pu_mach_len]) rfl
  have c1 := sbs_l c2
  have d0 := sbs_r (m := 30) (n := 0) c1 (by simp only [List.length_append, List.length_cons, List.length_nil, pu_book_len, pu_row_len, pu_journal_len, pu_writer_len, pu_pool_len, pu_parser_len, pu_state_len, pu_search_len, pu_reader_len, pu_mach_len]) rfl
  have c0 := sbs_l c1
  exact ⟨d0, d1, d2, d3, d4, d5, d6, d7, d8, d9, d10⟩
theorem N00 : M00 931 = im_mf (pu_machB 931 13) ∧ M00 932 = im_mf (.inl (4, 104, .inr (.inr (.inr (.inr (fun j => if j < 104 then some (931 + 654 + 2 * j) else none)))))) ∧ sbs (fun i => (im_sh0 ++ [])[i]?) M00 933 (pu_machR 931) ∧ sbs (fun i => (im_sh0 ++ [])[i]?) M00 1585 (pu_nums 1585 104) := by
  have h := R00.2.2.2.2.2.2.2.1
  have h1 := sbs_c (m := 932) h rfl
  have h2 := sbs_c (m := 933) h1 rfl
  exact ⟨(sbs_0 h).2, (sbs_0 h1).2, sbs_l h2, sbs_r h2 (pu_machR_len 931) rfl⟩
theorem K00 : sbs (fun i => (im_sh0 ++ [])[i]?) M00 933 ([.inl (2, 72, .inr (.inl (fun _ => 0)))]) ∧ sbs (fun i => (im_sh0 ++ [])[i]?) M00 934 ([pu_num 935, pu_limb]) ∧ sbs (fun i => (im_sh0 ++ [])[i]?) M00 936 (pu_state 936 0) ∧ sbs (fun i => (im_sh0 ++ [])[i]?) M00 1201 (pu_book 1201 0 0) ∧ sbs (fun i => (im_sh0 ++ [])[i]?) M00 1207 (pu_book 1207 60 60) ∧ sbs (fun i => (im_sh0 ++ [])[i]?) M00 1333 (pu_row 1333 60 60) ∧ sbs (fun i => (im_sh0 ++ [])[i]?) M00 1459 (pu_row 1459 60 60) := by
  have c7 := N00.2.2.1
  have d6 := sbs_r (m := 1459) (n := 526) c7 (by simp only [List.length_append, List.length_cons, List.length_nil, pu_book_len, pu_row_len, pu_journal_len, pu_writer_len, pu_pool_len, pu_parser_len, pu_state_len, pu_search_len, pu_reader_len, pu_mach_len]) rfl
  have c6 := sbs_l c7
  have d5 := sbs_r (m := 1333) (n := 400) c6 (by simp only [List.length_append, List.length_cons, List.length_nil, pu_book_len, pu_row_len, pu_journal_len, pu_writer_len, pu_pool_len, pu_parser_len, pu_state_len, pu_search_len, pu_reader_len, pu_mach_len]) rfl
  have c5 := sbs_l c6
  have d4 := sbs_r (m := 1207) (n := 274) c5 (by simp only [List.length_append, List.length_cons, List.length_nil, pu_book_len, pu_row_len, pu_journal_len, pu_writer_len, pu_pool_len, pu_parser_len, pu_state_len, pu_search_len, pu_reader_len, pu_mach_len]) rfl
  have c4 := sbs_l c5
  have d3 := sbs_r (m := 1201) (n := 268) c4 (by simp only [List.length_append, List.length_cons, List.length_nil, pu_book_len, pu_row_len, pu_journal_len, pu_writer_len, pu_pool_len, pu_parser_len, pu_state_len, pu_search_len, pu_reader_len, pu_mach_len]) rfl
  have c3 := sbs_l c4
  have d2 := sbs_r (m := 936) (n := 3) c3 (by simp only [List.length_append, List.length_cons, List.length_nil, pu_book_len, pu_row_len, pu_journal_len, pu_writer_len, pu_pool_len, pu_parser_len, pu_state_len, pu_search_len, pu_reader_len, pu_mach_len]) rfl
  have c2 := sbs_l c3
  have d1 := sbs_r (m := 934) (n := 1) c2 (by simp only [List.length_append, List.length_cons, List.length_nil, pu_book_len, pu_row_len, pu_journal_len, pu_writer_len, pu_pool_len, pu_parser_len, pu_state_len, pu_search_len, pu_reader_len, pu_mach_len]) rfl
  have c1 := sbs_l c2
  have d0 := sbs_r (m := 933) (n := 0) c1 (by simp only [List.length_append, List.length_cons, List.length_nil, pu_book_len, pu_row_len, pu_journal_len, pu_writer_len, pu_pool_len, pu_parser_len, pu_state_len, pu_search_len, pu_reader_len, pu_mach_len]) rfl
  have c0 := sbs_l c1
  exact ⟨d0, d1, d2, d3, d4, d5, d6⟩
theorem E00 : M00 1793 = im_mf (.inr (8, [.ref 13, .ref 931, .ref (1793 + 1), .ref (1793 + 2), .ref (1793 + 264), .ref (1793 + 265), .ref (1793 + 266), .ref (1793 + 267), .ref (1793 + 269), .int 0])) := (sbs_0 R00.2.2.2.2.2.2.2.2.1).2
theorem L00 : sbs (fun i => (im_sh0 ++ [])[i]?) M00 1794 ([.inl (5, 128, .inr (.inr (.inr (.inr (fun _ => none)))))]) ∧ sbs (fun i => (im_sh0 ++ [])[i]?) M00 1795 (pu_row 1795 128 128) ∧ sbs (fun i => (im_sh0 ++ [])[i]?) M00 2057 ([.inl (2, 128, .inr (.inl (fun _ => 0)))]) ∧ sbs (fun i => (im_sh0 ++ [])[i]?) M00 2058 ([.inl (1, 128, .inl (fun _ => 0))]) ∧ sbs (fun i => (im_sh0 ++ [])[i]?) M00 2059 ([.inl (1, 128, .inl (fun _ => 0))]) ∧ sbs (fun i => (im_sh0 ++ [])[i]?) M00 2060 ([pu_num 2061, pu_limb]) ∧ sbs (fun i => (im_sh0 ++ [])[i]?) M00 2062 (pu_book 2062 0 0) := by
  have c7 := sbs_c (m := 1794) R00.2.2.2.2.2.2.2.2.1 rfl
  have d6 := sbs_r (m := 2062) (n := 268) c7 (by simp only [List.length_append, List.length_cons, List.length_nil, pu_book_len, pu_row_len, pu_journal_len, pu_writer_len, pu_pool_len, pu_parser_len, pu_state_len, pu_search_len, pu_reader_len, pu_mach_len]) rfl
  have c6 := sbs_l c7
  have d5 := sbs_r (m := 2060) (n := 266) c6 (by simp only [List.length_append, List.length_cons, List.length_nil, pu_book_len, pu_row_len, pu_journal_len, pu_writer_len, pu_pool_len, pu_parser_len, pu_state_len, pu_search_len, pu_reader_len, pu_mach_len]) rfl
  have c5 := sbs_l c6
  have d4 := sbs_r (m := 2059) (n := 265) c5 (by simp only [List.length_append, List.length_cons, List.length_nil, pu_book_len, pu_row_len, pu_journal_len, pu_writer_len, pu_pool_len, pu_parser_len, pu_state_len, pu_search_len, pu_reader_len, pu_mach_len]) rfl
  have c4 := sbs_l c5
  have d3 := sbs_r (m := 2058) (n := 264) c4 (by simp only [List.length_append, List.length_cons, List.length_nil, pu_book_len, pu_row_len, pu_journal_len, pu_writer_len, pu_pool_len, pu_parser_len, pu_state_len, pu_search_len, pu_reader_len, pu_mach_len]) rfl
  have c3 := sbs_l c4
  have d2 := sbs_r (m := 2057) (n := 263) c3 (by simp only [List.length_append, List.length_cons, List.length_nil, pu_book_len, pu_row_len, pu_journal_len, pu_writer_len, pu_pool_len, pu_parser_len, pu_state_len, pu_search_len, pu_reader_len, pu_mach_len]) rfl
  have c2 := sbs_l c3
  have d1 := sbs_r (m := 1795) (n := 1) c2 (by simp only [List.length_append, List.length_cons, List.length_nil, pu_book_len, pu_row_len, pu_journal_len, pu_writer_len, pu_pool_len, pu_parser_len, pu_state_len, pu_search_len, pu_reader_len, pu_mach_len]) rfl
  have c1 := sbs_l c2
  have d0 := sbs_r (m := 1794) (n := 0) c1 (by simp only [List.length_append, List.length_cons, List.length_nil, pu_book_len, pu_row_len, pu_journal_len, pu_writer_len, pu_pool_len, pu_parser_len, pu_state_len, pu_search_len, pu_reader_len, pu_mach_len]) rfl
  have c0 := sbs_l c1
  exact ⟨d0, d1, d2, d3, d4, d5, d6⟩
theorem W3_00 : M00 3 = im_mf (.inl (2, 34, .inr (.inl pu_words))) ∧ M00 2 = im_mf (.inr (6, [.ref (2 + 1), .ref (2 + 2), .int 0, .int 0, .int 0, .int 0, .long 0, .ref (2 + 3), .int (-1), .int (-1)])) ∧ M00 7 = im_mf (.inr (10, [.ref (7 + 1), .int 0, .ref 3, .ref (7 + 2), .ref (7 + 3), .int 0, .ref (7 + 4)])) ∧ M00 13 = im_mf (.inr (5, [.ref (13 + 1), .ref (13 + 2), .ref (13 + 3), .ref (13 + 4), .ref (13 + 5), .ref (13 + 6), .ref (13 + 7), .ref (13 + 8), .int 0, .ref (13 + 9), .int 0])) ∧ cn M00 11 0 ∧ cn M00 26 0 := by
  obtain ⟨_, a2, a3, a4, a5⟩ := A00
  have b1 := sbs_c (m := 3) a2 rfl
  refine ⟨(sbs_0 b1).2, (sbs_0 a2).2, (sbs_0 a3).2, (sbs_0 a4).2, ?_, ?_⟩
  · have c := sbs_c (m := 8) a3 rfl
    exact num1_sb (sbs_r (m := 11) (n := 3) c (by simp only [List.length_append, List.length_cons, List.length_nil]) rfl)
  · have c := sbs_c (m := 24) a5 rfl
    exact num1_sb (sbs_r (m := 26) (n := 2) c (by simp only [List.length_append, List.length_cons, List.length_nil]) rfl)
theorem J00 : M00 2068 = im_mf (.inr (1, [.ref (2068 + 1), .int 0, .int 0, .int (-1), .int 0, .int 0, .int 0])) ∧ M00 2069 = im_mf (.inl (0, 16384, .inl (fun _ => 0))) := by
  have h := R00.2.2.2.2.2.2.2.2.2.1
  have h1 : sbs (fun i => (im_sh0 ++ [])[i]?) M00 2069 ([] ++ [.inl (0, 16384, .inl (fun _ => 0))]) := sbs_c h rfl
  exact ⟨(sbs_0 h).2, (sbs_0 (show sbs _ M00 2069 [.inl (0, 16384, .inl (fun _ => 0))] from h1)).2⟩
theorem kw_00 : ∀ j, j < 34 → (pu_kws.getD j 0).toInt = kwl.getD j 0 := by decide +kernel

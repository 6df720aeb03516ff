/-! shapes of cells by number -/
theorem im_sh_of {e : im_E} {a : Nat} {c : va_E} {s : im_Sh} (h : pu_H[a]? = some c) (hs : im_so c = s) : (im_sh0 ++ e)[a]? = some s := by
  refine im_sh_at ?_
  unfold im_sh0
  rw [List.getElem?_map, h, Option.map_some, hs]
theorem pu_A_len : (([] : am_H) ++ pu_plat 0 16).length = 6952 := by
  rw [List.nil_append]
  exact (pu_plat_len 0 16).trans (by decide)
theorem im_sh_m {e : im_E} {a k : Nat} {c : va_E} {s : im_Sh} (h : (pu_model 6952)[k]? = some c) (hs : im_so c = s) (ha : a = 6952 + k) : (im_sh0 ++ e)[a]? = some s := by
  refine im_sh_of (c := c) ?_ hs
  unfold pu_H
  exact pu_L (pu_Rr (n := 6952) (i := k) pu_A_len ha h)
def im_rs6952 : List Int := [-1, 6953, -1, 6954, -1, 6955, -1, -1, -1, 6956, 6957, 6958, 6959, -1, -1, -1, -1, -1, -1, -1, -1, 6960, 6961, 6962, 6963, 6964, 6965, 6966, 6967, 6968, 6969, 6970, 6971, 6972, 6973, 6974, -1, -1, -1, -1, -1, 6975, 6976, 6977, 6978, -1, -1, 6979, 6980, 6981, 6982, 6983, 6984, 6985, 6986, 6987, 6988, -1, 6989, 6990, -1, 6991, -1, 6992, 6993, -1, 6994, 6995, 6996, 6997, 6998, 6999, 7000, 7001, 7002, 7003, 7004, 7005, 7006, 7007, 7008, 7009, 7010, -1, -1, -1, 7011, 7012, 7013, -1, 7014, 7015, 7016, -1, 7017, 7018, -1, 7019, 7020, -1, -1, -1, -1, -1, -1, 7021, 7022, 7023, 7024, 7025, -1, 7026, 7027, 7028, 7029, 7030, -1, 7031, 7032, 7033, 7034, 7035, -1, 7036, -1, 7037, 7038, 7039, 7040, 7041, -1, 7042, 7043, 7044, -1, 7045, 7046, -1, 7047, 7048, 7049, 7050, 7051, -1, 7052, 7053, 7054, 7055, 7056, -1, -1, 7057, 7058, 7059, 7060, 7061, 7062, 7063, 7064, 7065, 7066, 7067, 7068, 7069, 7070, 7071, 7072, 7073, 7074, 7075, 7076, 7077, 7078, 7079, -1, -1, 7080, -1, -1, -1, -1, -1]
set_option maxRecDepth 20000 in
theorem sf_0 {e : im_E} : (im_sh0 ++ e)[0]? = some (21, 20, [1, -1, 2, 7, 13, 23, 28, 29, 30, 76, 202, 328, 414, 540, 666, 931, 1793, 2068, 2070, -1]) := im_sh_of (pu_L (pu_L (pu_Rr (n := 0) (i := 0) rfl rfl rfl))) rfl
set_option maxRecDepth 20000 in
theorem sf_1 {e : im_E} : (im_sh0 ++ e)[1]? = some (0, 16384, []) := im_sh_of (pu_L (pu_L (pu_Rr (n := 0) (i := 1) rfl rfl rfl))) rfl
set_option maxRecDepth 20000 in
theorem sf_2 {e : im_E} : (im_sh0 ++ e)[2]? = some (16, 10, [3, -1, -1, -1, -1, -1, -1, 5, -1, -1]) := im_sh_of (pu_L (pu_L (pu_Rr (n := 0) (i := 2) rfl rfl rfl))) rfl
set_option maxRecDepth 20000 in
theorem sf_3 {e : im_E} : (im_sh0 ++ e)[3]? = some (2, 34, []) := im_sh_of (pu_L (pu_L (pu_Rr (n := 0) (i := 3) rfl rfl rfl))) rfl
set_option maxRecDepth 20000 in
theorem sf_5 {e : im_E} : (im_sh0 ++ e)[5]? = some (13, 3, [-1, -1, 6]) := im_sh_of (pu_L (pu_L (pu_Rr (n := 0) (i := 5) rfl rfl rfl))) rfl
set_option maxRecDepth 20000 in
theorem sf_7 {e : im_E} : (im_sh0 ++ e)[7]? = some (20, 7, [8, -1, 3, 9, 10, -1, 11]) := im_sh_of (pu_L (pu_L (pu_Rr (n := 0) (i := 7) rfl rfl rfl))) rfl
set_option maxRecDepth 20000 in
theorem sf_8 {e : im_E} : (im_sh0 ++ e)[8]? = some (0, 16384, []) := im_sh_of (pu_L (pu_L (pu_Rr (n := 0) (i := 8) rfl rfl rfl))) rfl
set_option maxRecDepth 20000 in
theorem sf_9 {e : im_E} : (im_sh0 ++ e)[9]? = some (1, 1024, []) := im_sh_of (pu_L (pu_L (pu_Rr (n := 0) (i := 9) rfl rfl rfl))) rfl
set_option maxRecDepth 20000 in
theorem sf_10 {e : im_E} : (im_sh0 ++ e)[10]? = some (1, 1024, []) := im_sh_of (pu_L (pu_L (pu_Rr (n := 0) (i := 10) rfl rfl rfl))) rfl
set_option maxRecDepth 20000 in
theorem sf_11 {e : im_E} : (im_sh0 ++ e)[11]? = some (13, 3, [-1, -1, 12]) := im_sh_of (pu_L (pu_L (pu_Rr (n := 0) (i := 11) rfl rfl rfl))) rfl
set_option maxRecDepth 20000 in
theorem sf_13 {e : im_E} : (im_sh0 ++ e)[13]? = some (15, 11, [14, 15, 16, 17, 18, 19, 20, 21, -1, 22, -1]) := im_sh_of (pu_L (pu_L (pu_Rr (n := 0) (i := 13) rfl rfl rfl))) rfl
set_option maxRecDepth 20000 in
theorem sf_14 {e : im_E} : (im_sh0 ++ e)[14]? = some (1, 5000, []) := im_sh_of (pu_L (pu_L (pu_Rr (n := 0) (i := 14) rfl rfl rfl))) rfl
set_option maxRecDepth 20000 in
theorem sf_15 {e : im_E} : (im_sh0 ++ e)[15]? = some (1, 5000, []) := im_sh_of (pu_L (pu_L (pu_Rr (n := 0) (i := 15) rfl rfl rfl))) rfl
set_option maxRecDepth 20000 in
theorem sf_16 {e : im_E} : (im_sh0 ++ e)[16]? = some (1, 5000, []) := im_sh_of (pu_L (pu_L (pu_Rr (n := 0) (i := 16) rfl rfl rfl))) rfl
set_option maxRecDepth 20000 in
theorem sf_17 {e : im_E} : (im_sh0 ++ e)[17]? = some (1, 5000, []) := im_sh_of (pu_L (pu_L (pu_Rr (n := 0) (i := 17) rfl rfl rfl))) rfl
set_option maxRecDepth 20000 in
theorem sf_18 {e : im_E} : (im_sh0 ++ e)[18]? = some (1, 5000, []) := im_sh_of (pu_L (pu_L (pu_Rr (n := 0) (i := 18) rfl rfl rfl))) rfl
set_option maxRecDepth 20000 in
theorem sf_19 {e : im_E} : (im_sh0 ++ e)[19]? = some (2, 5000, []) := im_sh_of (pu_L (pu_L (pu_Rr (n := 0) (i := 19) rfl rfl rfl))) rfl
set_option maxRecDepth 20000 in
theorem sf_20 {e : im_E} : (im_sh0 ++ e)[20]? = some (2, 5000, []) := im_sh_of (pu_L (pu_L (pu_Rr (n := 0) (i := 20) rfl rfl rfl))) rfl
set_option maxRecDepth 20000 in
theorem sf_21 {e : im_E} : (im_sh0 ++ e)[21]? = some (2, 5000, []) := im_sh_of (pu_L (pu_L (pu_Rr (n := 0) (i := 21) rfl rfl rfl))) rfl
set_option maxRecDepth 20000 in
theorem sf_22 {e : im_E} : (im_sh0 ++ e)[22]? = some (1, 32836, []) := im_sh_of (pu_L (pu_L (pu_Rr (n := 0) (i := 22) rfl rfl rfl))) rfl
set_option maxRecDepth 20000 in
theorem sf_23 {e : im_E} : (im_sh0 ++ e)[23]? = some (14, 8, [13, 2, 24, 25, -1, -1, 26, -1]) := im_sh_of (pu_L (pu_L (pu_Rr (n := 0) (i := 23) rfl rfl rfl))) rfl
set_option maxRecDepth 20000 in
theorem sf_24 {e : im_E} : (im_sh0 ++ e)[24]? = some (1, 1024, []) := im_sh_of (pu_L (pu_L (pu_Rr (n := 0) (i := 24) rfl rfl rfl))) rfl
set_option maxRecDepth 20000 in
theorem sf_25 {e : im_E} : (im_sh0 ++ e)[25]? = some (1, 1024, []) := im_sh_of (pu_L (pu_L (pu_Rr (n := 0) (i := 25) rfl rfl rfl))) rfl
set_option maxRecDepth 20000 in
theorem sf_26 {e : im_E} : (im_sh0 ++ e)[26]? = some (13, 3, [-1, -1, 27]) := im_sh_of (pu_L (pu_L (pu_Rr (n := 0) (i := 26) rfl rfl rfl))) rfl
set_option maxRecDepth 20000 in
theorem sf_28 {e : im_E} : (im_sh0 ++ e)[28]? = some (1, 16, []) := im_sh_of (pu_L (pu_L (pu_Rr (n := 0) (i := 28) rfl rfl rfl))) rfl
set_option maxRecDepth 20000 in
theorem sf_29 {e : im_E} : (im_sh0 ++ e)[29]? = some (5, 16, []) := im_sh_of (pu_L (pu_L (pu_Rr (n := 0) (i := 29) rfl rfl rfl))) rfl
set_option maxRecDepth 20000 in
theorem sf_30 {e : im_E} : (im_sh0 ++ e)[30]? = some (10, 5, [33, 34, 35, 31, -1]) := im_sh_of (pu_L (pu_L (pu_Rr (n := 0) (i := 30) rfl rfl (pu_Cc (i := 29) rfl (pu_Rr (n := 27) (i := 2) (pu_platA_len 0) rfl (pu_Cc (i := 1) rfl (pu_Cc (i := 0) rfl (pu_L (pu_L (pu_L (pu_L (pu_L (pu_L (pu_L (pu_L (pu_L (pu_L (pu_L (pu_Rr (n := 0) (i := 0) (by simp only [List.length_append, List.length_cons, List.length_nil, pu_book_len, pu_row_len, pu_journal_len, pu_writer_len, pu_pool_len, pu_parser_len, pu_state_len, pu_search_len, pu_reader_len, pu_mach_len]) rfl rfl))))))))))))))))))) rfl
set_option maxRecDepth 20000 in
theorem sf_76 {e : im_E} : (im_sh0 ++ e)[76]? = some (10, 5, [79, 80, 81, 77, -1]) := im_sh_of (pu_L (pu_L (pu_Rr (n := 0) (i := 76) rfl rfl (pu_Cc (i := 75) rfl (pu_Rr (n := 27) (i := 48) (pu_platA_len 0) rfl (pu_Cc (i := 47) rfl (pu_Cc (i := 46) rfl (pu_L (pu_L (pu_L (pu_L (pu_L (pu_L (pu_L (pu_L (pu_L (pu_L (pu_Rr (n := 46) (i := 0) (by simp only [List.length_append, List.length_cons, List.length_nil, pu_book_len, pu_row_len, pu_journal_len, pu_writer_len, pu_pool_len, pu_parser_len, pu_state_len, pu_search_len, pu_reader_len, pu_mach_len]) rfl rfl)))))))))))))))))) rfl
set_option maxRecDepth 20000 in
theorem sf_202 {e : im_E} : (im_sh0 ++ e)[202]? = some (10, 5, [205, 206, 207, 203, -1]) := im_sh_of (pu_L (pu_L (pu_Rr (n := 0) (i := 202) rfl rfl (pu_Cc (i := 201) rfl (pu_Rr (n := 27) (i := 174) (pu_platA_len 0) rfl (pu_Cc (i := 173) rfl (pu_Cc (i := 172) rfl (pu_L (pu_L (pu_L (pu_L (pu_L (pu_L (pu_L (pu_L (pu_L (pu_Rr (n := 172) (i := 0) (by simp only [List.length_append, List.length_cons, List.length_nil, pu_book_len, pu_row_len, pu_journal_len, pu_writer_len, pu_pool_len, pu_parser_len, pu_state_len, pu_search_len, pu_reader_len, pu_mach_len]) rfl rfl))))))))))))))))) rfl
set_option maxRecDepth 20000 in
theorem sf_328 {e : im_E} : (im_sh0 ++ e)[328]? = some (17, 6, [329, 330, 331, 332, 333, -1]) := im_sh_of (pu_L (pu_L (pu_Rr (n := 0) (i := 328) rfl rfl (pu_Cc (i := 327) rfl (pu_Rr (n := 27) (i := 300) (pu_platA_len 0) rfl (pu_Cc (i := 299) rfl (pu_Cc (i := 298) rfl (pu_L (pu_L (pu_L (pu_L (pu_L (pu_L (pu_L (pu_L (pu_Rr (n := 298) (i := 0) (by simp only [List.length_append, List.length_cons, List.length_nil, pu_book_len, pu_row_len, pu_journal_len, pu_writer_len, pu_pool_len, pu_parser_len, pu_state_len, pu_search_len, pu_reader_len, pu_mach_len]) rfl rfl)))))))))))))))) rfl
set_option maxRecDepth 20000 in
theorem sf_414 {e : im_E} : (im_sh0 ++ e)[414]? = some (17, 6, [415, 416, 417, 418, 419, -1]) := im_sh_of (pu_L (pu_L (pu_Rr (n := 0) (i := 414) rfl rfl (pu_Cc (i := 413) rfl (pu_Rr (n := 27) (i := 386) (pu_platA_len 0) rfl (pu_Cc (i := 385) rfl (pu_Cc (i := 384) rfl (pu_L (pu_L (pu_L (pu_L (pu_L (pu_L (pu_L (pu_Rr (n := 384) (i := 0) (by simp only [List.length_append, List.length_cons, List.length_nil, pu_book_len, pu_row_len, pu_journal_len, pu_writer_len, pu_pool_len, pu_parser_len, pu_state_len, pu_search_len, pu_reader_len, pu_mach_len]) rfl rfl))))))))))))))) rfl
set_option maxRecDepth 20000 in
theorem sf_415 {e : im_E} : (im_sh0 ++ e)[415]? = some (1, 60, []) := im_sh_of (pu_L (pu_L (pu_Rr (n := 0) (i := 415) rfl rfl (pu_Cc (i := 414) rfl (pu_Rr (n := 27) (i := 387) (pu_platA_len 0) rfl (pu_Cc (i := 386) rfl (pu_Cc (i := 385) rfl (pu_L (pu_L (pu_L (pu_L (pu_L (pu_L (pu_L (pu_Rr (n := 384) (i := 1) (by simp only [List.length_append, List.length_cons, List.length_nil, pu_book_len, pu_row_len, pu_journal_len, pu_writer_len, pu_pool_len, pu_parser_len, pu_state_len, pu_search_len, pu_reader_len, pu_mach_len]) rfl rfl))))))))))))))) rfl
set_option maxRecDepth 20000 in
theorem sf_419 {e : im_E} : (im_sh0 ++ e)[419]? = some (4, 60, []) := im_sh_of (pu_L (pu_L (pu_Rr (n := 0) (i := 419) rfl rfl (pu_Cc (i := 418) rfl (pu_Rr (n := 27) (i := 391) (pu_platA_len 0) rfl (pu_Cc (i := 390) rfl (pu_Cc (i := 389) rfl (pu_L (pu_L (pu_L (pu_L (pu_L (pu_L (pu_L (pu_Rr (n := 384) (i := 5) (by simp only [List.length_append, List.length_cons, List.length_nil, pu_book_len, pu_row_len, pu_journal_len, pu_writer_len, pu_pool_len, pu_parser_len, pu_state_len, pu_search_len, pu_reader_len, pu_mach_len]) rfl rfl))))))))))))))) rfl
set_option maxRecDepth 20000 in
theorem sf_540 {e : im_E} : (im_sh0 ++ e)[540]? = some (17, 6, [541, 542, 543, 544, 545, -1]) := im_sh_of (pu_L (pu_L (pu_Rr (n := 0) (i := 540) rfl rfl (pu_Cc (i := 539) rfl (pu_Rr (n := 27) (i := 512) (pu_platA_len 0) rfl (pu_Cc (i := 511) rfl (pu_Cc (i := 510) rfl (pu_L (pu_L (pu_L (pu_L (pu_L (pu_L (pu_Rr (n := 510) (i := 0) (by simp only [List.length_append, List.length_cons, List.length_nil, pu_book_len, pu_row_len, pu_journal_len, pu_writer_len, pu_pool_len, pu_parser_len, pu_state_len, pu_search_len, pu_reader_len, pu_mach_len]) rfl rfl)))))))))))))) rfl
set_option maxRecDepth 20000 in
theorem sf_541 {e : im_E} : (im_sh0 ++ e)[541]? = some (1, 60, []) := im_sh_of (pu_L (pu_L (pu_Rr (n := 0) (i := 541) rfl rfl (pu_Cc (i := 540) rfl (pu_Rr (n := 27) (i := 513) (pu_platA_len 0) rfl (pu_Cc (i := 512) rfl (pu_Cc (i := 511) rfl (pu_L (pu_L (pu_L (pu_L (pu_L (pu_L (pu_Rr (n := 510) (i := 1) (by simp only [List.length_append, List.length_cons, List.length_nil, pu_book_len, pu_row_len, pu_journal_len, pu_writer_len, pu_pool_len, pu_parser_len, pu_state_len, pu_search_len, pu_reader_len, pu_mach_len]) rfl rfl)))))))))))))) rfl
set_option maxRecDepth 20000 in
theorem sf_545 {e : im_E} : (im_sh0 ++ e)[545]? = some (4, 60, []) := im_sh_of (pu_L (pu_L (pu_Rr (n := 0) (i := 545) rfl rfl (pu_Cc (i := 544) rfl (pu_Rr (n := 27) (i := 517) (pu_platA_len 0) rfl (pu_Cc (i := 516) rfl (pu_Cc (i := 515) rfl (pu_L (pu_L (pu_L (pu_L (pu_L (pu_L (pu_Rr (n := 510) (i := 5) (by simp only [List.length_append, List.length_cons, List.length_nil, pu_book_len, pu_row_len, pu_journal_len, pu_writer_len, pu_pool_len, pu_parser_len, pu_state_len, pu_search_len, pu_reader_len, pu_mach_len]) rfl rfl)))))))))))))) rfl
set_option maxRecDepth 20000 in
theorem sf_666 {e : im_E} : (im_sh0 ++ e)[666]? = some (19, 7, [667, 753, 839, 925, -1, -1, -1]) := im_sh_of (pu_L (pu_L (pu_Rr (n := 0) (i := 666) rfl rfl (pu_Cc (i := 665) rfl (pu_Rr (n := 27) (i := 638) (pu_platA_len 0) rfl (pu_Cc (i := 637) rfl (pu_Cc (i := 636) rfl (pu_L (pu_L (pu_L (pu_L (pu_L (pu_Rr (n := 636) (i := 0) (by simp only [List.length_append, List.length_cons, List.length_nil, pu_book_len, pu_row_len, pu_journal_len, pu_writer_len, pu_pool_len, pu_parser_len, pu_state_len, pu_search_len, pu_reader_len, pu_mach_len]) rfl rfl))))))))))))) rfl
set_option maxRecDepth 20000 in
theorem sf_931 {e : im_E} : (im_sh0 ++ e)[931]? = some (12, 14, [13, 932, 933, 934, -1, -1, -1, 1207, 1333, 1459, -1, -1, -1, -1]) := im_sh_of (pu_L (pu_L (pu_Rr (n := 0) (i := 931) rfl rfl (pu_Cc (i := 930) rfl (pu_Rr (n := 27) (i := 903) (pu_platA_len 0) rfl (pu_Cc (i := 902) rfl (pu_Cc (i := 901) rfl (pu_L (pu_L (pu_L (pu_L (pu_Rr (n := 901) (i := 0) (by simp only [List.length_append, List.length_cons, List.length_nil, pu_book_len, pu_row_len, pu_journal_len, pu_writer_len, pu_pool_len, pu_parser_len, pu_state_len, pu_search_len, pu_reader_len, pu_mach_len]) rfl rfl)))))))))))) rfl
set_option maxRecDepth 20000 in
theorem sf_932 {e : im_E} : (im_sh0 ++ e)[932]? = some (4, 104, []) := im_sh_of (pu_L (pu_L (pu_Rr (n := 0) (i := 932) rfl rfl (pu_Cc (i := 931) rfl (pu_Rr (n := 27) (i := 904) (pu_platA_len 0) rfl (pu_Cc (i := 903) rfl (pu_Cc (i := 902) rfl (pu_L (pu_L (pu_L (pu_L (pu_Rr (n := 901) (i := 1) (by simp only [List.length_append, List.length_cons, List.length_nil, pu_book_len, pu_row_len, pu_journal_len, pu_writer_len, pu_pool_len, pu_parser_len, pu_state_len, pu_search_len, pu_reader_len, pu_mach_len]) rfl rfl)))))))))))) rfl
set_option maxRecDepth 20000 in
theorem sf_934 {e : im_E} : (im_sh0 ++ e)[934]? = some (13, 3, [-1, -1, 935]) := im_sh_of (pu_L (pu_L (pu_Rr (n := 0) (i := 934) rfl rfl (pu_Cc (i := 933) rfl (pu_Rr (n := 27) (i := 906) (pu_platA_len 0) rfl (pu_Cc (i := 905) rfl (pu_Cc (i := 904) rfl (pu_L (pu_L (pu_L (pu_L (pu_Rr (n := 901) (i := 3) (by simp only [List.length_append, List.length_cons, List.length_nil, pu_book_len, pu_row_len, pu_journal_len, pu_writer_len, pu_pool_len, pu_parser_len, pu_state_len, pu_search_len, pu_reader_len, pu_mach_len]) rfl rfl)))))))))))) rfl
set_option maxRecDepth 20000 in
theorem sf_1207 {e : im_E} : (im_sh0 ++ e)[1207]? = some (10, 5, [1210, 1211, 1212, 1208, -1]) := im_sh_of (pu_L (pu_L (pu_Rr (n := 0) (i := 1207) rfl rfl (pu_Cc (i := 1206) rfl (pu_Rr (n := 27) (i := 1179) (pu_platA_len 0) rfl (pu_Cc (i := 1178) rfl (pu_Cc (i := 1177) rfl (pu_L (pu_L (pu_L (pu_L (pu_Rr (n := 901) (i := 276) (by simp only [List.length_append, List.length_cons, List.length_nil, pu_book_len, pu_row_len, pu_journal_len, pu_writer_len, pu_pool_len, pu_parser_len, pu_state_len, pu_search_len, pu_reader_len, pu_mach_len]) rfl rfl)))))))))))) rfl
set_option maxRecDepth 20000 in
theorem sf_1333 {e : im_E} : (im_sh0 ++ e)[1333]? = some (17, 6, [1334, 1335, 1336, 1337, 1338, -1]) := im_sh_of (pu_L (pu_L (pu_Rr (n := 0) (i := 1333) rfl rfl (pu_Cc (i := 1332) rfl (pu_Rr (n := 27) (i := 1305) (pu_platA_len 0) rfl (pu_Cc (i := 1304) rfl (pu_Cc (i := 1303) rfl (pu_L (pu_L (pu_L (pu_L (pu_Rr (n := 901) (i := 402) (by simp only [List.length_append, List.length_cons, List.length_nil, pu_book_len, pu_row_len, pu_journal_len, pu_writer_len, pu_pool_len, pu_parser_len, pu_state_len, pu_search_len, pu_reader_len, pu_mach_len]) rfl rfl)))))))))))) rfl
set_option maxRecDepth 20000 in
theorem sf_1459 {e : im_E} : (im_sh0 ++ e)[1459]? = some (17, 6, [1460, 1461, 1462, 1463, 1464, -1]) := im_sh_of (pu_L (pu_L (pu_Rr (n := 0) (i := 1459) rfl rfl (pu_Cc (i := 1458) rfl (pu_Rr (n := 27) (i := 1431) (pu_platA_len 0) rfl (pu_Cc (i := 1430) rfl (pu_Cc (i := 1429) rfl (pu_L (pu_L (pu_L (pu_L (pu_Rr (n := 901) (i := 528) (by simp only [List.length_append, List.length_cons, List.length_nil, pu_book_len, pu_row_len, pu_journal_len, pu_writer_len, pu_pool_len, pu_parser_len, pu_state_len, pu_search_len, pu_reader_len, pu_mach_len]) rfl rfl)))))))))))) rfl
set_option maxRecDepth 20000 in
theorem sf_1460 {e : im_E} : (im_sh0 ++ e)[1460]? = some (1, 60, []) := im_sh_of (pu_L (pu_L (pu_Rr (n := 0) (i := 1460) rfl rfl (pu_Cc (i := 1459) rfl (pu_Rr (n := 27) (i := 1432) (pu_platA_len 0) rfl (pu_Cc (i := 1431) rfl (pu_Cc (i := 1430) rfl (pu_L (pu_L (pu_L (pu_L (pu_Rr (n := 901) (i := 529) (by simp only [List.length_append, List.length_cons, List.length_nil, pu_book_len, pu_row_len, pu_journal_len, pu_writer_len, pu_pool_len, pu_parser_len, pu_state_len, pu_search_len, pu_reader_len, pu_mach_len]) rfl rfl)))))))))))) rfl
set_option maxRecDepth 20000 in
theorem sf_1793 {e : im_E} : (im_sh0 ++ e)[1793]? = some (18, 10, [13, 931, 1794, 1795, 2057, 2058, 2059, 2060, -1, -1]) := im_sh_of (pu_L (pu_L (pu_Rr (n := 0) (i := 1793) rfl rfl (pu_Cc (i := 1792) rfl (pu_Rr (n := 27) (i := 1765) (pu_platA_len 0) rfl (pu_Cc (i := 1764) rfl (pu_Cc (i := 1763) rfl (pu_L (pu_L (pu_L (pu_Rr (n := 1763) (i := 0) (by simp only [List.length_append, List.length_cons, List.length_nil, pu_book_len, pu_row_len, pu_journal_len, pu_writer_len, pu_pool_len, pu_parser_len, pu_state_len, pu_search_len, pu_reader_len, pu_mach_len]) rfl rfl))))))))))) rfl
set_option maxRecDepth 20000 in
theorem sf_1794 {e : im_E} : (im_sh0 ++ e)[1794]? = some (5, 128, []) := im_sh_of (pu_L (pu_L (pu_Rr (n := 0) (i := 1794) rfl rfl (pu_Cc (i := 1793) rfl (pu_Rr (n := 27) (i := 1766) (pu_platA_len 0) rfl (pu_Cc (i := 1765) rfl (pu_Cc (i := 1764) rfl (pu_L (pu_L (pu_L (pu_Rr (n := 1763) (i := 1) (by simp only [List.length_append, List.length_cons, List.length_nil, pu_book_len, pu_row_len, pu_journal_len, pu_writer_len, pu_pool_len, pu_parser_len, pu_state_len, pu_search_len, pu_reader_len, pu_mach_len]) rfl rfl))))))))))) rfl
set_option maxRecDepth 20000 in
theorem sf_1795 {e : im_E} : (im_sh0 ++ e)[1795]? = some (17, 6, [1796, 1797, 1798, 1799, 1800, -1]) := im_sh_of (pu_L (pu_L (pu_Rr (n := 0) (i := 1795) rfl rfl (pu_Cc (i := 1794) rfl (pu_Rr (n := 27) (i := 1767) (pu_platA_len 0) rfl (pu_Cc (i := 1766) rfl (pu_Cc (i := 1765) rfl (pu_L (pu_L (pu_L (pu_Rr (n := 1763) (i := 2) (by simp only [List.length_append, List.length_cons, List.length_nil, pu_book_len, pu_row_len, pu_journal_len, pu_writer_len, pu_pool_len, pu_parser_len, pu_state_len, pu_search_len, pu_reader_len, pu_mach_len]) rfl rfl))))))))))) rfl
set_option maxRecDepth 20000 in
theorem sf_1796 {e : im_E} : (im_sh0 ++ e)[1796]? = some (1, 128, []) := im_sh_of (pu_L (pu_L (pu_Rr (n := 0) (i := 1796) rfl rfl (pu_Cc (i := 1795) rfl (pu_Rr (n := 27) (i := 1768) (pu_platA_len 0) rfl (pu_Cc (i := 1767) rfl (pu_Cc (i := 1766) rfl (pu_L (pu_L (pu_L (pu_Rr (n := 1763) (i := 3) (by simp only [List.length_append, List.length_cons, List.length_nil, pu_book_len, pu_row_len, pu_journal_len, pu_writer_len, pu_pool_len, pu_parser_len, pu_state_len, pu_search_len, pu_reader_len, pu_mach_len]) rfl rfl))))))))))) rfl
set_option maxRecDepth 20000 in
theorem sf_1797 {e : im_E} : (im_sh0 ++ e)[1797]? = some (2, 128, []) := im_sh_of (pu_L (pu_L (pu_Rr (n := 0) (i := 1797) rfl rfl (pu_Cc (i := 1796) rfl (pu_Rr (n := 27) (i := 1769) (pu_platA_len 0) rfl (pu_Cc (i := 1768) rfl (pu_Cc (i := 1767) rfl (pu_L (pu_L (pu_L (pu_Rr (n := 1763) (i := 4) (by simp only [List.length_append, List.length_cons, List.length_nil, pu_book_len, pu_row_len, pu_journal_len, pu_writer_len, pu_pool_len, pu_parser_len, pu_state_len, pu_search_len, pu_reader_len, pu_mach_len]) rfl rfl))))))))))) rfl
set_option maxRecDepth 20000 in
theorem sf_1798 {e : im_E} : (im_sh0 ++ e)[1798]? = some (2, 128, []) := im_sh_of (pu_L (pu_L (pu_Rr (n := 0) (i := 1798) rfl rfl (pu_Cc (i := 1797) rfl (pu_Rr (n := 27) (i := 1770) (pu_platA_len 0) rfl (pu_Cc (i := 1769) rfl (pu_Cc (i := 1768) rfl (pu_L (pu_L (pu_L (pu_Rr (n := 1763) (i := 5) (by simp only [List.length_append, List.length_cons, List.length_nil, pu_book_len, pu_row_len, pu_journal_len, pu_writer_len, pu_pool_len, pu_parser_len, pu_state_len, pu_search_len, pu_reader_len, pu_mach_len]) rfl rfl))))))))))) rfl
set_option maxRecDepth 20000 in
theorem sf_1799 {e : im_E} : (im_sh0 ++ e)[1799]? = some (2, 128, []) := im_sh_of (pu_L (pu_L (pu_Rr (n := 0) (i := 1799) rfl rfl (pu_Cc (i := 1798) rfl (pu_Rr (n := 27) (i := 1771) (pu_platA_len 0) rfl (pu_Cc (i := 1770) rfl (pu_Cc (i := 1769) rfl (pu_L (pu_L (pu_L (pu_Rr (n := 1763) (i := 6) (by simp only [List.length_append, List.length_cons, List.length_nil, pu_book_len, pu_row_len, pu_journal_len, pu_writer_len, pu_pool_len, pu_parser_len, pu_state_len, pu_search_len, pu_reader_len, pu_mach_len]) rfl rfl))))))))))) rfl
set_option maxRecDepth 20000 in
theorem sf_1800 {e : im_E} : (im_sh0 ++ e)[1800]? = some (4, 128, []) := im_sh_of (pu_L (pu_L (pu_Rr (n := 0) (i := 1800) rfl rfl (pu_Cc (i := 1799) rfl (pu_Rr (n := 27) (i := 1772) (pu_platA_len 0) rfl (pu_Cc (i := 1771) rfl (pu_Cc (i := 1770) rfl (pu_L (pu_L (pu_L (pu_Rr (n := 1763) (i := 7) (by simp only [List.length_append, List.length_cons, List.length_nil, pu_book_len, pu_row_len, pu_journal_len, pu_writer_len, pu_pool_len, pu_parser_len, pu_state_len, pu_search_len, pu_reader_len, pu_mach_len]) rfl rfl))))))))))) rfl
set_option maxRecDepth 20000 in
theorem sf_2057 {e : im_E} : (im_sh0 ++ e)[2057]? = some (2, 128, []) := im_sh_of (pu_L (pu_L (pu_Rr (n := 0) (i := 2057) rfl rfl (pu_Cc (i := 2056) rfl (pu_Rr (n := 27) (i := 2029) (pu_platA_len 0) rfl (pu_Cc (i := 2028) rfl (pu_Cc (i := 2027) rfl (pu_L (pu_L (pu_L (pu_Rr (n := 1763) (i := 264) (by simp only [List.length_append, List.length_cons, List.length_nil, pu_book_len, pu_row_len, pu_journal_len, pu_writer_len, pu_pool_len, pu_parser_len, pu_state_len, pu_search_len, pu_reader_len, pu_mach_len]) rfl rfl))))))))))) rfl
set_option maxRecDepth 20000 in
theorem sf_2058 {e : im_E} : (im_sh0 ++ e)[2058]? = some (1, 128, []) := im_sh_of (pu_L (pu_L (pu_Rr (n := 0) (i := 2058) rfl rfl (pu_Cc (i := 2057) rfl (pu_Rr (n := 27) (i := 2030) (pu_platA_len 0) rfl (pu_Cc (i := 2029) rfl (pu_Cc (i := 2028) rfl (pu_L (pu_L (pu_L (pu_Rr (n := 1763) (i := 265) (by simp only [List.length_append, List.length_cons, List.length_nil, pu_book_len, pu_row_len, pu_journal_len, pu_writer_len, pu_pool_len, pu_parser_len, pu_state_len, pu_search_len, pu_reader_len, pu_mach_len]) rfl rfl))))))))))) rfl
set_option maxRecDepth 20000 in
theorem sf_2059 {e : im_E} : (im_sh0 ++ e)[2059]? = some (1, 128, []) := im_sh_of (pu_L (pu_L (pu_Rr (n := 0) (i := 2059) rfl rfl (pu_Cc (i := 2058) rfl (pu_Rr (n := 27) (i := 2031) (pu_platA_len 0) rfl (pu_Cc (i := 2030) rfl (pu_Cc (i := 2029) rfl (pu_L (pu_L (pu_L (pu_Rr (n := 1763) (i := 266) (by simp only [List.length_append, List.length_cons, List.length_nil, pu_book_len, pu_row_len, pu_journal_len, pu_writer_len, pu_pool_len, pu_parser_len, pu_state_len, pu_search_len, pu_reader_len, pu_mach_len]) rfl rfl))))))))))) rfl
set_option maxRecDepth 20000 in
theorem sf_2060 {e : im_E} : (im_sh0 ++ e)[2060]? = some (13, 3, [-1, -1, 2061]) := im_sh_of (pu_L (pu_L (pu_Rr (n := 0) (i := 2060) rfl rfl (pu_Cc (i := 2059) rfl (pu_Rr (n := 27) (i := 2032) (pu_platA_len 0) rfl (pu_Cc (i := 2031) rfl (pu_Cc (i := 2030) rfl (pu_L (pu_L (pu_L (pu_Rr (n := 1763) (i := 267) (by simp only [List.length_append, List.length_cons, List.length_nil, pu_book_len, pu_row_len, pu_journal_len, pu_writer_len, pu_pool_len, pu_parser_len, pu_state_len, pu_search_len, pu_reader_len, pu_mach_len]) rfl rfl))))))))))) rfl
set_option maxRecDepth 20000 in
theorem sf_2068 {e : im_E} : (im_sh0 ++ e)[2068]? = some (11, 7, [2069, -1, -1, -1, -1, -1, -1]) := im_sh_of (pu_L (pu_L (pu_Rr (n := 0) (i := 2068) rfl rfl (pu_Cc (i := 2067) rfl (pu_Rr (n := 27) (i := 2040) (pu_platA_len 0) rfl (pu_Cc (i := 2039) rfl (pu_Cc (i := 2038) rfl (pu_L (pu_L (pu_Rr (n := 2038) (i := 0) (by simp only [List.length_append, List.length_cons, List.length_nil, pu_book_len, pu_row_len, pu_journal_len, pu_writer_len, pu_pool_len, pu_parser_len, pu_state_len, pu_search_len, pu_reader_len, pu_mach_len]) rfl rfl)))))))))) rfl
set_option maxRecDepth 20000 in
theorem sf_2069 {e : im_E} : (im_sh0 ++ e)[2069]? = some (0, 16384, []) := im_sh_of (pu_L (pu_L (pu_Rr (n := 0) (i := 2069) rfl rfl (pu_Cc (i := 2068) rfl (pu_Rr (n := 27) (i := 2041) (pu_platA_len 0) rfl (pu_Cc (i := 2040) rfl (pu_Cc (i := 2039) rfl (pu_L (pu_L (pu_Rr (n := 2038) (i := 1) (by simp only [List.length_append, List.length_cons, List.length_nil, pu_book_len, pu_row_len, pu_journal_len, pu_writer_len, pu_pool_len, pu_parser_len, pu_state_len, pu_search_len, pu_reader_len, pu_mach_len]) rfl rfl)))))))))) rfl
set_option maxRecDepth 20000 in
theorem sf_2070 {e : im_E} : (im_sh0 ++ e)[2070]? = some (13, 3, [-1, -1, 2071]) := im_sh_of (pu_L (pu_L (pu_Rr (n := 0) (i := 2070) rfl rfl (pu_Cc (i := 2069) rfl (pu_Rr (n := 27) (i := 2042) (pu_platA_len 0) rfl (pu_Cc (i := 2041) rfl (pu_Cc (i := 2040) rfl (pu_L (pu_Rr (n := 2040) (i := 0) (by simp only [List.length_append, List.length_cons, List.length_nil, pu_book_len, pu_row_len, pu_journal_len, pu_writer_len, pu_pool_len, pu_parser_len, pu_state_len, pu_search_len, pu_reader_len, pu_mach_len]) rfl rfl))))))))) rfl
set_option maxRecDepth 20000 in
theorem sf_6952 {e : im_E} : (im_sh0 ++ e)[6952]? = some (22, 182, im_rs6952) := im_sh_m (k := 0) rfl rfl rfl
set_option maxRecDepth 20000 in
theorem sf_6953 {e : im_E} : (im_sh0 ++ e)[6953]? = some (1, 16384, []) := im_sh_m (k := 1) rfl rfl rfl
set_option maxRecDepth 20000 in
theorem sf_6954 {e : im_E} : (im_sh0 ++ e)[6954]? = some (1, 16384, []) := im_sh_m (k := 2) rfl rfl rfl
set_option maxRecDepth 20000 in
theorem sf_6955 {e : im_E} : (im_sh0 ++ e)[6955]? = some (1, 1100000, []) := im_sh_m (k := 3) rfl rfl rfl
set_option maxRecDepth 20000 in
theorem sf_6956 {e : im_E} : (im_sh0 ++ e)[6956]? = some (2, 72, []) := im_sh_m (k := 4) rfl rfl rfl
set_option maxRecDepth 20000 in
theorem sf_6957 {e : im_E} : (im_sh0 ++ e)[6957]? = some (2, 72, []) := im_sh_m (k := 5) rfl rfl rfl
set_option maxRecDepth 20000 in
theorem sf_6958 {e : im_E} : (im_sh0 ++ e)[6958]? = some (2, 72, []) := im_sh_m (k := 6) rfl rfl rfl
set_option maxRecDepth 20000 in
theorem sf_6959 {e : im_E} : (im_sh0 ++ e)[6959]? = some (1, 16384, []) := im_sh_m (k := 7) rfl rfl rfl
set_option maxRecDepth 20000 in
theorem sf_6960 {e : im_E} : (im_sh0 ++ e)[6960]? = some (1, 5100, []) := im_sh_m (k := 8) rfl rfl rfl
set_option maxRecDepth 20000 in
theorem sf_6961 {e : im_E} : (im_sh0 ++ e)[6961]? = some (2, 5100, []) := im_sh_m (k := 9) rfl rfl rfl
set_option maxRecDepth 20000 in
theorem sf_6962 {e : im_E} : (im_sh0 ++ e)[6962]? = some (2, 5100, []) := im_sh_m (k := 10) rfl rfl rfl
set_option maxRecDepth 20000 in
theorem sf_6963 {e : im_E} : (im_sh0 ++ e)[6963]? = some (2, 5100, []) := im_sh_m (k := 11) rfl rfl rfl
set_option maxRecDepth 20000 in
theorem sf_6964 {e : im_E} : (im_sh0 ++ e)[6964]? = some (1, 5100, []) := im_sh_m (k := 12) rfl rfl rfl
set_option maxRecDepth 20000 in
theorem sf_6965 {e : im_E} : (im_sh0 ++ e)[6965]? = some (1, 5100, []) := im_sh_m (k := 13) rfl rfl rfl
set_option maxRecDepth 20000 in
theorem sf_6966 {e : im_E} : (im_sh0 ++ e)[6966]? = some (1, 5100, []) := im_sh_m (k := 14) rfl rfl rfl
set_option maxRecDepth 20000 in
theorem sf_6967 {e : im_E} : (im_sh0 ++ e)[6967]? = some (1, 5100, []) := im_sh_m (k := 15) rfl rfl rfl
set_option maxRecDepth 20000 in
theorem sf_6968 {e : im_E} : (im_sh0 ++ e)[6968]? = some (1, 5100, []) := im_sh_m (k := 16) rfl rfl rfl
set_option maxRecDepth 20000 in
theorem sf_6969 {e : im_E} : (im_sh0 ++ e)[6969]? = some (2, 5100, []) := im_sh_m (k := 17) rfl rfl rfl
set_option maxRecDepth 20000 in
theorem sf_6970 {e : im_E} : (im_sh0 ++ e)[6970]? = some (3, 5100, []) := im_sh_m (k := 18) rfl rfl rfl
set_option maxRecDepth 20000 in
theorem sf_6971 {e : im_E} : (im_sh0 ++ e)[6971]? = some (1, 5100, []) := im_sh_m (k := 19) rfl rfl rfl
set_option maxRecDepth 20000 in
theorem sf_6972 {e : im_E} : (im_sh0 ++ e)[6972]? = some (1, 5100, []) := im_sh_m (k := 20) rfl rfl rfl
set_option maxRecDepth 20000 in
theorem sf_6973 {e : im_E} : (im_sh0 ++ e)[6973]? = some (1, 20400, []) := im_sh_m (k := 21) rfl rfl rfl
set_option maxRecDepth 20000 in
theorem sf_6974 {e : im_E} : (im_sh0 ++ e)[6974]? = some (1, 20400, []) := im_sh_m (k := 22) rfl rfl rfl
set_option maxRecDepth 20000 in
theorem sf_6975 {e : im_E} : (im_sh0 ++ e)[6975]? = some (1, 30000, []) := im_sh_m (k := 23) rfl rfl rfl
set_option maxRecDepth 20000 in
theorem sf_6976 {e : im_E} : (im_sh0 ++ e)[6976]? = some (1, 30000, []) := im_sh_m (k := 24) rfl rfl rfl
set_option maxRecDepth 20000 in
theorem sf_6977 {e : im_E} : (im_sh0 ++ e)[6977]? = some (1, 30000, []) := im_sh_m (k := 25) rfl rfl rfl
set_option maxRecDepth 20000 in
theorem sf_6978 {e : im_E} : (im_sh0 ++ e)[6978]? = some (1, 30000, []) := im_sh_m (k := 26) rfl rfl rfl
set_option maxRecDepth 20000 in
theorem sf_6979 {e : im_E} : (im_sh0 ++ e)[6979]? = some (1, 40, []) := im_sh_m (k := 27) rfl rfl rfl
set_option maxRecDepth 20000 in
theorem sf_6980 {e : im_E} : (im_sh0 ++ e)[6980]? = some (2, 40, []) := im_sh_m (k := 28) rfl rfl rfl
set_option maxRecDepth 20000 in
theorem sf_6981 {e : im_E} : (im_sh0 ++ e)[6981]? = some (2, 40, []) := im_sh_m (k := 29) rfl rfl rfl
set_option maxRecDepth 20000 in
theorem sf_6982 {e : im_E} : (im_sh0 ++ e)[6982]? = some (2, 40, []) := im_sh_m (k := 30) rfl rfl rfl
set_option maxRecDepth 20000 in
theorem sf_6983 {e : im_E} : (im_sh0 ++ e)[6983]? = some (1, 40, []) := im_sh_m (k := 31) rfl rfl rfl
set_option maxRecDepth 20000 in
theorem sf_6984 {e : im_E} : (im_sh0 ++ e)[6984]? = some (3, 16, []) := im_sh_m (k := 32) rfl rfl rfl
set_option maxRecDepth 20000 in
theorem sf_6985 {e : im_E} : (im_sh0 ++ e)[6985]? = some (1, 16, []) := im_sh_m (k := 33) rfl rfl rfl
set_option maxRecDepth 20000 in
theorem sf_6986 {e : im_E} : (im_sh0 ++ e)[6986]? = some (1, 16, []) := im_sh_m (k := 34) rfl rfl rfl
set_option maxRecDepth 20000 in
theorem sf_6987 {e : im_E} : (im_sh0 ++ e)[6987]? = some (1, 5100, []) := im_sh_m (k := 35) rfl rfl rfl
set_option maxRecDepth 20000 in
theorem sf_6988 {e : im_E} : (im_sh0 ++ e)[6988]? = some (1, 5100, []) := im_sh_m (k := 36) rfl rfl rfl
set_option maxRecDepth 20000 in
theorem sf_6989 {e : im_E} : (im_sh0 ++ e)[6989]? = some (2, 1100, []) := im_sh_m (k := 37) rfl rfl rfl
set_option maxRecDepth 20000 in
theorem sf_6990 {e : im_E} : (im_sh0 ++ e)[6990]? = some (2, 1100, []) := im_sh_m (k := 38) rfl rfl rfl
set_option maxRecDepth 20000 in
theorem sf_6991 {e : im_E} : (im_sh0 ++ e)[6991]? = some (1, 5100, []) := im_sh_m (k := 39) rfl rfl rfl
set_option maxRecDepth 20000 in
theorem sf_6992 {e : im_E} : (im_sh0 ++ e)[6992]? = some (2, 21, []) := im_sh_m (k := 40) rfl rfl rfl
set_option maxRecDepth 20000 in
theorem sf_6993 {e : im_E} : (im_sh0 ++ e)[6993]? = some (1, 6342, []) := im_sh_m (k := 41) rfl rfl rfl
set_option maxRecDepth 20000 in
theorem sf_6994 {e : im_E} : (im_sh0 ++ e)[6994]? = some (3, 16, []) := im_sh_m (k := 42) rfl rfl rfl
set_option maxRecDepth 20000 in
theorem sf_6995 {e : im_E} : (im_sh0 ++ e)[6995]? = some (1, 16, []) := im_sh_m (k := 43) rfl rfl rfl
set_option maxRecDepth 20000 in
theorem sf_6996 {e : im_E} : (im_sh0 ++ e)[6996]? = some (2, 16, []) := im_sh_m (k := 44) rfl rfl rfl
set_option maxRecDepth 20000 in
theorem sf_6997 {e : im_E} : (im_sh0 ++ e)[6997]? = some (1, 16, []) := im_sh_m (k := 45) rfl rfl rfl
set_option maxRecDepth 20000 in
theorem sf_6998 {e : im_E} : (im_sh0 ++ e)[6998]? = some (2, 640, []) := im_sh_m (k := 46) rfl rfl rfl
set_option maxRecDepth 20000 in
theorem sf_6999 {e : im_E} : (im_sh0 ++ e)[6999]? = some (2, 640, []) := im_sh_m (k := 47) rfl rfl rfl
set_option maxRecDepth 20000 in
theorem sf_7001 {e : im_E} : (im_sh0 ++ e)[7001]? = some (1, 16, []) := im_sh_m (k := 49) rfl rfl rfl
set_option maxRecDepth 20000 in
theorem sf_7002 {e : im_E} : (im_sh0 ++ e)[7002]? = some (2, 640, []) := im_sh_m (k := 50) rfl rfl rfl
set_option maxRecDepth 20000 in
theorem sf_7003 {e : im_E} : (im_sh0 ++ e)[7003]? = some (2, 640, []) := im_sh_m (k := 51) rfl rfl rfl
set_option maxRecDepth 20000 in
theorem sf_7005 {e : im_E} : (im_sh0 ++ e)[7005]? = some (1, 16, []) := im_sh_m (k := 53) rfl rfl rfl
set_option maxRecDepth 20000 in
theorem sf_7006 {e : im_E} : (im_sh0 ++ e)[7006]? = some (2, 640, []) := im_sh_m (k := 54) rfl rfl rfl
set_option maxRecDepth 20000 in
theorem sf_7008 {e : im_E} : (im_sh0 ++ e)[7008]? = some (1, 16, []) := im_sh_m (k := 56) rfl rfl rfl
set_option maxRecDepth 20000 in
theorem sf_7009 {e : im_E} : (im_sh0 ++ e)[7009]? = some (2, 320, []) := im_sh_m (k := 57) rfl rfl rfl
set_option maxRecDepth 20000 in
theorem sf_7010 {e : im_E} : (im_sh0 ++ e)[7010]? = some (1, 96640, []) := im_sh_m (k := 58) rfl rfl rfl
set_option maxRecDepth 20000 in
theorem sf_7011 {e : im_E} : (im_sh0 ++ e)[7011]? = some (2, 41, []) := im_sh_m (k := 59) rfl rfl rfl
set_option maxRecDepth 20000 in
theorem sf_7012 {e : im_E} : (im_sh0 ++ e)[7012]? = some (2, 41, []) := im_sh_m (k := 60) rfl rfl rfl
set_option maxRecDepth 20000 in
theorem sf_7013 {e : im_E} : (im_sh0 ++ e)[7013]? = some (1, 41, []) := im_sh_m (k := 61) rfl rfl rfl
set_option maxRecDepth 20000 in
theorem sf_7014 {e : im_E} : (im_sh0 ++ e)[7014]? = some (2, 41, []) := im_sh_m (k := 62) rfl rfl rfl
set_option maxRecDepth 20000 in
theorem sf_7015 {e : im_E} : (im_sh0 ++ e)[7015]? = some (2, 41, []) := im_sh_m (k := 63) rfl rfl rfl
set_option maxRecDepth 20000 in
theorem sf_7016 {e : im_E} : (im_sh0 ++ e)[7016]? = some (1, 41, []) := im_sh_m (k := 64) rfl rfl rfl
set_option maxRecDepth 20000 in
theorem sf_7017 {e : im_E} : (im_sh0 ++ e)[7017]? = some (2, 41, []) := im_sh_m (k := 65) rfl rfl rfl
set_option maxRecDepth 20000 in
theorem sf_7018 {e : im_E} : (im_sh0 ++ e)[7018]? = some (1, 41, []) := im_sh_m (k := 66) rfl rfl rfl
set_option maxRecDepth 20000 in
theorem sf_7019 {e : im_E} : (im_sh0 ++ e)[7019]? = some (2, 20, []) := im_sh_m (k := 67) rfl rfl rfl
set_option maxRecDepth 20000 in
theorem sf_7020 {e : im_E} : (im_sh0 ++ e)[7020]? = some (1, 20, []) := im_sh_m (k := 68) rfl rfl rfl
set_option maxRecDepth 20000 in
theorem sf_7021 {e : im_E} : (im_sh0 ++ e)[7021]? = some (1, 60, []) := im_sh_m (k := 69) rfl rfl rfl
set_option maxRecDepth 20000 in
theorem sf_7022 {e : im_E} : (im_sh0 ++ e)[7022]? = some (2, 60, []) := im_sh_m (k := 70) rfl rfl rfl
set_option maxRecDepth 20000 in
theorem sf_7023 {e : im_E} : (im_sh0 ++ e)[7023]? = some (2, 60, []) := im_sh_m (k := 71) rfl rfl rfl
set_option maxRecDepth 20000 in
theorem sf_7024 {e : im_E} : (im_sh0 ++ e)[7024]? = some (2, 60, []) := im_sh_m (k := 72) rfl rfl rfl
set_option maxRecDepth 20000 in
theorem sf_7025 {e : im_E} : (im_sh0 ++ e)[7025]? = some (1, 60, []) := im_sh_m (k := 73) rfl rfl rfl
set_option maxRecDepth 20000 in
theorem sf_7026 {e : im_E} : (im_sh0 ++ e)[7026]? = some (1, 60, []) := im_sh_m (k := 74) rfl rfl rfl
set_option maxRecDepth 20000 in
theorem sf_7027 {e : im_E} : (im_sh0 ++ e)[7027]? = some (2, 60, []) := im_sh_m (k := 75) rfl rfl rfl
set_option maxRecDepth 20000 in
theorem sf_7028 {e : im_E} : (im_sh0 ++ e)[7028]? = some (2, 60, []) := im_sh_m (k := 76) rfl rfl rfl
set_option maxRecDepth 20000 in
theorem sf_7029 {e : im_E} : (im_sh0 ++ e)[7029]? = some (2, 60, []) := im_sh_m (k := 77) rfl rfl rfl
set_option maxRecDepth 20000 in
theorem sf_7030 {e : im_E} : (im_sh0 ++ e)[7030]? = some (1, 60, []) := im_sh_m (k := 78) rfl rfl rfl
set_option maxRecDepth 20000 in
theorem sf_7031 {e : im_E} : (im_sh0 ++ e)[7031]? = some (2, 61, []) := im_sh_m (k := 79) rfl rfl rfl
set_option maxRecDepth 20000 in
theorem sf_7032 {e : im_E} : (im_sh0 ++ e)[7032]? = some (2, 61, []) := im_sh_m (k := 80) rfl rfl rfl
set_option maxRecDepth 20000 in
theorem sf_7033 {e : im_E} : (im_sh0 ++ e)[7033]? = some (1, 61, []) := im_sh_m (k := 81) rfl rfl rfl
set_option maxRecDepth 20000 in
theorem sf_7034 {e : im_E} : (im_sh0 ++ e)[7034]? = some (1, 400, []) := im_sh_m (k := 82) rfl rfl rfl
set_option maxRecDepth 20000 in
theorem sf_7035 {e : im_E} : (im_sh0 ++ e)[7035]? = some (1, 400, []) := im_sh_m (k := 83) rfl rfl rfl
set_option maxRecDepth 20000 in
theorem sf_7036 {e : im_E} : (im_sh0 ++ e)[7036]? = some (1, 400, []) := im_sh_m (k := 84) rfl rfl rfl
set_option maxRecDepth 20000 in
theorem sf_7037 {e : im_E} : (im_sh0 ++ e)[7037]? = some (3, 64, []) := im_sh_m (k := 85) rfl rfl rfl
set_option maxRecDepth 20000 in
theorem sf_7038 {e : im_E} : (im_sh0 ++ e)[7038]? = some (1, 64, []) := im_sh_m (k := 86) rfl rfl rfl
set_option maxRecDepth 20000 in
theorem sf_7039 {e : im_E} : (im_sh0 ++ e)[7039]? = some (1, 64, []) := im_sh_m (k := 87) rfl rfl rfl
set_option maxRecDepth 20000 in
theorem sf_7040 {e : im_E} : (im_sh0 ++ e)[7040]? = some (1, 19456, []) := im_sh_m (k := 88) rfl rfl rfl
set_option maxRecDepth 20000 in
theorem sf_7041 {e : im_E} : (im_sh0 ++ e)[7041]? = some (1, 6000, []) := im_sh_m (k := 89) rfl rfl rfl
set_option maxRecDepth 20000 in
theorem sf_7042 {e : im_E} : (im_sh0 ++ e)[7042]? = some (2, 60, []) := im_sh_m (k := 90) rfl rfl rfl
set_option maxRecDepth 20000 in
theorem sf_7043 {e : im_E} : (im_sh0 ++ e)[7043]? = some (2, 60, []) := im_sh_m (k := 91) rfl rfl rfl
set_option maxRecDepth 20000 in
theorem sf_7045 {e : im_E} : (im_sh0 ++ e)[7045]? = some (2, 60, []) := im_sh_m (k := 93) rfl rfl rfl
set_option maxRecDepth 20000 in
theorem sf_7047 {e : im_E} : (im_sh0 ++ e)[7047]? = some (1, 60, []) := im_sh_m (k := 95) rfl rfl rfl
set_option maxRecDepth 20000 in
theorem sf_7048 {e : im_E} : (im_sh0 ++ e)[7048]? = some (2, 60, []) := im_sh_m (k := 96) rfl rfl rfl
set_option maxRecDepth 20000 in
theorem sf_7049 {e : im_E} : (im_sh0 ++ e)[7049]? = some (2, 60, []) := im_sh_m (k := 97) rfl rfl rfl
set_option maxRecDepth 20000 in
theorem sf_7050 {e : im_E} : (im_sh0 ++ e)[7050]? = some (2, 60, []) := im_sh_m (k := 98) rfl rfl rfl
set_option maxRecDepth 20000 in
theorem sf_7052 {e : im_E} : (im_sh0 ++ e)[7052]? = some (1, 60, []) := im_sh_m (k := 100) rfl rfl rfl
set_option maxRecDepth 20000 in
theorem sf_7053 {e : im_E} : (im_sh0 ++ e)[7053]? = some (2, 60, []) := im_sh_m (k := 101) rfl rfl rfl
set_option maxRecDepth 20000 in
theorem sf_7054 {e : im_E} : (im_sh0 ++ e)[7054]? = some (2, 60, []) := im_sh_m (k := 102) rfl rfl rfl
set_option maxRecDepth 20000 in
theorem sf_7055 {e : im_E} : (im_sh0 ++ e)[7055]? = some (2, 60, []) := im_sh_m (k := 103) rfl rfl rfl
set_option maxRecDepth 20000 in
theorem sf_7057 {e : im_E} : (im_sh0 ++ e)[7057]? = some (1, 402, []) := im_sh_m (k := 105) rfl rfl rfl
set_option maxRecDepth 20000 in
theorem sf_7058 {e : im_E} : (im_sh0 ++ e)[7058]? = some (2, 402, []) := im_sh_m (k := 106) rfl rfl rfl
set_option maxRecDepth 20000 in
theorem sf_7059 {e : im_E} : (im_sh0 ++ e)[7059]? = some (1, 402, []) := im_sh_m (k := 107) rfl rfl rfl
set_option maxRecDepth 20000 in
theorem sf_7060 {e : im_E} : (im_sh0 ++ e)[7060]? = some (1, 402, []) := im_sh_m (k := 108) rfl rfl rfl
set_option maxRecDepth 20000 in
theorem sf_7061 {e : im_E} : (im_sh0 ++ e)[7061]? = some (2, 16080, []) := im_sh_m (k := 109) rfl rfl rfl
set_option maxRecDepth 20000 in
theorem sf_7062 {e : im_E} : (im_sh0 ++ e)[7062]? = some (2, 16080, []) := im_sh_m (k := 110) rfl rfl rfl
set_option maxRecDepth 20000 in
theorem sf_7063 {e : im_E} : (im_sh0 ++ e)[7063]? = some (1, 16080, []) := im_sh_m (k := 111) rfl rfl rfl
set_option maxRecDepth 20000 in
theorem sf_7064 {e : im_E} : (im_sh0 ++ e)[7064]? = some (1, 402, []) := im_sh_m (k := 112) rfl rfl rfl
set_option maxRecDepth 20000 in
theorem sf_7065 {e : im_E} : (im_sh0 ++ e)[7065]? = some (2, 16080, []) := im_sh_m (k := 113) rfl rfl rfl
set_option maxRecDepth 20000 in
theorem sf_7066 {e : im_E} : (im_sh0 ++ e)[7066]? = some (2, 16080, []) := im_sh_m (k := 114) rfl rfl rfl
set_option maxRecDepth 20000 in
theorem sf_7067 {e : im_E} : (im_sh0 ++ e)[7067]? = some (1, 16080, []) := im_sh_m (k := 115) rfl rfl rfl
set_option maxRecDepth 20000 in
theorem sf_7068 {e : im_E} : (im_sh0 ++ e)[7068]? = some (1, 402, []) := im_sh_m (k := 116) rfl rfl rfl
set_option maxRecDepth 20000 in
theorem sf_7069 {e : im_E} : (im_sh0 ++ e)[7069]? = some (2, 16080, []) := im_sh_m (k := 117) rfl rfl rfl
set_option maxRecDepth 20000 in
theorem sf_7070 {e : im_E} : (im_sh0 ++ e)[7070]? = some (1, 16080, []) := im_sh_m (k := 118) rfl rfl rfl
set_option maxRecDepth 20000 in
theorem sf_7071 {e : im_E} : (im_sh0 ++ e)[7071]? = some (1, 402, []) := im_sh_m (k := 119) rfl rfl rfl
set_option maxRecDepth 20000 in
theorem sf_7072 {e : im_E} : (im_sh0 ++ e)[7072]? = some (1, 402, []) := im_sh_m (k := 120) rfl rfl rfl
set_option maxRecDepth 20000 in
theorem sf_7073 {e : im_E} : (im_sh0 ++ e)[7073]? = some (1, 402, []) := im_sh_m (k := 121) rfl rfl rfl
set_option maxRecDepth 20000 in
theorem sf_7074 {e : im_E} : (im_sh0 ++ e)[7074]? = some (1, 402, []) := im_sh_m (k := 122) rfl rfl rfl
set_option maxRecDepth 20000 in
theorem sf_7075 {e : im_E} : (im_sh0 ++ e)[7075]? = some (2, 402, []) := im_sh_m (k := 123) rfl rfl rfl
set_option maxRecDepth 20000 in
theorem sf_7076 {e : im_E} : (im_sh0 ++ e)[7076]? = some (2, 402, []) := im_sh_m (k := 124) rfl rfl rfl
set_option maxRecDepth 20000 in
theorem sf_7077 {e : im_E} : (im_sh0 ++ e)[7077]? = some (2, 402, []) := im_sh_m (k := 125) rfl rfl rfl
set_option maxRecDepth 20000 in
theorem sf_7078 {e : im_E} : (im_sh0 ++ e)[7078]? = some (1, 402, []) := im_sh_m (k := 126) rfl rfl rfl
set_option maxRecDepth 20000 in
theorem sf_7079 {e : im_E} : (im_sh0 ++ e)[7079]? = some (2, 402, []) := im_sh_m (k := 127) rfl rfl rfl
set_option maxRecDepth 20000 in
theorem sf_7080 {e : im_E} : (im_sh0 ++ e)[7080]? = some (1, 16384, []) := im_sh_m (k := 128) rfl rfl rfl
theorem rf_6952_1 : im_rs6952[1]? = some ((6953 : Nat) : Int) := rfl
theorem rf_6952_3 : im_rs6952[3]? = some ((6954 : Nat) : Int) := rfl
theorem rf_6952_5 : im_rs6952[5]? = some ((6955 : Nat) : Int) := rfl
theorem rf_6952_9 : im_rs6952[9]? = some ((6956 : Nat) : Int) := rfl
theorem rf_6952_10 : im_rs6952[10]? = some ((6957 : Nat) : Int) := rfl
theorem rf_6952_11 : im_rs6952[11]? = some ((6958 : Nat) : Int) := rfl
theorem rf_6952_12 : im_rs6952[12]? = some ((6959 : Nat) : Int) := rfl
theorem rf_6952_21 : im_rs6952[21]? = some ((6960 : Nat) : Int) := rfl
theorem rf_6952_22 : im_rs6952[22]? = some ((6961 : Nat) : Int) := rfl
theorem rf_6952_23 : im_rs6952[23]? = some ((6962 : Nat) : Int) := rfl
theorem rf_6952_24 : im_rs6952[24]? = some ((6963 : Nat) : Int) := rfl
theorem rf_6952_25 : im_rs6952[25]? = some ((6964 : Nat) : Int) := rfl
theorem rf_6952_26 : im_rs6952[26]? = some ((6965 : Nat) : Int) := rfl
theorem rf_6952_27 : im_rs6952[27]? = some ((6966 : Nat) : Int) := rfl
theorem rf_6952_28 : im_rs6952[28]? = some ((6967 : Nat) : Int) := rfl
theorem rf_6952_29 : im_rs6952[29]? = some ((6968 : Nat) : Int) := rfl
theorem rf_6952_30 : im_rs6952[30]? = some ((6969 : Nat) : Int) := rfl
theorem rf_6952_31 : im_rs6952[31]? = some ((6970 : Nat) : Int) := rfl
theorem rf_6952_32 : im_rs6952[32]? = some ((6971 : Nat) : Int) := rfl
theorem rf_6952_33 : im_rs6952[33]? = some ((6972 : Nat) : Int) := rfl
theorem rf_6952_34 : im_rs6952[34]? = some ((6973 : Nat) : Int) := rfl
theorem rf_6952_35 : im_rs6952[35]? = some ((6974 : Nat) : Int) := rfl
theorem rf_6952_41 : im_rs6952[41]? = some ((6975 : Nat) : Int) := rfl
theorem rf_6952_42 : im_rs6952[42]? = some ((6976 : Nat) : Int) := rfl
theorem rf_6952_43 : im_rs6952[43]? = some ((6977 : Nat) : Int) := rfl
theorem rf_6952_44 : im_rs6952[44]? = some ((6978 : Nat) : Int) := rfl
theorem rf_6952_47 : im_rs6952[47]? = some ((6979 : Nat) : Int) := rfl
theorem rf_6952_48 : im_rs6952[48]? = some ((6980 : Nat) : Int) := rfl
theorem rf_6952_49 : im_rs6952[49]? = some ((6981 : Nat) : Int) := rfl
theorem rf_6952_50 : im_rs6952[50]? = some ((6982 : Nat) : Int) := rfl
theorem rf_6952_51 : im_rs6952[51]? = some ((6983 : Nat) : Int) := rfl
theorem rf_6952_52 : im_rs6952[52]? = some ((6984 : Nat) : Int) := rfl
theorem rf_6952_53 : im_rs6952[53]? = some ((6985 : Nat) : Int) := rfl
theorem rf_6952_54 : im_rs6952[54]? = some ((6986 : Nat) : Int) := rfl
theorem rf_6952_55 : im_rs6952[55]? = some ((6987 : Nat) : Int) := rfl
theorem rf_6952_56 : im_rs6952[56]? = some ((6988 : Nat) : Int) := rfl
theorem rf_6952_58 : im_rs6952[58]? = some ((6989 : Nat) : Int) := rfl
theorem rf_6952_59 : im_rs6952[59]? = some ((6990 : Nat) : Int) := rfl
theorem rf_6952_61 : im_rs6952[61]? = some ((6991 : Nat) : Int) := rfl
theorem rf_6952_63 : im_rs6952[63]? = some ((6992 : Nat) : Int) := rfl
theorem rf_6952_64 : im_rs6952[64]? = some ((6993 : Nat) : Int) := rfl
theorem rf_6952_66 : im_rs6952[66]? = some ((6994 : Nat) : Int) := rfl
theorem rf_6952_67 : im_rs6952[67]? = some ((6995 : Nat) : Int) := rfl
theorem rf_6952_68 : im_rs6952[68]? = some ((6996 : Nat) : Int) := rfl
theorem rf_6952_69 : im_rs6952[69]? = some ((6997 : Nat) : Int) := rfl
theorem rf_6952_70 : im_rs6952[70]? = some ((6998 : Nat) : Int) := rfl
theorem rf_6952_71 : im_rs6952[71]? = some ((6999 : Nat) : Int) := rfl
theorem rf_6952_72 : im_rs6952[72]? = some ((7000 : Nat) : Int) := rfl
theorem rf_6952_73 : im_rs6952[73]? = some ((7001 : Nat) : Int) := rfl
theorem rf_6952_74 : im_rs6952[74]? = some ((7002 : Nat) : Int) := rfl
theorem rf_6952_75 : im_rs6952[75]? = some ((7003 : Nat) : Int) := rfl
theorem rf_6952_76 : im_rs6952[76]? = some ((7004 : Nat) : Int) := rfl
theorem rf_6952_77 : im_rs6952[77]? = some ((7005 : Nat) : Int) := rfl
theorem rf_6952_78 : im_rs6952[78]? = some ((7006 : Nat) : Int) := rfl
theorem rf_6952_79 : im_rs6952[79]? = some ((7007 : Nat) : Int) := rfl
theorem rf_6952_80 : im_rs6952[80]? = some ((7008 : Nat) : Int) := rfl
theorem rf_6952_81 : im_rs6952[81]? = some ((7009 : Nat) : Int) := rfl
theorem rf_6952_82 : im_rs6952[82]? = some ((7010 : Nat) : Int) := rfl
theorem rf_6952_86 : im_rs6952[86]? = some ((7011 : Nat) : Int) := rfl
theorem rf_6952_87 : im_rs6952[87]? = some ((7012 : Nat) : Int) := rfl
theorem rf_6952_88 : im_rs6952[88]? = some ((7013 : Nat) : Int) := rfl
theorem rf_6952_90 : im_rs6952[90]? = some ((7014 : Nat) : Int) := rfl
theorem rf_6952_91 : im_rs6952[91]? = some ((7015 : Nat) : Int) := rfl
theorem rf_6952_92 : im_rs6952[92]? = some ((7016 : Nat) : Int) := rfl
theorem rf_6952_94 : im_rs6952[94]? = some ((7017 : Nat) : Int) := rfl
theorem rf_6952_95 : im_rs6952[95]? = some ((7018 : Nat) : Int) := rfl
theorem rf_6952_97 : im_rs6952[97]? = some ((7019 : Nat) : Int) := rfl
theorem rf_6952_98 : im_rs6952[98]? = some ((7020 : Nat) : Int) := rfl
theorem rf_6952_105 : im_rs6952[105]? = some ((7021 : Nat) : Int) := rfl
theorem rf_6952_106 : im_rs6952[106]? = some ((7022 : Nat) : Int) := rfl
theorem rf_6952_107 : im_rs6952[107]? = some ((7023 : Nat) : Int) := rfl
theorem rf_6952_108 : im_rs6952[108]? = some ((7024 : Nat) : Int) := rfl
theorem rf_6952_109 : im_rs6952[109]? = some ((7025 : Nat) : Int) := rfl
theorem rf_6952_111 : im_rs6952[111]? = some ((7026 : Nat) : Int) := rfl
theorem rf_6952_112 : im_rs6952[112]? = some ((7027 : Nat) : Int) := rfl
theorem rf_6952_113 : im_rs6952[113]? = some ((7028 : Nat) : Int) := rfl
theorem rf_6952_114 : im_rs6952[114]? = some ((7029 : Nat) : Int) := rfl
theorem rf_6952_115 : im_rs6952[115]? = some ((7030 : Nat) : Int) := rfl
theorem rf_6952_117 : im_rs6952[117]? = some ((7031 : Nat) : Int) := rfl
theorem rf_6952_118 : im_rs6952[118]? = some ((7032 : Nat) : Int) := rfl
theorem rf_6952_119 : im_rs6952[119]? = some ((7033 : Nat) : Int) := rfl
theorem rf_6952_120 : im_rs6952[120]? = some ((7034 : Nat) : Int) := rfl
theorem rf_6952_121 : im_rs6952[121]? = some ((7035 : Nat) : Int) := rfl
theorem rf_6952_123 : im_rs6952[123]? = some ((7036 : Nat) : Int) := rfl
theorem rf_6952_125 : im_rs6952[125]? = some ((7037 : Nat) : Int) := rfl
theorem rf_6952_126 : im_rs6952[126]? = some ((7038 : Nat) : Int) := rfl
theorem rf_6952_127 : im_rs6952[127]? = some ((7039 : Nat) : Int) := rfl
theorem rf_6952_128 : im_rs6952[128]? = some ((7040 : Nat) : Int) := rfl
theorem rf_6952_129 : im_rs6952[129]? = some ((7041 : Nat) : Int) := rfl
theorem rf_6952_131 : im_rs6952[131]? = some ((7042 : Nat) : Int) := rfl
theorem rf_6952_132 : im_rs6952[132]? = some ((7043 : Nat) : Int) := rfl
theorem rf_6952_133 : im_rs6952[133]? = some ((7044 : Nat) : Int) := rfl
theorem rf_6952_135 : im_rs6952[135]? = some ((7045 : Nat) : Int) := rfl
theorem rf_6952_136 : im_rs6952[136]? = some ((7046 : Nat) : Int) := rfl
theorem rf_6952_138 : im_rs6952[138]? = some ((7047 : Nat) : Int) := rfl
theorem rf_6952_139 : im_rs6952[139]? = some ((7048 : Nat) : Int) := rfl
theorem rf_6952_140 : im_rs6952[140]? = some ((7049 : Nat) : Int) := rfl
theorem rf_6952_141 : im_rs6952[141]? = some ((7050 : Nat) : Int) := rfl
theorem rf_6952_142 : im_rs6952[142]? = some ((7051 : Nat) : Int) := rfl
theorem rf_6952_144 : im_rs6952[144]? = some ((7052 : Nat) : Int) := rfl
theorem rf_6952_145 : im_rs6952[145]? = some ((7053 : Nat) : Int) := rfl
theorem rf_6952_146 : im_rs6952[146]? = some ((7054 : Nat) : Int) := rfl
theorem rf_6952_147 : im_rs6952[147]? = some ((7055 : Nat) : Int) := rfl
theorem rf_6952_148 : im_rs6952[148]? = some ((7056 : Nat) : Int) := rfl
theorem rf_6952_151 : im_rs6952[151]? = some ((7057 : Nat) : Int) := rfl
theorem rf_6952_152 : im_rs6952[152]? = some ((7058 : Nat) : Int) := rfl
theorem rf_6952_153 : im_rs6952[153]? = some ((7059 : Nat) : Int) := rfl
theorem rf_6952_154 : im_rs6952[154]? = some ((7060 : Nat) : Int) := rfl
theorem rf_6952_155 : im_rs6952[155]? = some ((7061 : Nat) : Int) := rfl
theorem rf_6952_156 : im_rs6952[156]? = some ((7062 : Nat) : Int) := rfl
theorem rf_6952_157 : im_rs6952[157]? = some ((7063 : Nat) : Int) := rfl
theorem rf_6952_158 : im_rs6952[158]? = some ((7064 : Nat) : Int) := rfl
theorem rf_6952_159 : im_rs6952[159]? = some ((7065 : Nat) : Int) := rfl
theorem rf_6952_160 : im_rs6952[160]? = some ((7066 : Nat) : Int) := rfl
theorem rf_6952_161 : im_rs6952[161]? = some ((7067 : Nat) : Int) := rfl
theorem rf_6952_162 : im_rs6952[162]? = some ((7068 : Nat) : Int) := rfl
theorem rf_6952_163 : im_rs6952[163]? = some ((7069 : Nat) : Int) := rfl
theorem rf_6952_164 : im_rs6952[164]? = some ((7070 : Nat) : Int) := rfl
theorem rf_6952_165 : im_rs6952[165]? = some ((7071 : Nat) : Int) := rfl
theorem rf_6952_166 : im_rs6952[166]? = some ((7072 : Nat) : Int) := rfl
theorem rf_6952_167 : im_rs6952[167]? = some ((7073 : Nat) : Int) := rfl
theorem rf_6952_168 : im_rs6952[168]? = some ((7074 : Nat) : Int) := rfl
theorem rf_6952_169 : im_rs6952[169]? = some ((7075 : Nat) : Int) := rfl
theorem rf_6952_170 : im_rs6952[170]? = some ((7076 : Nat) : Int) := rfl
theorem rf_6952_171 : im_rs6952[171]? = some ((7077 : Nat) : Int) := rfl
theorem rf_6952_172 : im_rs6952[172]? = some ((7078 : Nat) : Int) := rfl
theorem rf_6952_173 : im_rs6952[173]? = some ((7079 : Nat) : Int) := rfl
theorem rf_6952_176 : im_rs6952[176]? = some ((7080 : Nat) : Int) := rfl

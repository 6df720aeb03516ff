theorem am_k452_1_8 : ((am_t452_1.drop 240).take 30).all (am_ck1 code) = true := by decide +kernel
theorem am_k452_1_9 : ((am_t452_1.drop 270).take 30).all (am_ck1 code) = true := by decide +kernel
set_option maxRecDepth 20000 in
theorem am_k452_1 : am_t452_1.all (am_ck1 code) = true := am_pieces 30 10 (by decide +kernel) (fun j hj => match j, hj with
  | 0, _ => am_k452_1_0
  | 1, _ => am_k452_1_1
  | 2, _ => am_k452_1_2
  | 3, _ => am_k452_1_3
  | 4, _ => am_k452_1_4
  | 5, _ => am_k452_1_5
  | 6, _ => am_k452_1_6
  | 7, _ => am_k452_1_7
  | 8, _ => am_k452_1_8
  | 9, _ => am_k452_1_9
  | n + 10, h => absurd h (by omega))
theorem am_k452_2_0 : ((am_t452_2.drop 0).take 30).all (am_ck1 code) = true := by decide +kernel
theorem am_k452_2_1 : ((am_t452_2.drop 30).take 30).all (am_ck1 code) = true := by decide +kernel
theorem am_k452_2_2 : ((am_t452_2.drop 60).take 30).all (am_ck1 code) = true := by decide +kernel
theorem am_k452_2_3 : ((am_t452_2.drop 90).take 30).all (am_ck1 code) = true := by decide +kernel

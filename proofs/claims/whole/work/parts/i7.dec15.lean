theorem am_k452_2_4 : ((am_t452_2.drop 120).take 30).all (am_ck1 code) = true := by decide +kernel
theorem am_k452_2_5 : ((am_t452_2.drop 150).take 30).all (am_ck1 code) = true := by decide +kernel
theorem am_k452_2_6 : ((am_t452_2.drop 180).take 30).all (am_ck1 code) = true := by decide +kernel
theorem am_k452_2_7 : ((am_t452_2.drop 210).take 30).all (am_ck1 code) = true := by decide +kernel
theorem am_k452_2_8 : ((am_t452_2.drop 240).take 30).all (am_ck1 code) = true := by decide +kernel
theorem am_k452_2_9 : ((am_t452_2.drop 270).take 30).all (am_ck1 code) = true := by decide +kernel
set_option maxRecDepth 20000 in
theorem am_k452_2 : am_t452_2.all (am_ck1 code) = true := am_pieces 30 10 (by decide +kernel) (fun j hj => match j, hj with
  | 0, _ => am_k452_2_0
  | 1, _ => am_k452_2_1
  | 2, _ => am_k452_2_2
  | 3, _ => am_k452_2_3
  | 4, _ => am_k452_2_4
  | 5, _ => am_k452_2_5
  | 6, _ => am_k452_2_6
  | 7, _ => am_k452_2_7
  | 8, _ => am_k452_2_8
  | 9, _ => am_k452_2_9
  | n + 10, h => absurd h (by omega))

theorem am_k452_4_8 : ((am_t452_4.drop 240).take 30).all (am_ck1 code) = true := by decide +kernel
theorem am_k452_4_9 : ((am_t452_4.drop 270).take 30).all (am_ck1 code) = true := by decide +kernel
set_option maxRecDepth 20000 in
theorem am_k452_4 : am_t452_4.all (am_ck1 code) = true := am_pieces 30 10 (by decide +kernel) (fun j hj => match j, hj with
  | 0, _ => am_k452_4_0
  | 1, _ => am_k452_4_1
  | 2, _ => am_k452_4_2
  | 3, _ => am_k452_4_3
  | 4, _ => am_k452_4_4
  | 5, _ => am_k452_4_5
  | 6, _ => am_k452_4_6
  | 7, _ => am_k452_4_7
  | 8, _ => am_k452_4_8
  | 9, _ => am_k452_4_9
  | n + 10, h => absurd h (by omega))
theorem am_k452_5_0 : ((am_t452_5.drop 0).take 30).all (am_ck1 code) = true := by decide +kernel
theorem am_k452_5_1 : ((am_t452_5.drop 30).take 30).all (am_ck1 code) = true := by decide +kernel
theorem am_k452_5_2 : ((am_t452_5.drop 60).take 30).all (am_ck1 code) = true := by decide +kernel
theorem am_k452_5_3 : ((am_t452_5.drop 90).take 30).all (am_ck1 code) = true := by decide +kernel
set_option maxRecDepth 20000 in
theorem am_k452_5 : am_t452_5.all (am_ck1 code) = true := am_pieces 30 4 (by decide +kernel) (fun j hj => match j, hj with
  | 0, _ => am_k452_5_0
  | 1, _ => am_k452_5_1
  | 2, _ => am_k452_5_2
  | 3, _ => am_k452_5_3
  | n + 4, h => absurd h (by omega))
theorem am_k452 : am_t452.all (am_ck1 code) = true := by
  simp only [am_t452, List.all_append, Bool.and_eq_true]
  exact ⟨⟨⟨⟨⟨am_k452_0, am_k452_1⟩, am_k452_2⟩, am_k452_3⟩, am_k452_4⟩, am_k452_5⟩

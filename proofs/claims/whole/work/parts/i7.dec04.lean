theorem am_k261_0_0 : ((am_t261_0.drop 0).take 30).all (am_ck1 prog_14_method_1_code) = true := by decide +kernel
theorem am_k261_0_1 : ((am_t261_0.drop 30).take 30).all (am_ck1 prog_14_method_1_code) = true := by decide +kernel
theorem am_k261_0_2 : ((am_t261_0.drop 60).take 30).all (am_ck1 prog_14_method_1_code) = true := by decide +kernel
theorem am_k261_0_3 : ((am_t261_0.drop 90).take 30).all (am_ck1 prog_14_method_1_code) = true := by decide +kernel
theorem am_k261_0_4 : ((am_t261_0.drop 120).take 30).all (am_ck1 prog_14_method_1_code) = true := by decide +kernel
theorem am_k261_0_5 : ((am_t261_0.drop 150).take 30).all (am_ck1 prog_14_method_1_code) = true := by decide +kernel
theorem am_k261_0_6 : ((am_t261_0.drop 180).take 30).all (am_ck1 prog_14_method_1_code) = true := by decide +kernel
theorem am_k261_0_7 : ((am_t261_0.drop 210).take 30).all (am_ck1 prog_14_method_1_code) = true := by decide +kernel
theorem am_k261_0_8 : ((am_t261_0.drop 240).take 30).all (am_ck1 prog_14_method_1_code) = true := by decide +kernel
theorem am_k261_0_9 : ((am_t261_0.drop 270).take 30).all (am_ck1 prog_14_method_1_code) = true := by decide +kernel
set_option maxRecDepth 20000 in
theorem am_k261_0 : am_t261_0.all (am_ck1 prog_14_method_1_code) = true := am_pieces 30 10 (by decide +kernel) (fun j hj => match j, hj with
  | 0, _ => am_k261_0_0
  | 1, _ => am_k261_0_1
  | 2, _ => am_k261_0_2
  | 3, _ => am_k261_0_3
  | 4, _ => am_k261_0_4
  | 5, _ => am_k261_0_5
  | 6, _ => am_k261_0_6
  | 7, _ => am_k261_0_7
  | 8, _ => am_k261_0_8
  | 9, _ => am_k261_0_9
  | n + 10, h => absurd h (by omega))
theorem am_k261_1_0 : ((am_t261_1.drop 0).take 30).all (am_ck1 prog_14_method_1_code) = true := by decide +kernel
theorem am_k261_1_1 : ((am_t261_1.drop 30).take 30).all (am_ck1 prog_14_method_1_code) = true := by decide +kernel
theorem am_k261_1_2 : ((am_t261_1.drop 60).take 30).all (am_ck1 prog_14_method_1_code) = true := by decide +kernel

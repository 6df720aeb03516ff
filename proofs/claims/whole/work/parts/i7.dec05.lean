theorem am_k261_1_3 : ((am_t261_1.drop 90).take 30).all (am_ck1 prog_14_method_1_code) = true := by decide +kernel
theorem am_k261_1_4 : ((am_t261_1.drop 120).take 30).all (am_ck1 prog_14_method_1_code) = true := by decide +kernel
theorem am_k261_1_5 : ((am_t261_1.drop 150).take 30).all (am_ck1 prog_14_method_1_code) = true := by decide +kernel
theorem am_k261_1_6 : ((am_t261_1.drop 180).take 30).all (am_ck1 prog_14_method_1_code) = true := by decide +kernel
theorem am_k261_1_7 : ((am_t261_1.drop 210).take 30).all (am_ck1 prog_14_method_1_code) = true := by decide +kernel
set_option maxRecDepth 20000 in
theorem am_k261_1 : am_t261_1.all (am_ck1 prog_14_method_1_code) = true := am_pieces 30 8 (by decide +kernel) (fun j hj => match j, hj with
  | 0, _ => am_k261_1_0
  | 1, _ => am_k261_1_1
  | 2, _ => am_k261_1_2
  | 3, _ => am_k261_1_3
  | 4, _ => am_k261_1_4
  | 5, _ => am_k261_1_5
  | 6, _ => am_k261_1_6
  | 7, _ => am_k261_1_7
  | n + 8, h => absurd h (by omega))
theorem am_k261 : am_t261.all (am_ck1 prog_14_method_1_code) = true := by
  simp only [am_t261, List.all_append, Bool.and_eq_true]
  exact ⟨am_k261_0, am_k261_1⟩
theorem am_k262 : am_t262.all (am_ck1 prog_14_method_2_code) = true := by decide +kernel
theorem am_k263 : am_t263.all (am_ck1 prog_14_method_5_code) = true := by decide +kernel
theorem am_k264 : am_t264.all (am_ck1 prog_14_method_4_code) = true := by decide +kernel
theorem am_k265 : am_t265.all (am_ck1 prog_14_method_6_code) = true := by decide +kernel
theorem am_k266 : am_t266.all (am_ck1 prog_14_method_7_code) = true := by decide +kernel
theorem am_k267 : am_t267.all (am_ck1 prog_14_method_8_code) = true := by decide +kernel
theorem am_k268 : am_t268.all (am_ck1 prog_14_method_3_code) = true := by decide +kernel
theorem am_k269 : am_t269.all (am_ck1 prog_14_method_9_code) = true := by decide +kernel
theorem am_k270 : am_t270.all (am_ck1 prog_14_method_71_code) = true := by decide +kernel
theorem am_k271 : am_t271.all (am_ck1 prog_14_method_44_code) = true := by decide +kernel
theorem am_k272 : am_t272.all (am_ck1 prog_14_method_69_code) = true := by decide +kernel
theorem am_k273 : am_t273.all (am_ck1 prog_14_method_64_code) = true := by decide +kernel
theorem am_k274 : am_t274.all (am_ck1 prog_14_method_45_code) = true := by decide +kernel
theorem am_k275 : am_t275.all (am_ck1 prog_14_method_47_code) = true := by decide +kernel
theorem am_k276 : am_t276.all (am_ck1 prog_14_method_63_code) = true := by decide +kernel
theorem am_k277 : am_t277.all (am_ck1 prog_14_method_39_code) = true := by decide +kernel
theorem am_k278 : am_t278.all (am_ck1 prog_14_method_36_code) = true := by decide +kernel
theorem am_k279 : am_t279.all (am_ck1 prog_14_method_38_code) = true := by decide +kernel
theorem am_k280 : am_t280.all (am_ck1 prog_14_method_37_code) = true := by decide +kernel
theorem am_k281 : am_t281.all (am_ck1 prog_14_method_34_code) = true := by decide +kernel
theorem am_k282 : am_t282.all (am_ck1 prog_14_method_40_code) = true := by decide +kernel
theorem am_k283 : am_t283.all (am_ck1 prog_14_method_51_code) = true := by decide +kernel
theorem am_k284 : am_t284.all (am_ck1 prog_14_method_50_code) = true := by decide +kernel
theorem am_k285 : am_t285.all (am_ck1 prog_14_method_42_code) = true := by decide +kernel
theorem am_k286 : am_t286.all (am_ck1 prog_14_method_41_code) = true := by decide +kernel
theorem am_k287 : am_t287.all (am_ck1 prog_14_method_49_code) = true := by decide +kernel
theorem am_k288 : am_t288.all (am_ck1 prog_14_method_48_code) = true := by decide +kernel

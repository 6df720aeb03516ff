theorem am_k452_1_2 : ((am_t452_1.drop 60).take 30).all (am_ck1 code) = true := by decide +kernel
theorem am_k452_1_3 : ((am_t452_1.drop 90).take 30).all (am_ck1 code) = true := by decide +kernel
theorem am_k452_1_4 : ((am_t452_1.drop 120).take 30).all (am_ck1 code) = true := by decide +kernel
theorem am_k452_1_5 : ((am_t452_1.drop 150).take 30).all (am_ck1 code) = true := by decide +kernel
theorem am_k452_1_6 : ((am_t452_1.drop 180).take 30).all (am_ck1 code) = true := by decide +kernel
theorem am_k452_1_7 : ((am_t452_1.drop 210).take 30).all (am_ck1 code) = true := by decide +kernel

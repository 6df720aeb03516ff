theorem am_k452_3_0 : ((am_t452_3.drop 0).take 30).all (am_ck1 code) = true := by decide +kernel
theorem am_k452_3_1 : ((am_t452_3.drop 30).take 30).all (am_ck1 code) = true := by decide +kernel
theorem am_k452_3_2 : ((am_t452_3.drop 60).take 30).all (am_ck1 code) = true := by decide +kernel
theorem am_k452_3_3 : ((am_t452_3.drop 90).take 30).all (am_ck1 code) = true := by decide +kernel
theorem am_k452_3_4 : ((am_t452_3.drop 120).take 30).all (am_ck1 code) = true := by decide +kernel
theorem am_k452_3_5 : ((am_t452_3.drop 150).take 30).all (am_ck1 code) = true := by decide +kernel

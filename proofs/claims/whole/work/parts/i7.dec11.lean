theorem am_k452_0_0 : ((am_t452_0.drop 0).take 30).all (am_ck1 code) = true := by decide +kernel
theorem am_k452_0_1 : ((am_t452_0.drop 30).take 30).all (am_ck1 code) = true := by decide +kernel
theorem am_k452_0_2 : ((am_t452_0.drop 60).take 30).all (am_ck1 code) = true := by decide +kernel
theorem am_k452_0_3 : ((am_t452_0.drop 90).take 30).all (am_ck1 code) = true := by decide +kernel
theorem am_k452_0_4 : ((am_t452_0.drop 120).take 30).all (am_ck1 code) = true := by decide +kernel
theorem am_k452_0_5 : ((am_t452_0.drop 150).take 30).all (am_ck1 code) = true := by decide +kernel

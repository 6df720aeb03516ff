theorem am_k452_4_2 : ((am_t452_4.drop 60).take 30).all (am_ck1 code) = true := by decide +kernel
theorem am_k452_4_3 : ((am_t452_4.drop 90).take 30).all (am_ck1 code) = true := by decide +kernel
theorem am_k452_4_4 : ((am_t452_4.drop 120).take 30).all (am_ck1 code) = true := by decide +kernel
theorem am_k452_4_5 : ((am_t452_4.drop 150).take 30).all (am_ck1 code) = true := by decide +kernel
theorem am_k452_4_6 : ((am_t452_4.drop 180).take 30).all (am_ck1 code) = true := by decide +kernel
theorem am_k452_4_7 : ((am_t452_4.drop 210).take 30).all (am_ck1 code) = true := by decide +kernel

theorem am_k452_1 : am_t452_1.all (am_ck1 code) = true := by decide +kernel
theorem am_k452_2 : am_t452_2.all (am_ck1 code) = true := by decide +kernel

theorem am_k452_3 : am_t452_3.all (am_ck1 code) = true := by decide +kernel
theorem am_k452_4 : am_t452_4.all (am_ck1 code) = true := by decide +kernel

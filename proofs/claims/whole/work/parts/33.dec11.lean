theorem am_k452_5 : am_t452_5.all (am_ck1 code) = true := by decide +kernel
theorem am_k452 : am_t452.all (am_ck1 code) = true := by
  simp only [am_t452, List.all_append, Bool.and_eq_true]
  exact ⟨⟨⟨⟨⟨am_k452_0, am_k452_1⟩, am_k452_2⟩, am_k452_3⟩, am_k452_4⟩, am_k452_5⟩

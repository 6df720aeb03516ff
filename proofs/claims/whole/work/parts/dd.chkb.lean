/-! the check's step, by hand: its product is taken as it wraps -/
theorem b_checkByte' {g : im_g} {d : Nat} {e : im_E} {M : im_M} {K : im_K} {p1 : Int} (hP : K (.inl none) e (im_u M 6952 181 (((xixor (M 6952 181) (xiand p1 255)) * 16777619).bmod 4294967296))) : im_T g d 309 0 [some (.ref 6952), some (vI p1)] [] e M K := by
  refine im_ld (q := 1) (i := 0) D309_0 rfl rfl rfl ?_
  refine im_ld (q := 2) (i := 0) D309_1 rfl rfl rfl ?_
  refine im_rng (j := 181) sf_6952 (by decide) (by decide) (fun hr1 => ?_)
  refine im_gfI (q := 5) D309_2 (im_fl cn_309 fl_12_1133) sf_6952 rfl rfl tI_12_181 rfl ?_
  refine im_ld (q := 6) (i := 1) D309_5 rfl rfl rfl ?_
  refine im_sipush (q := 9) D309_6 rfl ?_
  refine im_iand (q := 10) D309_9 ?_
  refine im_ixor (q := 11) D309_10 ?_
  refine im_ldc (q := 14) (n := 16777619) (Or.inr rfl) D309_11 rfl rfl ?_
  refine im_imul (q := 15) D309_14 ?_
  show im_T g d 309 15 [some (.ref 6952), some (vI p1)] [vI ((xixor (M 6952 181) (xiand p1 255)) * 16777619), .ref 6952] e M K
  rw [← vI_bm ((xixor (M 6952 181) (xiand p1 255)) * 16777619)]
  refine im_pfI (q := 18) D309_15 (im_fl cn_309 fl_12_1133) sf_6952 rfl rfl ti_12_181 (bm_i32 _) ?_
  exact im_vret (q := 19) D309_18 rfl hP

theorem sf_12 {e : im_E} : (im_sh0 ++ e)[12]? = some (1, 34, []) := im_sh_of (pu_L (pu_L (pu_Rr (n := 0) (i := 12) rfl rfl rfl))) rfl

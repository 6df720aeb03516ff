/-! the shape of the row of what was minted -/
theorem sf_7046 {e : im_E} : (im_sh0 ++ e)[7046]? = some (1, 18120, []) := im_sh_m (k := 94) rfl rfl rfl

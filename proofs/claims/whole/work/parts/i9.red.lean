theorem i_vc_pure (hpure : am_PURE 384) : Claimed_1_1 ∧ Claimed_1_2 := i_vc_open am_P1 hpure

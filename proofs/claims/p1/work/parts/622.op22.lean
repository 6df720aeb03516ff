set_option maxRecDepth 20000 in
set_option maxHeartbeats 40000000 in
theorem pu_op22 (xs : Nat → Int32) (d : Nat) (h : am_H) (hN : 7082 ≤ h.length) : am_T (pu_G xs 6) (d + 20) 452 1736 [(4, .int 0), (3, .ref 7081), (2, .ref 6952), (1, .ref 0), (0, .float 200)] [] (am_ov pu_ov0 h) (pu_K h) := by
  refine am_T.stp hN (pc' := 1737) rfl ?_
  refine am_T.stp hN (pc' := 1738) rfl ?_
  refine am_T.stp hN (pc' := 1740) rfl ?_
  refine am_T.stp hN (pc' := 1741) rfl ?_
  refine am_T.stp hN (pc' := 1742) rfl ?_
  refine am_T.stp hN (pc' := 1743) (st' := .int (xs 1) :: _) rfl ?_
  refine am_T.stp hN (pc' := 1744) rfl ?_
  refine am_T.stp hN (pc' := 1746) rfl ?_
  refine am_T.stp hN (pc' := 1747) rfl ?_
  refine am_T.stp hN (pc' := 1748) rfl ?_
  refine am_T.stp hN (pc' := 1749) (st' := .int (xs 2) :: _) rfl ?_
  refine am_T.stp hN (pc' := 1750) rfl ?_
  refine am_T.go hN (vs := [.ref 0, _, _, .ref 7081]) (r := []) rfl ?_
  refine am_T.lvq (lv' := [(0, .ref 0), (1, _), (2, _), (3, .ref 7081)]) rfl ?_
  refine am_T.stp hN (pc' := 1) rfl ?_
  refine am_T.stp hN (pc' := 2) rfl ?_
  refine am_T.stp hN (pc' := 3) rfl ?_
  refine am_T.stp hN (pc' := 4) rfl ?_
  refine am_T.stp hN (pc' := 5) rfl ?_
  refine am_T.go hN (vs := [.ref 0, _, _]) (r := [.int 0, .ref 7081]) rfl ?_
  refine am_T.lvq (lv' := [(0, .ref 0), (1, _), (2, _)]) rfl ?_
  refine am_T.stp hN (pc' := 1) rfl ?_
  refine am_T.stp hN (pc' := 2) rfl ?_
  refine am_T.stp hN (pc' := 5) rfl ?_
  refine am_T.stp hN (pc' := 6) rfl ?_
  refine am_T.stp hN (pc' := 7) rfl ?_
  refine am_T.go hN (vs := [.ref 0, .ref 540, _, _]) (r := []) rfl ?_
  refine am_T.lvq (lv' := [(0, .ref 0), (1, .ref 540), (2, _), (3, _)]) rfl ?_
  refine am_T.stp hN (pc' := 1) rfl ?_
  refine am_T.go hN (vs := [.ref 0]) (r := []) rfl ?_
  refine am_T.lvq (lv' := [(0, .ref 0)]) rfl ?_
  refine am_T.stp hN (pc' := 1) rfl ?_
  refine am_T.stp hN (pc' := 4) rfl ?_
  refine am_T.stp hN (pc' := 7) rfl ?_
  refine am_T.stp hN rfl ?_
  refine am_T.jt (by first | rfl | decide) ?_
  refine am_T.ret rfl ?_
  refine am_T.bck (pc' := 4) (st' := []) rfl rfl ?_
  refine am_T.stp hN (pc' := 5) rfl ?_
  refine am_T.stp hN (pc' := 6) rfl ?_
  refine am_T.stp hN (pc' := 9) rfl ?_
  refine am_T.go hN (vs := [_, .int 0]) (r := []) rfl ?_
  refine am_T.lvq (lv' := [(0, _), (1, .int 0)]) rfl ?_
  refine am_T.stp hN (pc' := 1) rfl ?_
  refine am_T.stp hN rfl ?_
  refine am_T.js (fun hc1 => ?_) (fun hc1 => ?_)
  · skip
    have hc1 := pu_c_lt_t (Y := 0) hc1 rfl rfl
    try simp only [Int32.toInt_toInt64, pu_tI, pu_i3] at hc1
    refine am_T.thrO hN rfl rfl rfl rfl rfl ?_
    have hNE := pu_hN hN [.inr (99, [.null, .null, .null, .null, .null, .null])]
    refine ⟨_, rfl, ?_⟩
    refine ⟨_, rfl, ?_⟩
    refine ⟨_, rfl, ?_⟩
    refine am_T.bck (pc' := 1753) (st' := [.int 1]) rfl rfl ?_
    refine am_T.stp hNE (pc' := 1755) (lv' := [(5, .int 1), (4, .int 0), (3, .ref 7081), (2, .ref 6952), (1, .ref 0), (0, .float 200)]) rfl ?_
    refine am_T.stp hNE (pc' := 1756) rfl ?_
    refine am_T.stp hNE (pc' := 1757) rfl ?_
    refine am_T.stp hNE (pc' := 1759) rfl ?_
    refine am_T.stp hNE (pc' := 1760) rfl ?_
    refine am_T.stp hNE (pc' := 1761) rfl ?_
    refine am_T.stp hNE (pc' := 1762) (st' := .int (xs 1) :: _) rfl ?_
    refine am_T.stp hNE (pc' := 1763) rfl ?_
    refine am_T.stp hNE (pc' := 1765) rfl ?_
    refine am_T.stp hNE (pc' := 1766) rfl ?_
    refine am_T.stp hNE (pc' := 1767) rfl ?_
    refine am_T.stp hNE (pc' := 1768) (st' := .int (xs 2) :: _) rfl ?_
    refine am_T.go hNE (vs := [.ref 6952, _, _]) (r := []) rfl ?_
    refine am_T.lvq (lv' := [(0, .ref 6952), (1, _), (2, _)]) rfl ?_
    refine am_T.stp hNE (pc' := 1) rfl ?_
    refine am_T.stp hNE (pc' := 2) rfl ?_
    refine am_T.stp hNE (pc' := 3) rfl ?_
    refine am_T.stp hNE (pc' := 4) rfl ?_
    refine am_T.stp hNE (pc' := 5) rfl ?_
    refine am_T.stp hNE (pc' := 6) rfl ?_
    refine am_T.stp hNE (pc' := 9) rfl ?_
    refine am_T.stp hNE (pc' := 10) rfl ?_
    refine am_T.stp hNE (pc' := 11) rfl ?_
    refine am_T.stp hNE (pc' := 12) rfl ?_
    refine am_T.go hNE (vs := [_, .long 0, .long (-1)]) (r := [.int 3, .ref 6952]) rfl ?_
    refine am_T.lvq (lv' := [(0, _), (2, .long 0), (4, .long (-1))]) rfl ?_
    refine am_T.stp hNE (pc' := 1) rfl ?_
    refine am_T.stp hNE (pc' := 2) rfl ?_
    refine am_T.stp hNE (pc' := 3) rfl ?_
    refine am_T.stp hNE rfl ?_
    refine am_T.jt (pu_lp_lt_t (Y := 0) rfl rfl (by (try simp only [Int32.toInt_toInt64, pu_tI, pu_i3]); omega)) ?_
    refine am_T.stp hNE (pc' := 18) rfl ?_
    refine am_T.ret rfl ?_
    refine am_T.bck (pc' := 15) (st' := [.int 0, .int 3, .ref 6952]) rfl rfl ?_
    refine am_T.stp hNE (pc' := 16) rfl ?_
    refine am_T.stp hNE (pc' := 17) rfl ?_
    refine am_T.stp hNE (pc' := 18) rfl ?_
    refine am_T.stp hNE (pc' := 21) rfl ?_
    refine am_T.go hNE (vs := [_, .long 0, .long 3]) (r := [.int 0, .int 3, .ref 6952]) rfl ?_
    refine am_T.lvq (lv' := [(0, _), (2, .long 0), (4, .long 3)]) rfl ?_
    refine am_T.stp hNE (pc' := 1) rfl ?_
    refine am_T.stp hNE (pc' := 2) rfl ?_
    refine am_T.stp hNE (pc' := 3) rfl ?_
    refine am_T.stp hNE rfl ?_
    refine am_T.js (fun hc2 => ?_) (fun hc2 => ?_)
    · skip
      have hc2 := pu_lc_lt_t (Y := 0) hc2 rfl rfl
      try simp only [Int32.toInt_toInt64, pu_tI, pu_i3] at hc2
      refine am_T.stp hNE (pc' := 18) rfl ?_
      refine am_T.ret rfl ?_
      refine am_T.bck (pc' := 24) (st' := [.int 0, .int 0, .int 3, .ref 6952]) rfl rfl ?_
      refine am_T.stp hNE (pc' := 25) rfl ?_
      refine am_T.go hNE (vs := [.ref 6952, .int 3, .int 0, .int 0, .int 1]) (r := []) rfl ?_
      refine am_T.lvq (lv' := [(0, .ref 6952), (1, .int 3), (2, .int 0), (3, .int 0), (4, .int 1)]) rfl ?_
      refine am_T.stp hNE (pc' := 1) rfl ?_
      refine am_T.stp hNE (pc' := 2) rfl ?_
      refine am_T.stp hNE (pc' := 5) rfl ?_
      refine am_T.stp hNE rfl ?_
      refine am_T.jt (by first | rfl | decide) ?_
      refine am_T.stp hNE (pc' := 13) rfl ?_
      refine am_T.stp hNE rfl ?_
      refine am_T.jf (by first | rfl | decide) ?_
      refine am_T.stp hNE (pc' := 17) rfl ?_
      refine am_T.stp hNE (pc' := 38) rfl ?_
      refine am_T.stp hNE (pc' := 41) (ov' := (6952, .inr (12, [.int 1, .ref 6953, .int 0, .ref 6954, .int 0, .ref 6955, .int 0, .int 0, .int 0, .ref 6956, .ref 6957, .ref 6958, .ref 6959, .int 0, .int 0, .int 0, .int 0, .int 0, .long 0, .int (-1), .int (-1), .ref 6960, .ref 6961, .ref 6962, .ref 6963, .ref 6964, .ref 6965, .ref 6966, .ref 6967, .ref 6968, .ref 6969, .ref 6970, .ref 6971, .ref 6972, .ref 6973, .ref 6974, .int 0, .int 0, .int 0, .int 0, .int 0, .ref 6975, .ref 6976, .ref 6977, .ref 6978, .int 0, .int 0, .ref 6979, .ref 6980, .ref 6981, .ref 6982, .ref 6983, .ref 6984, .ref 6985, .ref 6986, .ref 6987, .ref 6988, .int 0, .ref 6989, .ref 6990, .int 0, .ref 6991, .int 0, .ref 6992, .ref 6993, .int 0, .ref 6994, .ref 6995, .ref 6996, .ref 6997, .ref 6998, .ref 6999, .ref 7000, .ref 7001, .ref 7002, .ref 7003, .ref 7004, .ref 7005, .ref 7006, .ref 7007, .ref 7008, .ref 7009, .ref 7010, .int 0, .long 0, .int 0, .ref 7011, .ref 7012, .ref 7013, .int 0, .ref 7014, .ref 7015, .ref 7016, .int 0, .ref 7017, .ref 7018, .int 0, .ref 7019, .ref 7020, .long 0, .long 0, .int 0, .int 0, .int 0, .int 0, .ref 7021, .ref 7022, .ref 7023, .ref 7024, .ref 7025, .int 0, .ref 7026, .ref 7027, .ref 7028, .ref 7029, .ref 7030, .int 0, .ref 7031, .ref 7032, .ref 7033, .ref 7034, .ref 7035, .int 0, .ref 7036, .int 0, .ref 7037, .ref 7038, .ref 7039, .ref 7040, .ref 7041, .int 0, .ref 7042, .ref 7043, .ref 7044, .int 0, .ref 7045, .ref 7046, .int 0, .ref 7047, .ref 7048, .ref 7049, .ref 7050, .ref 7051, .int 0, .ref 7052, .ref 7053, .ref 7054, .ref 7055, .ref 7056, .int 0, .int 0, .ref 7057, .ref 7058, .ref 7059, .ref 7060, .ref 7061, .ref 7062, .ref 7063, .ref 7064, .ref 7065, .ref 7066, .ref 7067, .ref 7068, .ref 7069, .ref 7070, .ref 7071, .ref 7072, .ref 7073, .ref 7074, .ref 7075, .ref 7076, .ref 7077, .ref 7078, .ref 7079, .long 0, .int 0, .ref 7080, .int 0, .int 0, .int (-1), .int 0, .int 0])) :: _) rfl ?_
      refine am_T.stp hNE (pc' := 42) rfl ?_
      refine am_T.stp hNE (pc' := 45) rfl ?_
      refine am_T.stp hNE rfl ?_
      refine am_T.jt (by first | rfl | decide) ?_
      refine am_T.stp hNE (pc' := 53) rfl ?_
      refine am_T.ret rfl ?_
      refine am_T.bck (pc' := 28) (st' := [.int 0]) rfl rfl ?_
      refine am_T.stp hNE rfl ?_
      refine am_T.jf (by first | rfl | decide) ?_
      refine am_T.stp hNE (pc' := 32) rfl ?_
      refine am_T.ret rfl ?_
      refine am_T.bck (pc' := 1771) (st' := [.long 0]) rfl rfl ?_
      refine am_T.stp hNE (pc' := 1773) (lv' := [(6, .long 0), (5, .int 1), (4, .int 0), (3, .ref 7081), (2, .ref 6952), (1, .ref 0), (0, .float 200)]) rfl ?_
      refine am_T.stp hNE (pc' := 1774) rfl ?_
      refine am_T.go hNE (vs := [.ref 6952]) (r := []) rfl ?_
      refine am_T.lvq (lv' := [(0, .ref 6952)]) rfl ?_
      refine am_T.stp hNE (pc' := 1) rfl ?_
      refine am_T.stp hNE (pc' := 4) rfl ?_
      refine am_T.ret rfl ?_
      refine am_T.bck (pc' := 1777) (st' := [.int 1]) rfl rfl ?_
      refine am_T.stp hNE (pc' := 1779) rfl ?_
      refine am_T.stp hNE rfl ?_
      refine am_T.jt (by first | rfl | decide) ?_
      refine am_T.stp hNE (pc' := 1786) rfl ?_
      refine am_T.stp hNE rfl ?_
      refine am_T.jt (by first | rfl | decide) ?_
      refine am_T.stp hNE (pc' := 2616) rfl ?_
      refine am_T.stp hNE (pc' := 2619) (lv' := [(4, .int 6), (6, .long 0), (5, .int 1), (3, .ref 7081), (2, .ref 6952), (1, .ref 0), (0, .float 200)]) rfl ?_
      refine am_T.stp hNE (pc' := 23) rfl ?_
      refine am_T.stp hNE (pc' := 25) rfl ?_
      refine am_T.stp hNE (pc' := 26) rfl ?_
      refine am_T.stp hNE (pc' := 27) rfl ?_
      refine am_T.stp hNE (pc' := 29) rfl ?_
      refine am_T.stp hNE (pc' := 30) rfl ?_
      refine am_T.stp hNE rfl ?_
      refine am_T.jt (by first | rfl | decide) ?_
      refine am_T.stp hNE (pc' := 2623) rfl ?_
      refine am_T.ret rfl ?_
      exact pu_finE rfl
    · skip
      have hc2 := pu_lc_lt_f (Y := 0) hc2 rfl rfl
      try simp only [Int32.toInt_toInt64, pu_tI, pu_i3] at hc2
      refine am_T.stp hNE (pc' := 7) rfl ?_
      refine am_T.stp hNE (pc' := 9) rfl ?_
      refine am_T.stp hNE (pc' := 10) rfl ?_
      refine am_T.stp hNE rfl ?_
      refine am_T.js (fun hc3 => ?_) (fun hc3 => ?_)
      · skip
        have hc3 := pu_lc_gt_t (Y := 3) hc3 rfl rfl
        try simp only [Int32.toInt_toInt64, pu_tI, pu_i3] at hc3
        refine am_T.stp hNE (pc' := 18) rfl ?_
        refine am_T.ret rfl ?_
        refine am_T.bck (pc' := 24) (st' := [.int 0, .int 0, .int 3, .ref 6952]) rfl rfl ?_
        refine am_T.stp hNE (pc' := 25) rfl ?_
        refine am_T.go hNE (vs := [.ref 6952, .int 3, .int 0, .int 0, .int 1]) (r := []) rfl ?_
        refine am_T.lvq (lv' := [(0, .ref 6952), (1, .int 3), (2, .int 0), (3, .int 0), (4, .int 1)]) rfl ?_
        refine am_T.stp hNE (pc' := 1) rfl ?_
        refine am_T.stp hNE (pc' := 2) rfl ?_
        refine am_T.stp hNE (pc' := 5) rfl ?_
        refine am_T.stp hNE rfl ?_
        refine am_T.jt (by first | rfl | decide) ?_
        refine am_T.stp hNE (pc' := 13) rfl ?_
        refine am_T.stp hNE rfl ?_
        refine am_T.jf (by first | rfl | decide) ?_
        refine am_T.stp hNE (pc' := 17) rfl ?_
        refine am_T.stp hNE (pc' := 38) rfl ?_
        refine am_T.stp hNE (pc' := 41) (ov' := (6952, .inr (12, [.int 1, .ref 6953, .int 0, .ref 6954, .int 0, .ref 6955, .int 0, .int 0, .int 0, .ref 6956, .ref 6957, .ref 6958, .ref 6959, .int 0, .int 0, .int 0, .int 0, .int 0, .long 0, .int (-1), .int (-1), .ref 6960, .ref 6961, .ref 6962, .ref 6963, .ref 6964, .ref 6965, .ref 6966, .ref 6967, .ref 6968, .ref 6969, .ref 6970, .ref 6971, .ref 6972, .ref 6973, .ref 6974, .int 0, .int 0, .int 0, .int 0, .int 0, .ref 6975, .ref 6976, .ref 6977, .ref 6978, .int 0, .int 0, .ref 6979, .ref 6980, .ref 6981, .ref 6982, .ref 6983, .ref 6984, .ref 6985, .ref 6986, .ref 6987, .ref 6988, .int 0, .ref 6989, .ref 6990, .int 0, .ref 6991, .int 0, .ref 6992, .ref 6993, .int 0, .ref 6994, .ref 6995, .ref 6996, .ref 6997, .ref 6998, .ref 6999, .ref 7000, .ref 7001, .ref 7002, .ref 7003, .ref 7004, .ref 7005, .ref 7006, .ref 7007, .ref 7008, .ref 7009, .ref 7010, .int 0, .long 0, .int 0, .ref 7011, .ref 7012, .ref 7013, .int 0, .ref 7014, .ref 7015, .ref 7016, .int 0, .ref 7017, .ref 7018, .int 0, .ref 7019, .ref 7020, .long 0, .long 0, .int 0, .int 0, .int 0, .int 0, .ref 7021, .ref 7022, .ref 7023, .ref 7024, .ref 7025, .int 0, .ref 7026, .ref 7027, .ref 7028, .ref 7029, .ref 7030, .int 0, .ref 7031, .ref 7032, .ref 7033, .ref 7034, .ref 7035, .int 0, .ref 7036, .int 0, .ref 7037, .ref 7038, .ref 7039, .ref 7040, .ref 7041, .int 0, .ref 7042, .ref 7043, .ref 7044, .int 0, .ref 7045, .ref 7046, .int 0, .ref 7047, .ref 7048, .ref 7049, .ref 7050, .ref 7051, .int 0, .ref 7052, .ref 7053, .ref 7054, .ref 7055, .ref 7056, .int 0, .int 0, .ref 7057, .ref 7058, .ref 7059, .ref 7060, .ref 7061, .ref 7062, .ref 7063, .ref 7064, .ref 7065, .ref 7066, .ref 7067, .ref 7068, .ref 7069, .ref 7070, .ref 7071, .ref 7072, .ref 7073, .ref 7074, .ref 7075, .ref 7076, .ref 7077, .ref 7078, .ref 7079, .long 0, .int 0, .ref 7080, .int 0, .int 0, .int (-1), .int 0, .int 0])) :: _) rfl ?_
        refine am_T.stp hNE (pc' := 42) rfl ?_
        refine am_T.stp hNE (pc' := 45) rfl ?_
        refine am_T.stp hNE rfl ?_
        refine am_T.jt (by first | rfl | decide) ?_
        refine am_T.stp hNE (pc' := 53) rfl ?_
        refine am_T.ret rfl ?_
        refine am_T.bck (pc' := 28) (st' := [.int 0]) rfl rfl ?_
        refine am_T.stp hNE rfl ?_
        refine am_T.jf (by first | rfl | decide) ?_
        refine am_T.stp hNE (pc' := 32) rfl ?_
        refine am_T.ret rfl ?_
        refine am_T.bck (pc' := 1771) (st' := [.long 0]) rfl rfl ?_
        refine am_T.stp hNE (pc' := 1773) (lv' := [(6, .long 0), (5, .int 1), (4, .int 0), (3, .ref 7081), (2, .ref 6952), (1, .ref 0), (0, .float 200)]) rfl ?_
        refine am_T.stp hNE (pc' := 1774) rfl ?_
        refine am_T.go hNE (vs := [.ref 6952]) (r := []) rfl ?_
        refine am_T.lvq (lv' := [(0, .ref 6952)]) rfl ?_
        refine am_T.stp hNE (pc' := 1) rfl ?_
        refine am_T.stp hNE (pc' := 4) rfl ?_
        refine am_T.ret rfl ?_
        refine am_T.bck (pc' := 1777) (st' := [.int 1]) rfl rfl ?_
        refine am_T.stp hNE (pc' := 1779) rfl ?_
        refine am_T.stp hNE rfl ?_
        refine am_T.jt (by first | rfl | decide) ?_
        refine am_T.stp hNE (pc' := 1786) rfl ?_
        refine am_T.stp hNE rfl ?_
        refine am_T.jt (by first | rfl | decide) ?_
        refine am_T.stp hNE (pc' := 2616) rfl ?_
        refine am_T.stp hNE (pc' := 2619) (lv' := [(4, .int 6), (6, .long 0), (5, .int 1), (3, .ref 7081), (2, .ref 6952), (1, .ref 0), (0, .float 200)]) rfl ?_
        refine am_T.stp hNE (pc' := 23) rfl ?_
        refine am_T.stp hNE (pc' := 25) rfl ?_
        refine am_T.stp hNE (pc' := 26) rfl ?_
        refine am_T.stp hNE (pc' := 27) rfl ?_
        refine am_T.stp hNE (pc' := 29) rfl ?_
        refine am_T.stp hNE (pc' := 30) rfl ?_
        refine am_T.stp hNE rfl ?_
        refine am_T.jt (by first | rfl | decide) ?_
        refine am_T.stp hNE (pc' := 2623) rfl ?_
        refine am_T.ret rfl ?_
        exact pu_finE rfl
      · skip
        have hc3 := pu_lc_gt_f (Y := 3) hc3 rfl rfl
        try simp only [Int32.toInt_toInt64, pu_tI, pu_i3] at hc3
        refine am_T.stp hNE (pc' := 14) rfl ?_
        refine am_T.stp hNE (pc' := 18) rfl ?_
        refine am_T.ret rfl ?_
        refine am_T.bck (pc' := 24) (st' := [.int 1, .int 0, .int 3, .ref 6952]) rfl rfl ?_
        refine am_T.stp hNE (pc' := 25) rfl ?_
        refine am_T.go hNE (vs := [.ref 6952, .int 3, .int 0, .int 1, .int 1]) (r := []) rfl ?_
        refine am_T.lvq (lv' := [(0, .ref 6952), (1, .int 3), (2, .int 0), (3, .int 1), (4, .int 1)]) rfl ?_
        refine am_T.stp hNE (pc' := 1) rfl ?_
        refine am_T.stp hNE (pc' := 2) rfl ?_
        refine am_T.stp hNE (pc' := 5) rfl ?_
        refine am_T.stp hNE rfl ?_
        refine am_T.jt (by first | rfl | decide) ?_
        refine am_T.stp hNE (pc' := 13) rfl ?_
        refine am_T.stp hNE rfl ?_
        refine am_T.jf (by first | rfl | decide) ?_
        refine am_T.stp hNE (pc' := 17) rfl ?_
        refine am_T.stp hNE (pc' := 38) rfl ?_
        refine am_T.stp hNE (pc' := 41) (ov' := (6952, .inr (12, [.int 1, .ref 6953, .int 0, .ref 6954, .int 0, .ref 6955, .int 0, .int 0, .int 0, .ref 6956, .ref 6957, .ref 6958, .ref 6959, .int 0, .int 0, .int 0, .int 0, .int 0, .long 0, .int (-1), .int (-1), .ref 6960, .ref 6961, .ref 6962, .ref 6963, .ref 6964, .ref 6965, .ref 6966, .ref 6967, .ref 6968, .ref 6969, .ref 6970, .ref 6971, .ref 6972, .ref 6973, .ref 6974, .int 0, .int 0, .int 0, .int 0, .int 0, .ref 6975, .ref 6976, .ref 6977, .ref 6978, .int 0, .int 0, .ref 6979, .ref 6980, .ref 6981, .ref 6982, .ref 6983, .ref 6984, .ref 6985, .ref 6986, .ref 6987, .ref 6988, .int 0, .ref 6989, .ref 6990, .int 0, .ref 6991, .int 0, .ref 6992, .ref 6993, .int 0, .ref 6994, .ref 6995, .ref 6996, .ref 6997, .ref 6998, .ref 6999, .ref 7000, .ref 7001, .ref 7002, .ref 7003, .ref 7004, .ref 7005, .ref 7006, .ref 7007, .ref 7008, .ref 7009, .ref 7010, .int 0, .long 0, .int 0, .ref 7011, .ref 7012, .ref 7013, .int 0, .ref 7014, .ref 7015, .ref 7016, .int 0, .ref 7017, .ref 7018, .int 0, .ref 7019, .ref 7020, .long 0, .long 0, .int 0, .int 0, .int 0, .int 0, .ref 7021, .ref 7022, .ref 7023, .ref 7024, .ref 7025, .int 0, .ref 7026, .ref 7027, .ref 7028, .ref 7029, .ref 7030, .int 0, .ref 7031, .ref 7032, .ref 7033, .ref 7034, .ref 7035, .int 0, .ref 7036, .int 0, .ref 7037, .ref 7038, .ref 7039, .ref 7040, .ref 7041, .int 0, .ref 7042, .ref 7043, .ref 7044, .int 0, .ref 7045, .ref 7046, .int 0, .ref 7047, .ref 7048, .ref 7049, .ref 7050, .ref 7051, .int 0, .ref 7052, .ref 7053, .ref 7054, .ref 7055, .ref 7056, .int 0, .int 0, .ref 7057, .ref 7058, .ref 7059, .ref 7060, .ref 7061, .ref 7062, .ref 7063, .ref 7064, .ref 7065, .ref 7066, .ref 7067, .ref 7068, .ref 7069, .ref 7070, .ref 7071, .ref 7072, .ref 7073, .ref 7074, .ref 7075, .ref 7076, .ref 7077, .ref 7078, .ref 7079, .long 0, .int 0, .ref 7080, .int 0, .int 0, .int (-1), .int 0, .int 0])) :: _) rfl ?_
        refine am_T.stp hNE (pc' := 42) rfl ?_
        refine am_T.stp hNE (pc' := 45) rfl ?_
        refine am_T.stp hNE rfl ?_
        refine am_T.jt (by first | rfl | decide) ?_
        refine am_T.stp hNE (pc' := 53) rfl ?_
        refine am_T.ret rfl ?_
        refine am_T.bck (pc' := 28) (st' := [.int 0]) rfl rfl ?_
        refine am_T.stp hNE rfl ?_
        refine am_T.jf (by first | rfl | decide) ?_
        refine am_T.stp hNE (pc' := 32) rfl ?_
        refine am_T.ret rfl ?_
        refine am_T.bck (pc' := 1771) (st' := [.long 0]) rfl rfl ?_
        refine am_T.stp hNE (pc' := 1773) (lv' := [(6, .long 0), (5, .int 1), (4, .int 0), (3, .ref 7081), (2, .ref 6952), (1, .ref 0), (0, .float 200)]) rfl ?_
        refine am_T.stp hNE (pc' := 1774) rfl ?_
        refine am_T.go hNE (vs := [.ref 6952]) (r := []) rfl ?_
        refine am_T.lvq (lv' := [(0, .ref 6952)]) rfl ?_
        refine am_T.stp hNE (pc' := 1) rfl ?_
        refine am_T.stp hNE (pc' := 4) rfl ?_
        refine am_T.ret rfl ?_
        refine am_T.bck (pc' := 1777) (st' := [.int 1]) rfl rfl ?_
        refine am_T.stp hNE (pc' := 1779) rfl ?_
        refine am_T.stp hNE rfl ?_
        refine am_T.jt (by first | rfl | decide) ?_
        refine am_T.stp hNE (pc' := 1786) rfl ?_
        refine am_T.stp hNE rfl ?_
        refine am_T.jt (by first | rfl | decide) ?_
        refine am_T.stp hNE (pc' := 2616) rfl ?_
        refine am_T.stp hNE (pc' := 2619) (lv' := [(4, .int 6), (6, .long 0), (5, .int 1), (3, .ref 7081), (2, .ref 6952), (1, .ref 0), (0, .float 200)]) rfl ?_
        refine am_T.stp hNE (pc' := 23) rfl ?_
        refine am_T.stp hNE (pc' := 25) rfl ?_
        refine am_T.stp hNE (pc' := 26) rfl ?_
        refine am_T.stp hNE (pc' := 27) rfl ?_
        refine am_T.stp hNE (pc' := 29) rfl ?_
        refine am_T.stp hNE (pc' := 30) rfl ?_
        refine am_T.stp hNE rfl ?_
        refine am_T.jt (by first | rfl | decide) ?_
        refine am_T.stp hNE (pc' := 2623) rfl ?_
        refine am_T.ret rfl ?_
        exact pu_finE rfl
  · skip
    have hc1 := pu_c_lt_f (Y := 0) hc1 rfl rfl
    try simp only [Int32.toInt_toInt64, pu_tI, pu_i3] at hc1
    refine am_T.stp hN (pc' := 5) rfl ?_
    refine am_T.stp hN (pc' := 6) rfl ?_
    refine am_T.stp hN rfl ?_
    refine am_T.jf (pu_p_lt_f (Y := 0) rfl rfl (by (try simp only [Int32.toInt_toInt64, pu_tI, pu_i3]); omega)) ?_
    refine am_T.thrO hN rfl rfl rfl rfl rfl ?_
    have hNE := pu_hN hN [.inr (99, [.null, .null, .null, .null, .null, .null])]
    refine ⟨_, rfl, ?_⟩
    refine ⟨_, rfl, ?_⟩
    refine ⟨_, rfl, ?_⟩
    refine am_T.bck (pc' := 1753) (st' := [.int 1]) rfl rfl ?_
    refine am_T.stp hNE (pc' := 1755) (lv' := [(5, .int 1), (4, .int 0), (3, .ref 7081), (2, .ref 6952), (1, .ref 0), (0, .float 200)]) rfl ?_
    refine am_T.stp hNE (pc' := 1756) rfl ?_
    refine am_T.stp hNE (pc' := 1757) rfl ?_
    refine am_T.stp hNE (pc' := 1759) rfl ?_
    refine am_T.stp hNE (pc' := 1760) rfl ?_
    refine am_T.stp hNE (pc' := 1761) rfl ?_
    refine am_T.stp hNE (pc' := 1762) (st' := .int (xs 1) :: _) rfl ?_
    refine am_T.stp hNE (pc' := 1763) rfl ?_
    refine am_T.stp hNE (pc' := 1765) rfl ?_
    refine am_T.stp hNE (pc' := 1766) rfl ?_
    refine am_T.stp hNE (pc' := 1767) rfl ?_
    refine am_T.stp hNE (pc' := 1768) (st' := .int (xs 2) :: _) rfl ?_
    refine am_T.go hNE (vs := [.ref 6952, _, _]) (r := []) rfl ?_
    refine am_T.lvq (lv' := [(0, .ref 6952), (1, _), (2, _)]) rfl ?_
    refine am_T.stp hNE (pc' := 1) rfl ?_
    refine am_T.stp hNE (pc' := 2) rfl ?_
    refine am_T.stp hNE (pc' := 3) rfl ?_
    refine am_T.stp hNE (pc' := 4) rfl ?_
    refine am_T.stp hNE (pc' := 5) rfl ?_
    refine am_T.stp hNE (pc' := 6) rfl ?_
    refine am_T.stp hNE (pc' := 9) rfl ?_
    refine am_T.stp hNE (pc' := 10) rfl ?_
    refine am_T.stp hNE (pc' := 11) rfl ?_
    refine am_T.stp hNE (pc' := 12) rfl ?_
    refine am_T.go hNE (vs := [_, .long 0, .long (-1)]) (r := [.int 3, .ref 6952]) rfl ?_
    refine am_T.lvq (lv' := [(0, _), (2, .long 0), (4, .long (-1))]) rfl ?_
    refine am_T.stp hNE (pc' := 1) rfl ?_
    refine am_T.stp hNE (pc' := 2) rfl ?_
    refine am_T.stp hNE (pc' := 3) rfl ?_
    refine am_T.stp hNE rfl ?_
    refine am_T.jf (pu_lp_lt_f (Y := 0) rfl rfl (by (try simp only [Int32.toInt_toInt64, pu_tI, pu_i3]); omega)) ?_
    refine am_T.stp hNE (pc' := 7) rfl ?_
    refine am_T.stp hNE (pc' := 9) rfl ?_
    refine am_T.stp hNE (pc' := 10) rfl ?_
    refine am_T.stp hNE rfl ?_
    refine am_T.jt (pu_lp_gt_t (Y := (-1)) rfl rfl (by (try simp only [Int32.toInt_toInt64, pu_tI, pu_i3]); omega)) ?_
    refine am_T.stp hNE (pc' := 18) rfl ?_
    refine am_T.ret rfl ?_
    refine am_T.bck (pc' := 15) (st' := [.int 0, .int 3, .ref 6952]) rfl rfl ?_
    refine am_T.stp hNE (pc' := 16) rfl ?_
    refine am_T.stp hNE (pc' := 17) rfl ?_
    refine am_T.stp hNE (pc' := 18) rfl ?_
    refine am_T.stp hNE (pc' := 21) rfl ?_
    refine am_T.go hNE (vs := [_, .long 0, .long 3]) (r := [.int 0, .int 3, .ref 6952]) rfl ?_
    refine am_T.lvq (lv' := [(0, _), (2, .long 0), (4, .long 3)]) rfl ?_
    refine am_T.stp hNE (pc' := 1) rfl ?_
    refine am_T.stp hNE (pc' := 2) rfl ?_
    refine am_T.stp hNE (pc' := 3) rfl ?_
    refine am_T.stp hNE rfl ?_
    refine am_T.js (fun hc4 => ?_) (fun hc4 => ?_)
    · skip
      have hc4 := pu_lc_lt_t (Y := 0) hc4 rfl rfl
      try simp only [Int32.toInt_toInt64, pu_tI, pu_i3] at hc4
      refine am_T.stp hNE (pc' := 18) rfl ?_
      refine am_T.ret rfl ?_
      refine am_T.bck (pc' := 24) (st' := [.int 0, .int 0, .int 3, .ref 6952]) rfl rfl ?_
      refine am_T.stp hNE (pc' := 25) rfl ?_
      refine am_T.go hNE (vs := [.ref 6952, .int 3, .int 0, .int 0, .int 1]) (r := []) rfl ?_
      refine am_T.lvq (lv' := [(0, .ref 6952), (1, .int 3), (2, .int 0), (3, .int 0), (4, .int 1)]) rfl ?_
      refine am_T.stp hNE (pc' := 1) rfl ?_
      refine am_T.stp hNE (pc' := 2) rfl ?_
      refine am_T.stp hNE (pc' := 5) rfl ?_
      refine am_T.stp hNE rfl ?_
      refine am_T.jt (by first | rfl | decide) ?_
      refine am_T.stp hNE (pc' := 13) rfl ?_
      refine am_T.stp hNE rfl ?_
      refine am_T.jf (by first | rfl | decide) ?_
      refine am_T.stp hNE (pc' := 17) rfl ?_
      refine am_T.stp hNE (pc' := 38) rfl ?_
      refine am_T.stp hNE (pc' := 41) (ov' := (6952, .inr (12, [.int 1, .ref 6953, .int 0, .ref 6954, .int 0, .ref 6955, .int 0, .int 0, .int 0, .ref 6956, .ref 6957, .ref 6958, .ref 6959, .int 0, .int 0, .int 0, .int 0, .int 0, .long 0, .int (-1), .int (-1), .ref 6960, .ref 6961, .ref 6962, .ref 6963, .ref 6964, .ref 6965, .ref 6966, .ref 6967, .ref 6968, .ref 6969, .ref 6970, .ref 6971, .ref 6972, .ref 6973, .ref 6974, .int 0, .int 0, .int 0, .int 0, .int 0, .ref 6975, .ref 6976, .ref 6977, .ref 6978, .int 0, .int 0, .ref 6979, .ref 6980, .ref 6981, .ref 6982, .ref 6983, .ref 6984, .ref 6985, .ref 6986, .ref 6987, .ref 6988, .int 0, .ref 6989, .ref 6990, .int 0, .ref 6991, .int 0, .ref 6992, .ref 6993, .int 0, .ref 6994, .ref 6995, .ref 6996, .ref 6997, .ref 6998, .ref 6999, .ref 7000, .ref 7001, .ref 7002, .ref 7003, .ref 7004, .ref 7005, .ref 7006, .ref 7007, .ref 7008, .ref 7009, .ref 7010, .int 0, .long 0, .int 0, .ref 7011, .ref 7012, .ref 7013, .int 0, .ref 7014, .ref 7015, .ref 7016, .int 0, .ref 7017, .ref 7018, .int 0, .ref 7019, .ref 7020, .long 0, .long 0, .int 0, .int 0, .int 0, .int 0, .ref 7021, .ref 7022, .ref 7023, .ref 7024, .ref 7025, .int 0, .ref 7026, .ref 7027, .ref 7028, .ref 7029, .ref 7030, .int 0, .ref 7031, .ref 7032, .ref 7033, .ref 7034, .ref 7035, .int 0, .ref 7036, .int 0, .ref 7037, .ref 7038, .ref 7039, .ref 7040, .ref 7041, .int 0, .ref 7042, .ref 7043, .ref 7044, .int 0, .ref 7045, .ref 7046, .int 0, .ref 7047, .ref 7048, .ref 7049, .ref 7050, .ref 7051, .int 0, .ref 7052, .ref 7053, .ref 7054, .ref 7055, .ref 7056, .int 0, .int 0, .ref 7057, .ref 7058, .ref 7059, .ref 7060, .ref 7061, .ref 7062, .ref 7063, .ref 7064, .ref 7065, .ref 7066, .ref 7067, .ref 7068, .ref 7069, .ref 7070, .ref 7071, .ref 7072, .ref 7073, .ref 7074, .ref 7075, .ref 7076, .ref 7077, .ref 7078, .ref 7079, .long 0, .int 0, .ref 7080, .int 0, .int 0, .int (-1), .int 0, .int 0])) :: _) rfl ?_
      refine am_T.stp hNE (pc' := 42) rfl ?_
      refine am_T.stp hNE (pc' := 45) rfl ?_
      refine am_T.stp hNE rfl ?_
      refine am_T.jt (by first | rfl | decide) ?_
      refine am_T.stp hNE (pc' := 53) rfl ?_
      refine am_T.ret rfl ?_
      refine am_T.bck (pc' := 28) (st' := [.int 0]) rfl rfl ?_
      refine am_T.stp hNE rfl ?_
      refine am_T.jf (by first | rfl | decide) ?_
      refine am_T.stp hNE (pc' := 32) rfl ?_
      refine am_T.ret rfl ?_
      refine am_T.bck (pc' := 1771) (st' := [.long 0]) rfl rfl ?_
      refine am_T.stp hNE (pc' := 1773) (lv' := [(6, .long 0), (5, .int 1), (4, .int 0), (3, .ref 7081), (2, .ref 6952), (1, .ref 0), (0, .float 200)]) rfl ?_
      refine am_T.stp hNE (pc' := 1774) rfl ?_
      refine am_T.go hNE (vs := [.ref 6952]) (r := []) rfl ?_
      refine am_T.lvq (lv' := [(0, .ref 6952)]) rfl ?_
      refine am_T.stp hNE (pc' := 1) rfl ?_
      refine am_T.stp hNE (pc' := 4) rfl ?_
      refine am_T.ret rfl ?_
      refine am_T.bck (pc' := 1777) (st' := [.int 1]) rfl rfl ?_
      refine am_T.stp hNE (pc' := 1779) rfl ?_
      refine am_T.stp hNE rfl ?_
      refine am_T.jt (by first | rfl | decide) ?_
      refine am_T.stp hNE (pc' := 1786) rfl ?_
      refine am_T.stp hNE rfl ?_
      refine am_T.jt (by first | rfl | decide) ?_
      refine am_T.stp hNE (pc' := 2616) rfl ?_
      refine am_T.stp hNE (pc' := 2619) (lv' := [(4, .int 6), (6, .long 0), (5, .int 1), (3, .ref 7081), (2, .ref 6952), (1, .ref 0), (0, .float 200)]) rfl ?_
      refine am_T.stp hNE (pc' := 23) rfl ?_
      refine am_T.stp hNE (pc' := 25) rfl ?_
      refine am_T.stp hNE (pc' := 26) rfl ?_
      refine am_T.stp hNE (pc' := 27) rfl ?_
      refine am_T.stp hNE (pc' := 29) rfl ?_
      refine am_T.stp hNE (pc' := 30) rfl ?_
      refine am_T.stp hNE rfl ?_
      refine am_T.jt (by first | rfl | decide) ?_
      refine am_T.stp hNE (pc' := 2623) rfl ?_
      refine am_T.ret rfl ?_
      exact pu_finE rfl
    · skip
      have hc4 := pu_lc_lt_f (Y := 0) hc4 rfl rfl
      try simp only [Int32.toInt_toInt64, pu_tI, pu_i3] at hc4
      refine am_T.stp hNE (pc' := 7) rfl ?_
      refine am_T.stp hNE (pc' := 9) rfl ?_
      refine am_T.stp hNE (pc' := 10) rfl ?_
      refine am_T.stp hNE rfl ?_
      refine am_T.js (fun hc5 => ?_) (fun hc5 => ?_)
      · skip
        have hc5 := pu_lc_gt_t (Y := 3) hc5 rfl rfl
        try simp only [Int32.toInt_toInt64, pu_tI, pu_i3] at hc5
        refine am_T.stp hNE (pc' := 18) rfl ?_
        refine am_T.ret rfl ?_
        refine am_T.bck (pc' := 24) (st' := [.int 0, .int 0, .int 3, .ref 6952]) rfl rfl ?_
        refine am_T.stp hNE (pc' := 25) rfl ?_
        refine am_T.go hNE (vs := [.ref 6952, .int 3, .int 0, .int 0, .int 1]) (r := []) rfl ?_
        refine am_T.lvq (lv' := [(0, .ref 6952), (1, .int 3), (2, .int 0), (3, .int 0), (4, .int 1)]) rfl ?_
        refine am_T.stp hNE (pc' := 1) rfl ?_
        refine am_T.stp hNE (pc' := 2) rfl ?_
        refine am_T.stp hNE (pc' := 5) rfl ?_
        refine am_T.stp hNE rfl ?_
        refine am_T.jt (by first | rfl | decide) ?_
        refine am_T.stp hNE (pc' := 13) rfl ?_
        refine am_T.stp hNE rfl ?_
        refine am_T.jf (by first | rfl | decide) ?_
        refine am_T.stp hNE (pc' := 17) rfl ?_
        refine am_T.stp hNE (pc' := 38) rfl ?_
        refine am_T.stp hNE (pc' := 41) (ov' := (6952, .inr (12, [.int 1, .ref 6953, .int 0, .ref 6954, .int 0, .ref 6955, .int 0, .int 0, .int 0, .ref 6956, .ref 6957, .ref 6958, .ref 6959, .int 0, .int 0, .int 0, .int 0, .int 0, .long 0, .int (-1), .int (-1), .ref 6960, .ref 6961, .ref 6962, .ref 6963, .ref 6964, .ref 6965, .ref 6966, .ref 6967, .ref 6968, .ref 6969, .ref 6970, .ref 6971, .ref 6972, .ref 6973, .ref 6974, .int 0, .int 0, .int 0, .int 0, .int 0, .ref 6975, .ref 6976, .ref 6977, .ref 6978, .int 0, .int 0, .ref 6979, .ref 6980, .ref 6981, .ref 6982, .ref 6983, .ref 6984, .ref 6985, .ref 6986, .ref 6987, .ref 6988, .int 0, .ref 6989, .ref 6990, .int 0, .ref 6991, .int 0, .ref 6992, .ref 6993, .int 0, .ref 6994, .ref 6995, .ref 6996, .ref 6997, .ref 6998, .ref 6999, .ref 7000, .ref 7001, .ref 7002, .ref 7003, .ref 7004, .ref 7005, .ref 7006, .ref 7007, .ref 7008, .ref 7009, .ref 7010, .int 0, .long 0, .int 0, .ref 7011, .ref 7012, .ref 7013, .int 0, .ref 7014, .ref 7015, .ref 7016, .int 0, .ref 7017, .ref 7018, .int 0, .ref 7019, .ref 7020, .long 0, .long 0, .int 0, .int 0, .int 0, .int 0, .ref 7021, .ref 7022, .ref 7023, .ref 7024, .ref 7025, .int 0, .ref 7026, .ref 7027, .ref 7028, .ref 7029, .ref 7030, .int 0, .ref 7031, .ref 7032, .ref 7033, .ref 7034, .ref 7035, .int 0, .ref 7036, .int 0, .ref 7037, .ref 7038, .ref 7039, .ref 7040, .ref 7041, .int 0, .ref 7042, .ref 7043, .ref 7044, .int 0, .ref 7045, .ref 7046, .int 0, .ref 7047, .ref 7048, .ref 7049, .ref 7050, .ref 7051, .int 0, .ref 7052, .ref 7053, .ref 7054, .ref 7055, .ref 7056, .int 0, .int 0, .ref 7057, .ref 7058, .ref 7059, .ref 7060, .ref 7061, .ref 7062, .ref 7063, .ref 7064, .ref 7065, .ref 7066, .ref 7067, .ref 7068, .ref 7069, .ref 7070, .ref 7071, .ref 7072, .ref 7073, .ref 7074, .ref 7075, .ref 7076, .ref 7077, .ref 7078, .ref 7079, .long 0, .int 0, .ref 7080, .int 0, .int 0, .int (-1), .int 0, .int 0])) :: _) rfl ?_
        refine am_T.stp hNE (pc' := 42) rfl ?_
        refine am_T.stp hNE (pc' := 45) rfl ?_
        refine am_T.stp hNE rfl ?_
        refine am_T.jt (by first | rfl | decide) ?_
        refine am_T.stp hNE (pc' := 53) rfl ?_
        refine am_T.ret rfl ?_
        refine am_T.bck (pc' := 28) (st' := [.int 0]) rfl rfl ?_
        refine am_T.stp hNE rfl ?_
        refine am_T.jf (by first | rfl | decide) ?_
        refine am_T.stp hNE (pc' := 32) rfl ?_
        refine am_T.ret rfl ?_
        refine am_T.bck (pc' := 1771) (st' := [.long 0]) rfl rfl ?_
        refine am_T.stp hNE (pc' := 1773) (lv' := [(6, .long 0), (5, .int 1), (4, .int 0), (3, .ref 7081), (2, .ref 6952), (1, .ref 0), (0, .float 200)]) rfl ?_
        refine am_T.stp hNE (pc' := 1774) rfl ?_
        refine am_T.go hNE (vs := [.ref 6952]) (r := []) rfl ?_
        refine am_T.lvq (lv' := [(0, .ref 6952)]) rfl ?_
        refine am_T.stp hNE (pc' := 1) rfl ?_
        refine am_T.stp hNE (pc' := 4) rfl ?_
        refine am_T.ret rfl ?_
        refine am_T.bck (pc' := 1777) (st' := [.int 1]) rfl rfl ?_
        refine am_T.stp hNE (pc' := 1779) rfl ?_
        refine am_T.stp hNE rfl ?_
        refine am_T.jt (by first | rfl | decide) ?_
        refine am_T.stp hNE (pc' := 1786) rfl ?_
        refine am_T.stp hNE rfl ?_
        refine am_T.jt (by first | rfl | decide) ?_
        refine am_T.stp hNE (pc' := 2616) rfl ?_
        refine am_T.stp hNE (pc' := 2619) (lv' := [(4, .int 6), (6, .long 0), (5, .int 1), (3, .ref 7081), (2, .ref 6952), (1, .ref 0), (0, .float 200)]) rfl ?_
        refine am_T.stp hNE (pc' := 23) rfl ?_
        refine am_T.stp hNE (pc' := 25) rfl ?_
        refine am_T.stp hNE (pc' := 26) rfl ?_
        refine am_T.stp hNE (pc' := 27) rfl ?_
        refine am_T.stp hNE (pc' := 29) rfl ?_
        refine am_T.stp hNE (pc' := 30) rfl ?_
        refine am_T.stp hNE rfl ?_
        refine am_T.jt (by first | rfl | decide) ?_
        refine am_T.stp hNE (pc' := 2623) rfl ?_
        refine am_T.ret rfl ?_
        exact pu_finE rfl
      · skip
        have hc5 := pu_lc_gt_f (Y := 3) hc5 rfl rfl
        try simp only [Int32.toInt_toInt64, pu_tI, pu_i3] at hc5
        refine am_T.stp hNE (pc' := 14) rfl ?_
        refine am_T.stp hNE (pc' := 18) rfl ?_
        refine am_T.ret rfl ?_
        refine am_T.bck (pc' := 24) (st' := [.int 1, .int 0, .int 3, .ref 6952]) rfl rfl ?_
        refine am_T.stp hNE (pc' := 25) rfl ?_
        refine am_T.go hNE (vs := [.ref 6952, .int 3, .int 0, .int 1, .int 1]) (r := []) rfl ?_
        refine am_T.lvq (lv' := [(0, .ref 6952), (1, .int 3), (2, .int 0), (3, .int 1), (4, .int 1)]) rfl ?_
        refine am_T.stp hNE (pc' := 1) rfl ?_
        refine am_T.stp hNE (pc' := 2) rfl ?_
        refine am_T.stp hNE (pc' := 5) rfl ?_
        refine am_T.stp hNE rfl ?_
        refine am_T.jt (by first | rfl | decide) ?_
        refine am_T.stp hNE (pc' := 13) rfl ?_
        refine am_T.stp hNE rfl ?_
        refine am_T.jf (by first | rfl | decide) ?_
        refine am_T.stp hNE (pc' := 17) rfl ?_
        refine am_T.stp hNE (pc' := 38) rfl ?_
        refine am_T.stp hNE (pc' := 41) (ov' := (6952, .inr (12, [.int 1, .ref 6953, .int 0, .ref 6954, .int 0, .ref 6955, .int 0, .int 0, .int 0, .ref 6956, .ref 6957, .ref 6958, .ref 6959, .int 0, .int 0, .int 0, .int 0, .int 0, .long 0, .int (-1), .int (-1), .ref 6960, .ref 6961, .ref 6962, .ref 6963, .ref 6964, .ref 6965, .ref 6966, .ref 6967, .ref 6968, .ref 6969, .ref 6970, .ref 6971, .ref 6972, .ref 6973, .ref 6974, .int 0, .int 0, .int 0, .int 0, .int 0, .ref 6975, .ref 6976, .ref 6977, .ref 6978, .int 0, .int 0, .ref 6979, .ref 6980, .ref 6981, .ref 6982, .ref 6983, .ref 6984, .ref 6985, .ref 6986, .ref 6987, .ref 6988, .int 0, .ref 6989, .ref 6990, .int 0, .ref 6991, .int 0, .ref 6992, .ref 6993, .int 0, .ref 6994, .ref 6995, .ref 6996, .ref 6997, .ref 6998, .ref 6999, .ref 7000, .ref 7001, .ref 7002, .ref 7003, .ref 7004, .ref 7005, .ref 7006, .ref 7007, .ref 7008, .ref 7009, .ref 7010, .int 0, .long 0, .int 0, .ref 7011, .ref 7012, .ref 7013, .int 0, .ref 7014, .ref 7015, .ref 7016, .int 0, .ref 7017, .ref 7018, .int 0, .ref 7019, .ref 7020, .long 0, .long 0, .int 0, .int 0, .int 0, .int 0, .ref 7021, .ref 7022, .ref 7023, .ref 7024, .ref 7025, .int 0, .ref 7026, .ref 7027, .ref 7028, .ref 7029, .ref 7030, .int 0, .ref 7031, .ref 7032, .ref 7033, .ref 7034, .ref 7035, .int 0, .ref 7036, .int 0, .ref 7037, .ref 7038, .ref 7039, .ref 7040, .ref 7041, .int 0, .ref 7042, .ref 7043, .ref 7044, .int 0, .ref 7045, .ref 7046, .int 0, .ref 7047, .ref 7048, .ref 7049, .ref 7050, .ref 7051, .int 0, .ref 7052, .ref 7053, .ref 7054, .ref 7055, .ref 7056, .int 0, .int 0, .ref 7057, .ref 7058, .ref 7059, .ref 7060, .ref 7061, .ref 7062, .ref 7063, .ref 7064, .ref 7065, .ref 7066, .ref 7067, .ref 7068, .ref 7069, .ref 7070, .ref 7071, .ref 7072, .ref 7073, .ref 7074, .ref 7075, .ref 7076, .ref 7077, .ref 7078, .ref 7079, .long 0, .int 0, .ref 7080, .int 0, .int 0, .int (-1), .int 0, .int 0])) :: _) rfl ?_
        refine am_T.stp hNE (pc' := 42) rfl ?_
        refine am_T.stp hNE (pc' := 45) rfl ?_
        refine am_T.stp hNE rfl ?_
        refine am_T.jt (by first | rfl | decide) ?_
        refine am_T.stp hNE (pc' := 53) rfl ?_
        refine am_T.ret rfl ?_
        refine am_T.bck (pc' := 28) (st' := [.int 0]) rfl rfl ?_
        refine am_T.stp hNE rfl ?_
        refine am_T.jf (by first | rfl | decide) ?_
        refine am_T.stp hNE (pc' := 32) rfl ?_
        refine am_T.ret rfl ?_
        refine am_T.bck (pc' := 1771) (st' := [.long 0]) rfl rfl ?_
        refine am_T.stp hNE (pc' := 1773) (lv' := [(6, .long 0), (5, .int 1), (4, .int 0), (3, .ref 7081), (2, .ref 6952), (1, .ref 0), (0, .float 200)]) rfl ?_
        refine am_T.stp hNE (pc' := 1774) rfl ?_
        refine am_T.go hNE (vs := [.ref 6952]) (r := []) rfl ?_
        refine am_T.lvq (lv' := [(0, .ref 6952)]) rfl ?_
        refine am_T.stp hNE (pc' := 1) rfl ?_
        refine am_T.stp hNE (pc' := 4) rfl ?_
        refine am_T.ret rfl ?_
        refine am_T.bck (pc' := 1777) (st' := [.int 1]) rfl rfl ?_
        refine am_T.stp hNE (pc' := 1779) rfl ?_
        refine am_T.stp hNE rfl ?_
        refine am_T.jt (by first | rfl | decide) ?_
        refine am_T.stp hNE (pc' := 1786) rfl ?_
        refine am_T.stp hNE rfl ?_
        refine am_T.jt (by first | rfl | decide) ?_
        refine am_T.stp hNE (pc' := 2616) rfl ?_
        refine am_T.stp hNE (pc' := 2619) (lv' := [(4, .int 6), (6, .long 0), (5, .int 1), (3, .ref 7081), (2, .ref 6952), (1, .ref 0), (0, .float 200)]) rfl ?_
        refine am_T.stp hNE (pc' := 23) rfl ?_
        refine am_T.stp hNE (pc' := 25) rfl ?_
        refine am_T.stp hNE (pc' := 26) rfl ?_
        refine am_T.stp hNE (pc' := 27) rfl ?_
        refine am_T.stp hNE (pc' := 29) rfl ?_
        refine am_T.stp hNE (pc' := 30) rfl ?_
        refine am_T.stp hNE rfl ?_
        refine am_T.jt (by first | rfl | decide) ?_
        refine am_T.stp hNE (pc' := 2623) rfl ?_
        refine am_T.ret rfl ?_
        exact pu_finE rfl

set_option maxRecDepth 20000 in
set_option maxHeartbeats 40000000 in
theorem pu_op33 (xs : Nat → Int32) (d : Nat) (h : am_H) (hN : 7082 ≤ h.length) : am_T (pu_G xs 6) (d + 20) 452 2547 [(4, .int 0), (3, .ref 7081), (2, .ref 6952), (1, .ref 0), (0, .float 200)] [] (am_ov pu_ov0 h) (pu_K h) := by
  refine am_T.stp hN (pc' := 2548) rfl ?_
  refine am_T.go hN (vs := [.ref 0]) (r := []) rfl ?_
  refine am_T.lvq (lv' := [(0, .ref 0)]) rfl ?_
  refine am_T.stp hN (pc' := 1) rfl ?_
  refine am_T.go hN (vs := [.ref 0]) (r := []) rfl ?_
  refine am_T.lvq (lv' := [(0, .ref 0)]) rfl ?_
  refine am_T.stp hN (pc' := 1) rfl ?_
  refine am_T.stp hN (pc' := 2) rfl ?_
  refine am_T.stp hN (pc' := 5) (ov' := (0, .inr (11, [.ref 1, .int 0, .ref 2, .ref 7, .ref 13, .ref 23, .ref 28, .ref 29, .ref 30, .ref 76, .ref 202, .ref 328, .ref 414, .ref 540, .ref 666, .ref 931, .ref 1793, .ref 2068, .ref 2070, .int 0])) :: _) rfl ?_
  refine am_T.stp hN (pc' := 6) rfl ?_
  refine am_T.stp hN (pc' := 9) rfl ?_
  refine am_T.go hN (vs := [.ref 7]) (r := []) rfl ?_
  refine am_T.lvq (lv' := [(0, .ref 7)]) rfl ?_
  refine am_T.stp hN (pc' := 1) rfl ?_
  refine am_T.stp hN (pc' := 2) rfl ?_
  refine am_T.stp hN (pc' := 5) (ov' := (7, .inr (10, [.ref 8, .int 0, .ref 3, .ref 9, .ref 10, .int 0, .ref 11])) :: _) rfl ?_
  refine am_T.ret rfl ?_
  refine am_T.bck (pc' := 12) (st' := []) rfl rfl ?_
  refine am_T.stp hN (pc' := 13) rfl ?_
  refine am_T.stp hN (pc' := 16) rfl ?_
  refine am_T.go hN (vs := [.ref 13]) (r := []) rfl ?_
  refine am_T.lvq (lv' := [(0, .ref 13)]) rfl ?_
  refine am_T.stp hN (pc' := 1) rfl ?_
  refine am_T.stp hN (pc' := 2) rfl ?_
  refine am_T.stp hN (pc' := 5) (ov' := (13, .inr (5, [.ref 14, .ref 15, .ref 16, .ref 17, .ref 18, .ref 19, .ref 20, .ref 21, .int 0, .ref 22, .int 0])) :: _) rfl ?_
  refine am_T.stp hN (pc' := 6) rfl ?_
  refine am_T.stp hN (pc' := 7) rfl ?_
  refine am_T.stp hN (pc' := 10) (ov' := (13, .inr (5, [.ref 14, .ref 15, .ref 16, .ref 17, .ref 18, .ref 19, .ref 20, .ref 21, .int 0, .ref 22, .int 0])) :: _) rfl ?_
  refine am_T.ret rfl ?_
  refine am_T.bck (pc' := 19) (st' := []) rfl rfl ?_
  refine am_T.stp hN (pc' := 20) rfl ?_
  refine am_T.stp hN (pc' := 21) (lv' := [(1, .int 0), (0, .ref 0)]) rfl ?_
  refine am_T.stp hN (pc' := 22) rfl ?_
  refine am_T.stp hN (pc' := 24) rfl ?_
  refine am_T.stp hN rfl ?_
  refine am_T.jf (by first | rfl | decide) ?_
  refine am_T.stp hN (pc' := 28) rfl ?_
  refine am_T.stp hN (pc' := 31) rfl ?_
  refine am_T.stp hN (pc' := 32) rfl ?_
  refine am_T.stp hN (pc' := 33) rfl ?_
  refine am_T.stp hN (pc' := 34) rfl ?_
  refine am_T.stp hN (pc' := 35) rfl ?_
  refine am_T.stp hN (pc' := 38) rfl ?_
  refine am_T.stp hN (pc' := 39) rfl ?_
  refine am_T.stp hN (pc' := 40) (st' := .ref 2072 :: _) rfl ?_
  refine am_T.stp hN (pc' := 41) rfl ?_
  refine am_T.stp hN (pc' := 44) (ov' := (2072, .inr (9, [.ref 2073, .ref 2159, .ref 2245, .ref 2331, .long 0, .int 0, .int 0])) :: _) rfl ?_
  refine am_T.stp hN (pc' := 47) (lv' := [(1, .int 1), (0, .ref 0)]) rfl ?_
  refine am_T.stp hN (pc' := 21) rfl ?_
  refine am_T.stp hN (pc' := 22) rfl ?_
  refine am_T.stp hN (pc' := 24) rfl ?_
  refine am_T.stp hN rfl ?_
  refine am_T.jf (by first | rfl | decide) ?_
  refine am_T.stp hN (pc' := 28) rfl ?_
  refine am_T.stp hN (pc' := 31) rfl ?_
  refine am_T.stp hN (pc' := 32) rfl ?_
  refine am_T.stp hN (pc' := 33) rfl ?_
  refine am_T.stp hN (pc' := 34) rfl ?_
  refine am_T.stp hN (pc' := 35) rfl ?_
  refine am_T.stp hN (pc' := 38) rfl ?_
  refine am_T.stp hN (pc' := 39) rfl ?_
  refine am_T.stp hN (pc' := 40) (st' := .ref 2377 :: _) rfl ?_
  refine am_T.stp hN (pc' := 41) rfl ?_
  refine am_T.stp hN (pc' := 44) (ov' := (2377, .inr (9, [.ref 2378, .ref 2464, .ref 2550, .ref 2636, .long 0, .int 0, .int 0])) :: _) rfl ?_
  refine am_T.stp hN (pc' := 47) (lv' := [(1, .int 2), (0, .ref 0)]) rfl ?_
  refine am_T.stp hN (pc' := 21) rfl ?_
  refine am_T.stp hN (pc' := 22) rfl ?_
  refine am_T.stp hN (pc' := 24) rfl ?_
  refine am_T.stp hN rfl ?_
  refine am_T.jf (by first | rfl | decide) ?_
  refine am_T.stp hN (pc' := 28) rfl ?_
  refine am_T.stp hN (pc' := 31) rfl ?_
  refine am_T.stp hN (pc' := 32) rfl ?_
  refine am_T.stp hN (pc' := 33) rfl ?_
  refine am_T.stp hN (pc' := 34) rfl ?_
  refine am_T.stp hN (pc' := 35) rfl ?_
  refine am_T.stp hN (pc' := 38) rfl ?_
  refine am_T.stp hN (pc' := 39) rfl ?_
  refine am_T.stp hN (pc' := 40) (st' := .ref 2682 :: _) rfl ?_
  refine am_T.stp hN (pc' := 41) rfl ?_
  refine am_T.stp hN (pc' := 44) (ov' := (2682, .inr (9, [.ref 2683, .ref 2769, .ref 2855, .ref 2941, .long 0, .int 0, .int 0])) :: _) rfl ?_
  refine am_T.stp hN (pc' := 47) (lv' := [(1, .int 3), (0, .ref 0)]) rfl ?_
  refine am_T.stp hN (pc' := 21) rfl ?_
  refine am_T.stp hN (pc' := 22) rfl ?_
  refine am_T.stp hN (pc' := 24) rfl ?_
  refine am_T.stp hN rfl ?_
  refine am_T.jf (by first | rfl | decide) ?_
  refine am_T.stp hN (pc' := 28) rfl ?_
  refine am_T.stp hN (pc' := 31) rfl ?_
  refine am_T.stp hN (pc' := 32) rfl ?_
  refine am_T.stp hN (pc' := 33) rfl ?_
  refine am_T.stp hN (pc' := 34) rfl ?_
  refine am_T.stp hN (pc' := 35) rfl ?_
  refine am_T.stp hN (pc' := 38) rfl ?_
  refine am_T.stp hN (pc' := 39) rfl ?_
  refine am_T.stp hN (pc' := 40) (st' := .ref 2987 :: _) rfl ?_
  refine am_T.stp hN (pc' := 41) rfl ?_
  refine am_T.stp hN (pc' := 44) (ov' := (2987, .inr (9, [.ref 2988, .ref 3074, .ref 3160, .ref 3246, .long 0, .int 0, .int 0])) :: _) rfl ?_
  refine am_T.stp hN (pc' := 47) (lv' := [(1, .int 4), (0, .ref 0)]) rfl ?_
  refine am_T.stp hN (pc' := 21) rfl ?_
  refine am_T.stp hN (pc' := 22) rfl ?_
  refine am_T.stp hN (pc' := 24) rfl ?_
  refine am_T.stp hN rfl ?_
  refine am_T.jf (by first | rfl | decide) ?_
  refine am_T.stp hN (pc' := 28) rfl ?_
  refine am_T.stp hN (pc' := 31) rfl ?_
  refine am_T.stp hN (pc' := 32) rfl ?_
  refine am_T.stp hN (pc' := 33) rfl ?_
  refine am_T.stp hN (pc' := 34) rfl ?_
  refine am_T.stp hN (pc' := 35) rfl ?_
  refine am_T.stp hN (pc' := 38) rfl ?_
  refine am_T.stp hN (pc' := 39) rfl ?_
  refine am_T.stp hN (pc' := 40) (st' := .ref 3292 :: _) rfl ?_
  refine am_T.stp hN (pc' := 41) rfl ?_
  refine am_T.stp hN (pc' := 44) (ov' := (3292, .inr (9, [.ref 3293, .ref 3379, .ref 3465, .ref 3551, .long 0, .int 0, .int 0])) :: _) rfl ?_
  refine am_T.stp hN (pc' := 47) (lv' := [(1, .int 5), (0, .ref 0)]) rfl ?_
  refine am_T.stp hN (pc' := 21) rfl ?_
  refine am_T.stp hN (pc' := 22) rfl ?_
  refine am_T.stp hN (pc' := 24) rfl ?_
  refine am_T.stp hN rfl ?_
  refine am_T.jf (by first | rfl | decide) ?_
  refine am_T.stp hN (pc' := 28) rfl ?_
  refine am_T.stp hN (pc' := 31) rfl ?_
  refine am_T.stp hN (pc' := 32) rfl ?_
  refine am_T.stp hN (pc' := 33) rfl ?_
  refine am_T.stp hN (pc' := 34) rfl ?_
  refine am_T.stp hN (pc' := 35) rfl ?_
  refine am_T.stp hN (pc' := 38) rfl ?_
  refine am_T.stp hN (pc' := 39) rfl ?_
  refine am_T.stp hN (pc' := 40) (st' := .ref 3597 :: _) rfl ?_
  refine am_T.stp hN (pc' := 41) rfl ?_
  refine am_T.stp hN (pc' := 44) (ov' := (3597, .inr (9, [.ref 3598, .ref 3684, .ref 3770, .ref 3856, .long 0, .int 0, .int 0])) :: _) rfl ?_
  refine am_T.stp hN (pc' := 47) (lv' := [(1, .int 6), (0, .ref 0)]) rfl ?_
  refine am_T.stp hN (pc' := 21) rfl ?_
  refine am_T.stp hN (pc' := 22) rfl ?_
  refine am_T.stp hN (pc' := 24) rfl ?_
  refine am_T.stp hN rfl ?_
  refine am_T.jf (by first | rfl | decide) ?_
  refine am_T.stp hN (pc' := 28) rfl ?_
  refine am_T.stp hN (pc' := 31) rfl ?_
  refine am_T.stp hN (pc' := 32) rfl ?_
  refine am_T.stp hN (pc' := 33) rfl ?_
  refine am_T.stp hN (pc' := 34) rfl ?_
  refine am_T.stp hN (pc' := 35) rfl ?_
  refine am_T.stp hN (pc' := 38) rfl ?_
  refine am_T.stp hN (pc' := 39) rfl ?_
  refine am_T.stp hN (pc' := 40) (st' := .ref 3902 :: _) rfl ?_
  refine am_T.stp hN (pc' := 41) rfl ?_
  refine am_T.stp hN (pc' := 44) (ov' := (3902, .inr (9, [.ref 3903, .ref 3989, .ref 4075, .ref 4161, .long 0, .int 0, .int 0])) :: _) rfl ?_
  refine am_T.stp hN (pc' := 47) (lv' := [(1, .int 7), (0, .ref 0)]) rfl ?_
  refine am_T.stp hN (pc' := 21) rfl ?_
  refine am_T.stp hN (pc' := 22) rfl ?_
  refine am_T.stp hN (pc' := 24) rfl ?_
  refine am_T.stp hN rfl ?_
  refine am_T.jf (by first | rfl | decide) ?_
  refine am_T.stp hN (pc' := 28) rfl ?_
  refine am_T.stp hN (pc' := 31) rfl ?_
  refine am_T.stp hN (pc' := 32) rfl ?_
  refine am_T.stp hN (pc' := 33) rfl ?_
  refine am_T.stp hN (pc' := 34) rfl ?_
  refine am_T.stp hN (pc' := 35) rfl ?_
  refine am_T.stp hN (pc' := 38) rfl ?_
  refine am_T.stp hN (pc' := 39) rfl ?_
  refine am_T.stp hN (pc' := 40) (st' := .ref 4207 :: _) rfl ?_
  refine am_T.stp hN (pc' := 41) rfl ?_
  refine am_T.stp hN (pc' := 44) (ov' := (4207, .inr (9, [.ref 4208, .ref 4294, .ref 4380, .ref 4466, .long 0, .int 0, .int 0])) :: _) rfl ?_
  refine am_T.stp hN (pc' := 47) (lv' := [(1, .int 8), (0, .ref 0)]) rfl ?_
  refine am_T.stp hN (pc' := 21) rfl ?_
  refine am_T.stp hN (pc' := 22) rfl ?_
  refine am_T.stp hN (pc' := 24) rfl ?_
  refine am_T.stp hN rfl ?_
  refine am_T.jf (by first | rfl | decide) ?_
  refine am_T.stp hN (pc' := 28) rfl ?_
  refine am_T.stp hN (pc' := 31) rfl ?_
  refine am_T.stp hN (pc' := 32) rfl ?_
  refine am_T.stp hN (pc' := 33) rfl ?_
  refine am_T.stp hN (pc' := 34) rfl ?_
  refine am_T.stp hN (pc' := 35) rfl ?_
  refine am_T.stp hN (pc' := 38) rfl ?_
  refine am_T.stp hN (pc' := 39) rfl ?_
  refine am_T.stp hN (pc' := 40) (st' := .ref 4512 :: _) rfl ?_
  refine am_T.stp hN (pc' := 41) rfl ?_
  refine am_T.stp hN (pc' := 44) (ov' := (4512, .inr (9, [.ref 4513, .ref 4599, .ref 4685, .ref 4771, .long 0, .int 0, .int 0])) :: _) rfl ?_
  refine am_T.stp hN (pc' := 47) (lv' := [(1, .int 9), (0, .ref 0)]) rfl ?_
  refine am_T.stp hN (pc' := 21) rfl ?_
  refine am_T.stp hN (pc' := 22) rfl ?_
  refine am_T.stp hN (pc' := 24) rfl ?_
  refine am_T.stp hN rfl ?_
  refine am_T.jf (by first | rfl | decide) ?_
  refine am_T.stp hN (pc' := 28) rfl ?_
  refine am_T.stp hN (pc' := 31) rfl ?_
  refine am_T.stp hN (pc' := 32) rfl ?_
  refine am_T.stp hN (pc' := 33) rfl ?_
  refine am_T.stp hN (pc' := 34) rfl ?_
  refine am_T.stp hN (pc' := 35) rfl ?_
  refine am_T.stp hN (pc' := 38) rfl ?_
  refine am_T.stp hN (pc' := 39) rfl ?_
  refine am_T.stp hN (pc' := 40) (st' := .ref 4817 :: _) rfl ?_
  refine am_T.stp hN (pc' := 41) rfl ?_
  refine am_T.stp hN (pc' := 44) (ov' := (4817, .inr (9, [.ref 4818, .ref 4904, .ref 4990, .ref 5076, .long 0, .int 0, .int 0])) :: _) rfl ?_
  refine am_T.stp hN (pc' := 47) (lv' := [(1, .int 10), (0, .ref 0)]) rfl ?_
  refine am_T.stp hN (pc' := 21) rfl ?_
  refine am_T.stp hN (pc' := 22) rfl ?_
  refine am_T.stp hN (pc' := 24) rfl ?_
  refine am_T.stp hN rfl ?_
  refine am_T.jf (by first | rfl | decide) ?_
  refine am_T.stp hN (pc' := 28) rfl ?_
  refine am_T.stp hN (pc' := 31) rfl ?_
  refine am_T.stp hN (pc' := 32) rfl ?_
  refine am_T.stp hN (pc' := 33) rfl ?_
  refine am_T.stp hN (pc' := 34) rfl ?_
  refine am_T.stp hN (pc' := 35) rfl ?_
  refine am_T.stp hN (pc' := 38) rfl ?_
  refine am_T.stp hN (pc' := 39) rfl ?_
  refine am_T.stp hN (pc' := 40) (st' := .ref 5122 :: _) rfl ?_
  refine am_T.stp hN (pc' := 41) rfl ?_
  refine am_T.stp hN (pc' := 44) (ov' := (5122, .inr (9, [.ref 5123, .ref 5209, .ref 5295, .ref 5381, .long 0, .int 0, .int 0])) :: _) rfl ?_
  refine am_T.stp hN (pc' := 47) (lv' := [(1, .int 11), (0, .ref 0)]) rfl ?_
  refine am_T.stp hN (pc' := 21) rfl ?_
  refine am_T.stp hN (pc' := 22) rfl ?_
  refine am_T.stp hN (pc' := 24) rfl ?_
  refine am_T.stp hN rfl ?_
  refine am_T.jf (by first | rfl | decide) ?_
  refine am_T.stp hN (pc' := 28) rfl ?_
  refine am_T.stp hN (pc' := 31) rfl ?_
  refine am_T.stp hN (pc' := 32) rfl ?_
  refine am_T.stp hN (pc' := 33) rfl ?_
  refine am_T.stp hN (pc' := 34) rfl ?_
  refine am_T.stp hN (pc' := 35) rfl ?_
  refine am_T.stp hN (pc' := 38) rfl ?_
  refine am_T.stp hN (pc' := 39) rfl ?_
  refine am_T.stp hN (pc' := 40) (st' := .ref 5427 :: _) rfl ?_
  refine am_T.stp hN (pc' := 41) rfl ?_
  refine am_T.stp hN (pc' := 44) (ov' := (5427, .inr (9, [.ref 5428, .ref 5514, .ref 5600, .ref 5686, .long 0, .int 0, .int 0])) :: _) rfl ?_
  refine am_T.stp hN (pc' := 47) (lv' := [(1, .int 12), (0, .ref 0)]) rfl ?_
  refine am_T.stp hN (pc' := 21) rfl ?_
  refine am_T.stp hN (pc' := 22) rfl ?_
  refine am_T.stp hN (pc' := 24) rfl ?_
  refine am_T.stp hN rfl ?_
  refine am_T.jf (by first | rfl | decide) ?_
  refine am_T.stp hN (pc' := 28) rfl ?_
  refine am_T.stp hN (pc' := 31) rfl ?_
  refine am_T.stp hN (pc' := 32) rfl ?_
  refine am_T.stp hN (pc' := 33) rfl ?_
  refine am_T.stp hN (pc' := 34) rfl ?_
  refine am_T.stp hN (pc' := 35) rfl ?_
  refine am_T.stp hN (pc' := 38) rfl ?_
  refine am_T.stp hN (pc' := 39) rfl ?_
  refine am_T.stp hN (pc' := 40) (st' := .ref 5732 :: _) rfl ?_
  refine am_T.stp hN (pc' := 41) rfl ?_
  refine am_T.stp hN (pc' := 44) (ov' := (5732, .inr (9, [.ref 5733, .ref 5819, .ref 5905, .ref 5991, .long 0, .int 0, .int 0])) :: _) rfl ?_
  refine am_T.stp hN (pc' := 47) (lv' := [(1, .int 13), (0, .ref 0)]) rfl ?_
  refine am_T.stp hN (pc' := 21) rfl ?_
  refine am_T.stp hN (pc' := 22) rfl ?_
  refine am_T.stp hN (pc' := 24) rfl ?_
  refine am_T.stp hN rfl ?_
  refine am_T.jf (by first | rfl | decide) ?_
  refine am_T.stp hN (pc' := 28) rfl ?_
  refine am_T.stp hN (pc' := 31) rfl ?_
  refine am_T.stp hN (pc' := 32) rfl ?_
  refine am_T.stp hN (pc' := 33) rfl ?_
  refine am_T.stp hN (pc' := 34) rfl ?_
  refine am_T.stp hN (pc' := 35) rfl ?_
  refine am_T.stp hN (pc' := 38) rfl ?_
  refine am_T.stp hN (pc' := 39) rfl ?_
  refine am_T.stp hN (pc' := 40) (st' := .ref 6037 :: _) rfl ?_
  refine am_T.stp hN (pc' := 41) rfl ?_
  refine am_T.stp hN (pc' := 44) (ov' := (6037, .inr (9, [.ref 6038, .ref 6124, .ref 6210, .ref 6296, .long 0, .int 0, .int 0])) :: _) rfl ?_
  refine am_T.stp hN (pc' := 47) (lv' := [(1, .int 14), (0, .ref 0)]) rfl ?_
  refine am_T.stp hN (pc' := 21) rfl ?_
  refine am_T.stp hN (pc' := 22) rfl ?_
  refine am_T.stp hN (pc' := 24) rfl ?_
  refine am_T.stp hN rfl ?_
  refine am_T.jf (by first | rfl | decide) ?_
  refine am_T.stp hN (pc' := 28) rfl ?_
  refine am_T.stp hN (pc' := 31) rfl ?_
  refine am_T.stp hN (pc' := 32) rfl ?_
  refine am_T.stp hN (pc' := 33) rfl ?_
  refine am_T.stp hN (pc' := 34) rfl ?_
  refine am_T.stp hN (pc' := 35) rfl ?_
  refine am_T.stp hN (pc' := 38) rfl ?_
  refine am_T.stp hN (pc' := 39) rfl ?_
  refine am_T.stp hN (pc' := 40) (st' := .ref 6342 :: _) rfl ?_
  refine am_T.stp hN (pc' := 41) rfl ?_
  refine am_T.stp hN (pc' := 44) (ov' := (6342, .inr (9, [.ref 6343, .ref 6429, .ref 6515, .ref 6601, .long 0, .int 0, .int 0])) :: _) rfl ?_
  refine am_T.stp hN (pc' := 47) (lv' := [(1, .int 15), (0, .ref 0)]) rfl ?_
  refine am_T.stp hN (pc' := 21) rfl ?_
  refine am_T.stp hN (pc' := 22) rfl ?_
  refine am_T.stp hN (pc' := 24) rfl ?_
  refine am_T.stp hN rfl ?_
  refine am_T.jf (by first | rfl | decide) ?_
  refine am_T.stp hN (pc' := 28) rfl ?_
  refine am_T.stp hN (pc' := 31) rfl ?_
  refine am_T.stp hN (pc' := 32) rfl ?_
  refine am_T.stp hN (pc' := 33) rfl ?_
  refine am_T.stp hN (pc' := 34) rfl ?_
  refine am_T.stp hN (pc' := 35) rfl ?_
  refine am_T.stp hN (pc' := 38) rfl ?_
  refine am_T.stp hN (pc' := 39) rfl ?_
  refine am_T.stp hN (pc' := 40) (st' := .ref 6647 :: _) rfl ?_
  refine am_T.stp hN (pc' := 41) rfl ?_
  refine am_T.stp hN (pc' := 44) (ov' := (6647, .inr (9, [.ref 6648, .ref 6734, .ref 6820, .ref 6906, .long 0, .int 0, .int 0])) :: _) rfl ?_
  refine am_T.stp hN (pc' := 47) (lv' := [(1, .int 16), (0, .ref 0)]) rfl ?_
  refine am_T.stp hN (pc' := 21) rfl ?_
  refine am_T.stp hN (pc' := 22) rfl ?_
  refine am_T.stp hN (pc' := 24) rfl ?_
  refine am_T.stp hN rfl ?_
  refine am_T.jt (by first | rfl | decide) ?_
  refine am_T.stp hN (pc' := 51) rfl ?_
  refine am_T.stp hN (pc' := 54) rfl ?_
  refine am_T.stp hN (pc' := 55) rfl ?_
  refine am_T.stp hN (pc' := 58) (ov' := (30, .inr (0, [.ref 33, .ref 34, .ref 35, .ref 31, .int 0])) :: _) rfl ?_
  refine am_T.stp hN (pc' := 59) rfl ?_
  refine am_T.stp hN (pc' := 62) rfl ?_
  refine am_T.stp hN (pc' := 63) rfl ?_
  refine am_T.stp hN (pc' := 66) (ov' := (76, .inr (0, [.ref 79, .ref 80, .ref 81, .ref 77, .int 0])) :: _) rfl ?_
  refine am_T.stp hN (pc' := 67) rfl ?_
  refine am_T.stp hN (pc' := 70) rfl ?_
  refine am_T.stp hN (pc' := 71) rfl ?_
  refine am_T.stp hN (pc' := 74) (ov' := (202, .inr (0, [.ref 205, .ref 206, .ref 207, .ref 203, .int 0])) :: _) rfl ?_
  refine am_T.stp hN (pc' := 75) rfl ?_
  refine am_T.stp hN (pc' := 78) rfl ?_
  refine am_T.stp hN (pc' := 79) rfl ?_
  refine am_T.stp hN (pc' := 82) (ov' := (414, .inr (7, [.ref 415, .ref 416, .ref 417, .ref 418, .ref 419, .int 0])) :: _) rfl ?_
  refine am_T.stp hN (pc' := 83) rfl ?_
  refine am_T.stp hN (pc' := 86) rfl ?_
  refine am_T.stp hN (pc' := 87) rfl ?_
  refine am_T.stp hN (pc' := 90) (ov' := (540, .inr (7, [.ref 541, .ref 542, .ref 543, .ref 544, .ref 545, .int 0])) :: _) rfl ?_
  refine am_T.stp hN (pc' := 91) rfl ?_
  refine am_T.stp hN (pc' := 94) rfl ?_
  refine am_T.stp hN (pc' := 95) rfl ?_
  refine am_T.stp hN (pc' := 98) (ov' := (1793, .inr (8, [.ref 13, .ref 931, .ref 1794, .ref 1795, .ref 2057, .ref 2058, .ref 2059, .ref 2060, .ref 2062, .int 0])) :: _) rfl ?_
  refine am_T.stp hN (pc' := 99) rfl ?_
  refine am_T.stp hN (pc' := 102) rfl ?_
  refine am_T.go hN (vs := [.ref 2068]) (r := []) rfl ?_
  refine am_T.lvq (lv' := [(0, .ref 2068)]) rfl ?_
  refine am_T.stp hN (pc' := 1) rfl ?_
  refine am_T.stp hN (pc' := 2) rfl ?_
  refine am_T.stp hN (pc' := 5) (ov' := (2068, .inr (1, [.ref 2069, .int 0, .int 0, .int (-1), .int 0, .int 0, .int 0])) :: _) rfl ?_
  refine am_T.stp hN (pc' := 6) rfl ?_
  refine am_T.stp hN (pc' := 7) rfl ?_
  refine am_T.stp hN (pc' := 10) (ov' := (2068, .inr (1, [.ref 2069, .int 0, .int 0, .int (-1), .int 0, .int 0, .int 0])) :: _) rfl ?_
  refine am_T.stp hN (pc' := 11) rfl ?_
  refine am_T.stp hN (pc' := 12) rfl ?_
  refine am_T.stp hN (pc' := 15) (ov' := (2068, .inr (1, [.ref 2069, .int 0, .int 0, .int (-1), .int 0, .int 0, .int 0])) :: _) rfl ?_
  refine am_T.stp hN (pc' := 16) rfl ?_
  refine am_T.stp hN (pc' := 17) rfl ?_
  refine am_T.stp hN (pc' := 20) (ov' := (2068, .inr (1, [.ref 2069, .int 0, .int 0, .int (-1), .int 0, .int 0, .int 0])) :: _) rfl ?_
  refine am_T.ret rfl ?_
  refine am_T.bck (pc' := 105) (st' := []) rfl rfl ?_
  refine am_T.ret rfl ?_
  refine am_T.bck (pc' := 4) (st' := []) rfl rfl ?_
  refine am_T.stp hN (pc' := 5) rfl ?_
  refine am_T.stp hN (pc' := 6) rfl ?_
  refine am_T.stp hN (pc' := 9) (ov' := (0, .inr (11, [.ref 1, .int 0, .ref 2, .ref 7, .ref 13, .ref 23, .ref 28, .ref 29, .ref 30, .ref 76, .ref 202, .ref 328, .ref 414, .ref 540, .ref 666, .ref 931, .ref 1793, .ref 2068, .ref 2070, .int 1])) :: _) rfl ?_
  refine am_T.stp hN (pc' := 10) rfl ?_
  refine am_T.stp hN (pc' := 13) rfl ?_
  refine am_T.go hN (vs := [.ref 2068]) (r := []) rfl ?_
  refine am_T.lvq (lv' := [(0, .ref 2068)]) rfl ?_
  refine am_T.stp hN (pc' := 1) rfl ?_
  refine am_T.go hN (vs := [.ref 2068]) (r := []) rfl ?_
  refine am_T.lvq (lv' := [(0, .ref 2068)]) rfl ?_
  refine am_T.stp hN (pc' := 1) rfl ?_
  refine am_T.stp hN (pc' := 4) rfl ?_
  refine am_T.stp hN (pc' := 5) rfl ?_
  refine am_T.stp hN (pc' := 6) rfl ?_
  refine am_T.stp hN (pc' := 9) rfl ?_
  refine am_T.stp hN rfl ?_
  refine am_T.jf (by first | rfl | decide) ?_
  refine am_T.stp hN (pc' := 13) rfl ?_
  refine am_T.stp hN (pc' := 16) rfl ?_
  refine am_T.stp hN (pc' := 17) rfl ?_
  refine am_T.stp hN (pc' := 20) rfl ?_
  refine am_T.stp hN (pc' := 21) (st' := .int 0 :: _) rfl ?_
  refine am_T.stp hN (pc' := 24) rfl ?_
  refine am_T.stp hN (pc' := 25) rfl ?_
  refine am_T.stp hN (pc' := 27) rfl ?_
  refine am_T.stp hN (pc' := 28) rfl ?_
  refine am_T.stp hN (pc' := 29) rfl ?_
  refine am_T.stp hN (pc' := 32) rfl ?_
  refine am_T.stp hN (pc' := 33) rfl ?_
  refine am_T.stp hN (pc' := 36) rfl ?_
  refine am_T.stp hN (pc' := 37) rfl ?_
  refine am_T.stp hN (pc' := 38) rfl ?_
  refine am_T.stp hN (pc' := 39) (st' := .int 0 :: _) rfl ?_
  refine am_T.stp hN (pc' := 42) rfl ?_
  refine am_T.stp hN (pc' := 43) rfl ?_
  refine am_T.stp hN (pc' := 44) rfl ?_
  refine am_T.stp hN (pc' := 48) rfl ?_
  refine am_T.ret rfl ?_
  refine am_T.bck (pc' := 4) (st' := [.int 0]) rfl rfl ?_
  refine am_T.stp hN (pc' := 5) (lv' := [(1, .int 0), (0, .ref 2068)]) rfl ?_
  refine am_T.stp hN (pc' := 6) rfl ?_
  refine am_T.go hN (vs := [.ref 2068]) (r := []) rfl ?_
  refine am_T.lvq (lv' := [(0, .ref 2068)]) rfl ?_
  refine am_T.stp hN (pc' := 1) rfl ?_
  refine am_T.stp hN (pc' := 4) rfl ?_
  refine am_T.stp hN (pc' := 5) rfl ?_
  refine am_T.stp hN (pc' := 6) rfl ?_
  refine am_T.stp hN (pc' := 9) rfl ?_
  refine am_T.stp hN rfl ?_
  refine am_T.jf (by first | rfl | decide) ?_
  refine am_T.stp hN (pc' := 13) rfl ?_
  refine am_T.stp hN (pc' := 16) rfl ?_
  refine am_T.stp hN (pc' := 17) rfl ?_
  refine am_T.stp hN (pc' := 20) rfl ?_
  refine am_T.stp hN (pc' := 21) rfl ?_
  refine am_T.stp hN (pc' := 22) rfl ?_
  refine am_T.stp hN (pc' := 23) (st' := .int 0 :: _) rfl ?_
  refine am_T.stp hN (pc' := 26) rfl ?_
  refine am_T.stp hN (pc' := 27) rfl ?_
  refine am_T.stp hN (pc' := 31) rfl ?_
  refine am_T.ret rfl ?_
  refine am_T.bck (pc' := 9) (st' := [.int 0]) rfl rfl ?_
  refine am_T.stp hN (pc' := 10) (lv' := [(2, .int 0), (1, .int 0), (0, .ref 2068)]) rfl ?_
  refine am_T.stp hN (pc' := 11) rfl ?_
  refine am_T.stp hN (pc' := 12) rfl ?_
  refine am_T.stp hN rfl ?_
  refine am_T.jt (by first | rfl | decide) ?_
  refine am_T.stp hN (pc' := 34) rfl ?_
  refine am_T.ret rfl ?_
  refine am_T.bck (pc' := 16) (st' := [.int 0]) rfl rfl ?_
  refine am_T.stp hN (pc' := 17) (lv' := [(1, .int 0), (0, .ref 0)]) rfl ?_
  refine am_T.stp hN (pc' := 18) rfl ?_
  refine am_T.stp hN (pc' := 19) (lv' := [(2, .int 0), (1, .int 0), (0, .ref 0)]) rfl ?_
  refine am_T.stp hN (pc' := 20) rfl ?_
  refine am_T.stp hN (pc' := 23) rfl ?_
  refine am_T.stp hN rfl ?_
  refine am_T.jf (by first | rfl | decide) ?_
  refine am_T.stp hN (pc' := 27) rfl ?_
  refine am_T.stp hN rfl ?_
  refine am_T.jt (by first | rfl | decide) ?_
  refine am_T.stp hN (pc' := 248) rfl ?_
  refine am_T.stp hN (pc' := 249) rfl ?_
  refine am_T.stp hN (pc' := 252) (ov' := (0, .inr (11, [.ref 1, .int 0, .ref 2, .ref 7, .ref 13, .ref 23, .ref 28, .ref 29, .ref 30, .ref 76, .ref 202, .ref 328, .ref 414, .ref 540, .ref 666, .ref 931, .ref 1793, .ref 2068, .ref 2070, .int 0])) :: _) rfl ?_
  refine am_T.stp hN (pc' := 253) rfl ?_
  refine am_T.stp hN (pc' := 256) rfl ?_
  refine am_T.go hN (vs := [.ref 2]) (r := []) rfl ?_
  refine am_T.lvq (lv' := [(0, .ref 2)]) rfl ?_
  refine am_T.stp hN (pc' := 1) rfl ?_
  refine am_T.stp hN (pc' := 2) rfl ?_
  refine am_T.stp hN (pc' := 5) (ov' := (2, .inr (6, [.ref 3, .ref 4, .int 0, .int 0, .int 0, .int 0, .long 0, .ref 5, .int (-1), .int (-1)])) :: _) rfl ?_
  refine am_T.stp hN (pc' := 6) rfl ?_
  refine am_T.stp hN (pc' := 7) rfl ?_
  refine am_T.stp hN (pc' := 10) (ov' := (2, .inr (6, [.ref 3, .ref 4, .int 0, .int 0, .int 0, .int 0, .long 0, .ref 5, .int (-1), .int (-1)])) :: _) rfl ?_
  refine am_T.ret rfl ?_
  refine am_T.bck (pc' := 259) (st' := []) rfl rfl ?_
  refine am_T.stp hN (pc' := 260) rfl ?_
  refine am_T.stp hN (pc' := 263) rfl ?_
  refine am_T.stp hN (pc' := 266) rfl ?_
  refine am_T.ret rfl ?_
  refine am_T.bck (pc' := 2551) (st' := [.int 0]) rfl rfl ?_
  refine am_T.stp hN (pc' := 2552) rfl ?_
  refine am_T.go hN (vs := [.ref 6952]) (r := [.int 0]) rfl ?_
  refine am_T.lvq (lv' := [(0, .ref 6952)]) rfl ?_
  refine am_T.stp hN (pc' := 1) rfl ?_
  refine am_T.stp hN (pc' := 2) rfl ?_
  refine am_T.stp hN (pc' := 5) (ov' := (6952, .inr (12, [.int 0, .ref 6953, .int 0, .ref 6954, .int 0, .ref 6955, .int 0, .int 0, .int 0, .ref 6956, .ref 6957, .ref 6958, .ref 6959, .int 0, .int 0, .int 0, .int 0, .int 0, .long 0, .int (-1), .int (-1), .ref 6960, .ref 6961, .ref 6962, .ref 6963, .ref 6964, .ref 6965, .ref 6966, .ref 6967, .ref 6968, .ref 6969, .ref 6970, .ref 6971, .ref 6972, .ref 6973, .ref 6974, .int 0, .int 0, .int 0, .int 0, .int 0, .ref 6975, .ref 6976, .ref 6977, .ref 6978, .int 0, .int 0, .ref 6979, .ref 6980, .ref 6981, .ref 6982, .ref 6983, .ref 6984, .ref 6985, .ref 6986, .ref 6987, .ref 6988, .int 0, .ref 6989, .ref 6990, .int 0, .ref 6991, .int 0, .ref 6992, .ref 6993, .int 0, .ref 6994, .ref 6995, .ref 6996, .ref 6997, .ref 6998, .ref 6999, .ref 7000, .ref 7001, .ref 7002, .ref 7003, .ref 7004, .ref 7005, .ref 7006, .ref 7007, .ref 7008, .ref 7009, .ref 7010, .int 0, .long 0, .int 0, .ref 7011, .ref 7012, .ref 7013, .int 0, .ref 7014, .ref 7015, .ref 7016, .int 0, .ref 7017, .ref 7018, .int 0, .ref 7019, .ref 7020, .long 0, .long 0, .int 0, .int 0, .int 0, .int 0, .ref 7021, .ref 7022, .ref 7023, .ref 7024, .ref 7025, .int 0, .ref 7026, .ref 7027, .ref 7028, .ref 7029, .ref 7030, .int 0, .ref 7031, .ref 7032, .ref 7033, .ref 7034, .ref 7035, .int 0, .ref 7036, .int 0, .ref 7037, .ref 7038, .ref 7039, .ref 7040, .ref 7041, .int 0, .ref 7042, .ref 7043, .ref 7044, .int 0, .ref 7045, .ref 7046, .int 0, .ref 7047, .ref 7048, .ref 7049, .ref 7050, .ref 7051, .int 0, .ref 7052, .ref 7053, .ref 7054, .ref 7055, .ref 7056, .int 0, .int 0, .ref 7057, .ref 7058, .ref 7059, .ref 7060, .ref 7061, .ref 7062, .ref 7063, .ref 7064, .ref 7065, .ref 7066, .ref 7067, .ref 7068, .ref 7069, .ref 7070, .ref 7071, .ref 7072, .ref 7073, .ref 7074, .ref 7075, .ref 7076, .ref 7077, .ref 7078, .ref 7079, .long 0, .int 0, .ref 7080, .int 0, .int 0, .int (-1), .int 0, .int 0])) :: _) rfl ?_
  refine am_T.stp hN (pc' := 6) rfl ?_
  refine am_T.stp hN (pc' := 7) rfl ?_
  refine am_T.stp hN (pc' := 10) (ov' := (6952, .inr (12, [.int 0, .ref 6953, .int 0, .ref 6954, .int 0, .ref 6955, .int 0, .int 0, .int 0, .ref 6956, .ref 6957, .ref 6958, .ref 6959, .int 0, .int 0, .int 0, .int 0, .int 0, .long 0, .int (-1), .int (-1), .ref 6960, .ref 6961, .ref 6962, .ref 6963, .ref 6964, .ref 6965, .ref 6966, .ref 6967, .ref 6968, .ref 6969, .ref 6970, .ref 6971, .ref 6972, .ref 6973, .ref 6974, .int 0, .int 0, .int 0, .int 0, .int 0, .ref 6975, .ref 6976, .ref 6977, .ref 6978, .int 0, .int 0, .ref 6979, .ref 6980, .ref 6981, .ref 6982, .ref 6983, .ref 6984, .ref 6985, .ref 6986, .ref 6987, .ref 6988, .int 0, .ref 6989, .ref 6990, .int 0, .ref 6991, .int 0, .ref 6992, .ref 6993, .int 0, .ref 6994, .ref 6995, .ref 6996, .ref 6997, .ref 6998, .ref 6999, .ref 7000, .ref 7001, .ref 7002, .ref 7003, .ref 7004, .ref 7005, .ref 7006, .ref 7007, .ref 7008, .ref 7009, .ref 7010, .int 0, .long 0, .int 0, .ref 7011, .ref 7012, .ref 7013, .int 0, .ref 7014, .ref 7015, .ref 7016, .int 0, .ref 7017, .ref 7018, .int 0, .ref 7019, .ref 7020, .long 0, .long 0, .int 0, .int 0, .int 0, .int 0, .ref 7021, .ref 7022, .ref 7023, .ref 7024, .ref 7025, .int 0, .ref 7026, .ref 7027, .ref 7028, .ref 7029, .ref 7030, .int 0, .ref 7031, .ref 7032, .ref 7033, .ref 7034, .ref 7035, .int 0, .ref 7036, .int 0, .ref 7037, .ref 7038, .ref 7039, .ref 7040, .ref 7041, .int 0, .ref 7042, .ref 7043, .ref 7044, .int 0, .ref 7045, .ref 7046, .int 0, .ref 7047, .ref 7048, .ref 7049, .ref 7050, .ref 7051, .int 0, .ref 7052, .ref 7053, .ref 7054, .ref 7055, .ref 7056, .int 0, .int 0, .ref 7057, .ref 7058, .ref 7059, .ref 7060, .ref 7061, .ref 7062, .ref 7063, .ref 7064, .ref 7065, .ref 7066, .ref 7067, .ref 7068, .ref 7069, .ref 7070, .ref 7071, .ref 7072, .ref 7073, .ref 7074, .ref 7075, .ref 7076, .ref 7077, .ref 7078, .ref 7079, .long 0, .int 0, .ref 7080, .int 0, .int 0, .int (-1), .int 0, .int 0])) :: _) rfl ?_
  refine am_T.stp hN (pc' := 11) rfl ?_
  refine am_T.stp hN (pc' := 12) rfl ?_
  refine am_T.stp hN (pc' := 15) (ov' := (6952, .inr (12, [.int 0, .ref 6953, .int 0, .ref 6954, .int 0, .ref 6955, .int 0, .int 0, .int 0, .ref 6956, .ref 6957, .ref 6958, .ref 6959, .int 0, .int 0, .int 0, .int 0, .int 0, .long 0, .int (-1), .int (-1), .ref 6960, .ref 6961, .ref 6962, .ref 6963, .ref 6964, .ref 6965, .ref 6966, .ref 6967, .ref 6968, .ref 6969, .ref 6970, .ref 6971, .ref 6972, .ref 6973, .ref 6974, .int 0, .int 0, .int 0, .int 0, .int 0, .ref 6975, .ref 6976, .ref 6977, .ref 6978, .int 0, .int 0, .ref 6979, .ref 6980, .ref 6981, .ref 6982, .ref 6983, .ref 6984, .ref 6985, .ref 6986, .ref 6987, .ref 6988, .int 0, .ref 6989, .ref 6990, .int 0, .ref 6991, .int 0, .ref 6992, .ref 6993, .int 0, .ref 6994, .ref 6995, .ref 6996, .ref 6997, .ref 6998, .ref 6999, .ref 7000, .ref 7001, .ref 7002, .ref 7003, .ref 7004, .ref 7005, .ref 7006, .ref 7007, .ref 7008, .ref 7009, .ref 7010, .int 0, .long 0, .int 0, .ref 7011, .ref 7012, .ref 7013, .int 0, .ref 7014, .ref 7015, .ref 7016, .int 0, .ref 7017, .ref 7018, .int 0, .ref 7019, .ref 7020, .long 0, .long 0, .int 0, .int 0, .int 0, .int 0, .ref 7021, .ref 7022, .ref 7023, .ref 7024, .ref 7025, .int 0, .ref 7026, .ref 7027, .ref 7028, .ref 7029, .ref 7030, .int 0, .ref 7031, .ref 7032, .ref 7033, .ref 7034, .ref 7035, .int 0, .ref 7036, .int 0, .ref 7037, .ref 7038, .ref 7039, .ref 7040, .ref 7041, .int 0, .ref 7042, .ref 7043, .ref 7044, .int 0, .ref 7045, .ref 7046, .int 0, .ref 7047, .ref 7048, .ref 7049, .ref 7050, .ref 7051, .int 0, .ref 7052, .ref 7053, .ref 7054, .ref 7055, .ref 7056, .int 0, .int 0, .ref 7057, .ref 7058, .ref 7059, .ref 7060, .ref 7061, .ref 7062, .ref 7063, .ref 7064, .ref 7065, .ref 7066, .ref 7067, .ref 7068, .ref 7069, .ref 7070, .ref 7071, .ref 7072, .ref 7073, .ref 7074, .ref 7075, .ref 7076, .ref 7077, .ref 7078, .ref 7079, .long 0, .int 0, .ref 7080, .int 0, .int 0, .int (-1), .int 0, .int 0])) :: _) rfl ?_
  refine am_T.stp hN (pc' := 16) rfl ?_
  refine am_T.stp hN (pc' := 17) rfl ?_
  refine am_T.stp hN (pc' := 20) (ov' := (6952, .inr (12, [.int 0, .ref 6953, .int 0, .ref 6954, .int 0, .ref 6955, .int 0, .int 0, .int 0, .ref 6956, .ref 6957, .ref 6958, .ref 6959, .int 0, .int 0, .int 0, .int 0, .int 0, .long 0, .int (-1), .int (-1), .ref 6960, .ref 6961, .ref 6962, .ref 6963, .ref 6964, .ref 6965, .ref 6966, .ref 6967, .ref 6968, .ref 6969, .ref 6970, .ref 6971, .ref 6972, .ref 6973, .ref 6974, .int 0, .int 0, .int 0, .int 0, .int 0, .ref 6975, .ref 6976, .ref 6977, .ref 6978, .int 0, .int 0, .ref 6979, .ref 6980, .ref 6981, .ref 6982, .ref 6983, .ref 6984, .ref 6985, .ref 6986, .ref 6987, .ref 6988, .int 0, .ref 6989, .ref 6990, .int 0, .ref 6991, .int 0, .ref 6992, .ref 6993, .int 0, .ref 6994, .ref 6995, .ref 6996, .ref 6997, .ref 6998, .ref 6999, .ref 7000, .ref 7001, .ref 7002, .ref 7003, .ref 7004, .ref 7005, .ref 7006, .ref 7007, .ref 7008, .ref 7009, .ref 7010, .int 0, .long 0, .int 0, .ref 7011, .ref 7012, .ref 7013, .int 0, .ref 7014, .ref 7015, .ref 7016, .int 0, .ref 7017, .ref 7018, .int 0, .ref 7019, .ref 7020, .long 0, .long 0, .int 0, .int 0, .int 0, .int 0, .ref 7021, .ref 7022, .ref 7023, .ref 7024, .ref 7025, .int 0, .ref 7026, .ref 7027, .ref 7028, .ref 7029, .ref 7030, .int 0, .ref 7031, .ref 7032, .ref 7033, .ref 7034, .ref 7035, .int 0, .ref 7036, .int 0, .ref 7037, .ref 7038, .ref 7039, .ref 7040, .ref 7041, .int 0, .ref 7042, .ref 7043, .ref 7044, .int 0, .ref 7045, .ref 7046, .int 0, .ref 7047, .ref 7048, .ref 7049, .ref 7050, .ref 7051, .int 0, .ref 7052, .ref 7053, .ref 7054, .ref 7055, .ref 7056, .int 0, .int 0, .ref 7057, .ref 7058, .ref 7059, .ref 7060, .ref 7061, .ref 7062, .ref 7063, .ref 7064, .ref 7065, .ref 7066, .ref 7067, .ref 7068, .ref 7069, .ref 7070, .ref 7071, .ref 7072, .ref 7073, .ref 7074, .ref 7075, .ref 7076, .ref 7077, .ref 7078, .ref 7079, .long 0, .int 0, .ref 7080, .int 0, .int 0, .int (-1), .int 0, .int 0])) :: _) rfl ?_
  refine am_T.stp hN (pc' := 21) rfl ?_
  refine am_T.stp hN (pc' := 22) rfl ?_
  refine am_T.stp hN (pc' := 25) (ov' := (6952, .inr (12, [.int 0, .ref 6953, .int 0, .ref 6954, .int 0, .ref 6955, .int 0, .int 0, .int 0, .ref 6956, .ref 6957, .ref 6958, .ref 6959, .int 0, .int 0, .int 0, .int 0, .int 0, .long 0, .int (-1), .int (-1), .ref 6960, .ref 6961, .ref 6962, .ref 6963, .ref 6964, .ref 6965, .ref 6966, .ref 6967, .ref 6968, .ref 6969, .ref 6970, .ref 6971, .ref 6972, .ref 6973, .ref 6974, .int 0, .int 0, .int 0, .int 0, .int 0, .ref 6975, .ref 6976, .ref 6977, .ref 6978, .int 0, .int 0, .ref 6979, .ref 6980, .ref 6981, .ref 6982, .ref 6983, .ref 6984, .ref 6985, .ref 6986, .ref 6987, .ref 6988, .int 0, .ref 6989, .ref 6990, .int 0, .ref 6991, .int 0, .ref 6992, .ref 6993, .int 0, .ref 6994, .ref 6995, .ref 6996, .ref 6997, .ref 6998, .ref 6999, .ref 7000, .ref 7001, .ref 7002, .ref 7003, .ref 7004, .ref 7005, .ref 7006, .ref 7007, .ref 7008, .ref 7009, .ref 7010, .int 0, .long 0, .int 0, .ref 7011, .ref 7012, .ref 7013, .int 0, .ref 7014, .ref 7015, .ref 7016, .int 0, .ref 7017, .ref 7018, .int 0, .ref 7019, .ref 7020, .long 0, .long 0, .int 0, .int 0, .int 0, .int 0, .ref 7021, .ref 7022, .ref 7023, .ref 7024, .ref 7025, .int 0, .ref 7026, .ref 7027, .ref 7028, .ref 7029, .ref 7030, .int 0, .ref 7031, .ref 7032, .ref 7033, .ref 7034, .ref 7035, .int 0, .ref 7036, .int 0, .ref 7037, .ref 7038, .ref 7039, .ref 7040, .ref 7041, .int 0, .ref 7042, .ref 7043, .ref 7044, .int 0, .ref 7045, .ref 7046, .int 0, .ref 7047, .ref 7048, .ref 7049, .ref 7050, .ref 7051, .int 0, .ref 7052, .ref 7053, .ref 7054, .ref 7055, .ref 7056, .int 0, .int 0, .ref 7057, .ref 7058, .ref 7059, .ref 7060, .ref 7061, .ref 7062, .ref 7063, .ref 7064, .ref 7065, .ref 7066, .ref 7067, .ref 7068, .ref 7069, .ref 7070, .ref 7071, .ref 7072, .ref 7073, .ref 7074, .ref 7075, .ref 7076, .ref 7077, .ref 7078, .ref 7079, .long 0, .int 0, .ref 7080, .int 0, .int 0, .int (-1), .int 0, .int 0])) :: _) rfl ?_
  refine am_T.stp hN (pc' := 26) rfl ?_
  refine am_T.stp hN (pc' := 27) rfl ?_
  refine am_T.stp hN (pc' := 30) (ov' := (6952, .inr (12, [.int 0, .ref 6953, .int 0, .ref 6954, .int 0, .ref 6955, .int 0, .int 0, .int 0, .ref 6956, .ref 6957, .ref 6958, .ref 6959, .int 0, .int 0, .int 0, .int 0, .int 0, .long 0, .int (-1), .int (-1), .ref 6960, .ref 6961, .ref 6962, .ref 6963, .ref 6964, .ref 6965, .ref 6966, .ref 6967, .ref 6968, .ref 6969, .ref 6970, .ref 6971, .ref 6972, .ref 6973, .ref 6974, .int 0, .int 0, .int 0, .int 0, .int 0, .ref 6975, .ref 6976, .ref 6977, .ref 6978, .int 0, .int 0, .ref 6979, .ref 6980, .ref 6981, .ref 6982, .ref 6983, .ref 6984, .ref 6985, .ref 6986, .ref 6987, .ref 6988, .int 0, .ref 6989, .ref 6990, .int 0, .ref 6991, .int 0, .ref 6992, .ref 6993, .int 0, .ref 6994, .ref 6995, .ref 6996, .ref 6997, .ref 6998, .ref 6999, .ref 7000, .ref 7001, .ref 7002, .ref 7003, .ref 7004, .ref 7005, .ref 7006, .ref 7007, .ref 7008, .ref 7009, .ref 7010, .int 0, .long 0, .int 0, .ref 7011, .ref 7012, .ref 7013, .int 0, .ref 7014, .ref 7015, .ref 7016, .int 0, .ref 7017, .ref 7018, .int 0, .ref 7019, .ref 7020, .long 0, .long 0, .int 0, .int 0, .int 0, .int 0, .ref 7021, .ref 7022, .ref 7023, .ref 7024, .ref 7025, .int 0, .ref 7026, .ref 7027, .ref 7028, .ref 7029, .ref 7030, .int 0, .ref 7031, .ref 7032, .ref 7033, .ref 7034, .ref 7035, .int 0, .ref 7036, .int 0, .ref 7037, .ref 7038, .ref 7039, .ref 7040, .ref 7041, .int 0, .ref 7042, .ref 7043, .ref 7044, .int 0, .ref 7045, .ref 7046, .int 0, .ref 7047, .ref 7048, .ref 7049, .ref 7050, .ref 7051, .int 0, .ref 7052, .ref 7053, .ref 7054, .ref 7055, .ref 7056, .int 0, .int 0, .ref 7057, .ref 7058, .ref 7059, .ref 7060, .ref 7061, .ref 7062, .ref 7063, .ref 7064, .ref 7065, .ref 7066, .ref 7067, .ref 7068, .ref 7069, .ref 7070, .ref 7071, .ref 7072, .ref 7073, .ref 7074, .ref 7075, .ref 7076, .ref 7077, .ref 7078, .ref 7079, .long 0, .int 0, .ref 7080, .int 0, .int 0, .int (-1), .int 0, .int 0])) :: _) rfl ?_
  refine am_T.stp hN (pc' := 31) rfl ?_
  refine am_T.stp hN (pc' := 32) rfl ?_
  refine am_T.stp hN (pc' := 35) (ov' := (6952, .inr (12, [.int 0, .ref 6953, .int 0, .ref 6954, .int 0, .ref 6955, .int 0, .int 0, .int 0, .ref 6956, .ref 6957, .ref 6958, .ref 6959, .int 0, .int 0, .int 0, .int 0, .int 0, .long 0, .int (-1), .int (-1), .ref 6960, .ref 6961, .ref 6962, .ref 6963, .ref 6964, .ref 6965, .ref 6966, .ref 6967, .ref 6968, .ref 6969, .ref 6970, .ref 6971, .ref 6972, .ref 6973, .ref 6974, .int 0, .int 0, .int 0, .int 0, .int 0, .ref 6975, .ref 6976, .ref 6977, .ref 6978, .int 0, .int 0, .ref 6979, .ref 6980, .ref 6981, .ref 6982, .ref 6983, .ref 6984, .ref 6985, .ref 6986, .ref 6987, .ref 6988, .int 0, .ref 6989, .ref 6990, .int 0, .ref 6991, .int 0, .ref 6992, .ref 6993, .int 0, .ref 6994, .ref 6995, .ref 6996, .ref 6997, .ref 6998, .ref 6999, .ref 7000, .ref 7001, .ref 7002, .ref 7003, .ref 7004, .ref 7005, .ref 7006, .ref 7007, .ref 7008, .ref 7009, .ref 7010, .int 0, .long 0, .int 0, .ref 7011, .ref 7012, .ref 7013, .int 0, .ref 7014, .ref 7015, .ref 7016, .int 0, .ref 7017, .ref 7018, .int 0, .ref 7019, .ref 7020, .long 0, .long 0, .int 0, .int 0, .int 0, .int 0, .ref 7021, .ref 7022, .ref 7023, .ref 7024, .ref 7025, .int 0, .ref 7026, .ref 7027, .ref 7028, .ref 7029, .ref 7030, .int 0, .ref 7031, .ref 7032, .ref 7033, .ref 7034, .ref 7035, .int 0, .ref 7036, .int 0, .ref 7037, .ref 7038, .ref 7039, .ref 7040, .ref 7041, .int 0, .ref 7042, .ref 7043, .ref 7044, .int 0, .ref 7045, .ref 7046, .int 0, .ref 7047, .ref 7048, .ref 7049, .ref 7050, .ref 7051, .int 0, .ref 7052, .ref 7053, .ref 7054, .ref 7055, .ref 7056, .int 0, .int 0, .ref 7057, .ref 7058, .ref 7059, .ref 7060, .ref 7061, .ref 7062, .ref 7063, .ref 7064, .ref 7065, .ref 7066, .ref 7067, .ref 7068, .ref 7069, .ref 7070, .ref 7071, .ref 7072, .ref 7073, .ref 7074, .ref 7075, .ref 7076, .ref 7077, .ref 7078, .ref 7079, .long 0, .int 0, .ref 7080, .int 0, .int 0, .int (-1), .int 0, .int 0])) :: _) rfl ?_
  refine am_T.stp hN (pc' := 36) rfl ?_
  refine am_T.stp hN (pc' := 37) rfl ?_
  refine am_T.stp hN (pc' := 40) (ov' := (6952, .inr (12, [.int 0, .ref 6953, .int 0, .ref 6954, .int 0, .ref 6955, .int 0, .int 0, .int 0, .ref 6956, .ref 6957, .ref 6958, .ref 6959, .int 0, .int 0, .int 0, .int 0, .int 0, .long 0, .int (-1), .int (-1), .ref 6960, .ref 6961, .ref 6962, .ref 6963, .ref 6964, .ref 6965, .ref 6966, .ref 6967, .ref 6968, .ref 6969, .ref 6970, .ref 6971, .ref 6972, .ref 6973, .ref 6974, .int 0, .int 0, .int 0, .int 0, .int 0, .ref 6975, .ref 6976, .ref 6977, .ref 6978, .int 0, .int 0, .ref 6979, .ref 6980, .ref 6981, .ref 6982, .ref 6983, .ref 6984, .ref 6985, .ref 6986, .ref 6987, .ref 6988, .int 0, .ref 6989, .ref 6990, .int 0, .ref 6991, .int 0, .ref 6992, .ref 6993, .int 0, .ref 6994, .ref 6995, .ref 6996, .ref 6997, .ref 6998, .ref 6999, .ref 7000, .ref 7001, .ref 7002, .ref 7003, .ref 7004, .ref 7005, .ref 7006, .ref 7007, .ref 7008, .ref 7009, .ref 7010, .int 0, .long 0, .int 0, .ref 7011, .ref 7012, .ref 7013, .int 0, .ref 7014, .ref 7015, .ref 7016, .int 0, .ref 7017, .ref 7018, .int 0, .ref 7019, .ref 7020, .long 0, .long 0, .int 0, .int 0, .int 0, .int 0, .ref 7021, .ref 7022, .ref 7023, .ref 7024, .ref 7025, .int 0, .ref 7026, .ref 7027, .ref 7028, .ref 7029, .ref 7030, .int 0, .ref 7031, .ref 7032, .ref 7033, .ref 7034, .ref 7035, .int 0, .ref 7036, .int 0, .ref 7037, .ref 7038, .ref 7039, .ref 7040, .ref 7041, .int 0, .ref 7042, .ref 7043, .ref 7044, .int 0, .ref 7045, .ref 7046, .int 0, .ref 7047, .ref 7048, .ref 7049, .ref 7050, .ref 7051, .int 0, .ref 7052, .ref 7053, .ref 7054, .ref 7055, .ref 7056, .int 0, .int 0, .ref 7057, .ref 7058, .ref 7059, .ref 7060, .ref 7061, .ref 7062, .ref 7063, .ref 7064, .ref 7065, .ref 7066, .ref 7067, .ref 7068, .ref 7069, .ref 7070, .ref 7071, .ref 7072, .ref 7073, .ref 7074, .ref 7075, .ref 7076, .ref 7077, .ref 7078, .ref 7079, .long 0, .int 0, .ref 7080, .int 0, .int 0, .int (-1), .int 0, .int 0])) :: _) rfl ?_
  refine am_T.stp hN (pc' := 41) rfl ?_
  refine am_T.stp hN (pc' := 42) rfl ?_
  refine am_T.stp hN (pc' := 45) (ov' := (6952, .inr (12, [.int 0, .ref 6953, .int 0, .ref 6954, .int 0, .ref 6955, .int 0, .int 0, .int 0, .ref 6956, .ref 6957, .ref 6958, .ref 6959, .int 0, .int 0, .int 0, .int 0, .int 0, .long 0, .int (-1), .int (-1), .ref 6960, .ref 6961, .ref 6962, .ref 6963, .ref 6964, .ref 6965, .ref 6966, .ref 6967, .ref 6968, .ref 6969, .ref 6970, .ref 6971, .ref 6972, .ref 6973, .ref 6974, .int 0, .int 0, .int 0, .int 0, .int 0, .ref 6975, .ref 6976, .ref 6977, .ref 6978, .int 0, .int 0, .ref 6979, .ref 6980, .ref 6981, .ref 6982, .ref 6983, .ref 6984, .ref 6985, .ref 6986, .ref 6987, .ref 6988, .int 0, .ref 6989, .ref 6990, .int 0, .ref 6991, .int 0, .ref 6992, .ref 6993, .int 0, .ref 6994, .ref 6995, .ref 6996, .ref 6997, .ref 6998, .ref 6999, .ref 7000, .ref 7001, .ref 7002, .ref 7003, .ref 7004, .ref 7005, .ref 7006, .ref 7007, .ref 7008, .ref 7009, .ref 7010, .int 0, .long 0, .int 0, .ref 7011, .ref 7012, .ref 7013, .int 0, .ref 7014, .ref 7015, .ref 7016, .int 0, .ref 7017, .ref 7018, .int 0, .ref 7019, .ref 7020, .long 0, .long 0, .int 0, .int 0, .int 0, .int 0, .ref 7021, .ref 7022, .ref 7023, .ref 7024, .ref 7025, .int 0, .ref 7026, .ref 7027, .ref 7028, .ref 7029, .ref 7030, .int 0, .ref 7031, .ref 7032, .ref 7033, .ref 7034, .ref 7035, .int 0, .ref 7036, .int 0, .ref 7037, .ref 7038, .ref 7039, .ref 7040, .ref 7041, .int 0, .ref 7042, .ref 7043, .ref 7044, .int 0, .ref 7045, .ref 7046, .int 0, .ref 7047, .ref 7048, .ref 7049, .ref 7050, .ref 7051, .int 0, .ref 7052, .ref 7053, .ref 7054, .ref 7055, .ref 7056, .int 0, .int 0, .ref 7057, .ref 7058, .ref 7059, .ref 7060, .ref 7061, .ref 7062, .ref 7063, .ref 7064, .ref 7065, .ref 7066, .ref 7067, .ref 7068, .ref 7069, .ref 7070, .ref 7071, .ref 7072, .ref 7073, .ref 7074, .ref 7075, .ref 7076, .ref 7077, .ref 7078, .ref 7079, .long 0, .int 0, .ref 7080, .int 0, .int 0, .int (-1), .int 0, .int 0])) :: _) rfl ?_
  refine am_T.stp hN (pc' := 46) rfl ?_
  refine am_T.stp hN (pc' := 47) rfl ?_
  refine am_T.stp hN (pc' := 50) (ov' := (6952, .inr (12, [.int 0, .ref 6953, .int 0, .ref 6954, .int 0, .ref 6955, .int 0, .int 0, .int 0, .ref 6956, .ref 6957, .ref 6958, .ref 6959, .int 0, .int 0, .int 0, .int 0, .int 0, .long 0, .int (-1), .int (-1), .ref 6960, .ref 6961, .ref 6962, .ref 6963, .ref 6964, .ref 6965, .ref 6966, .ref 6967, .ref 6968, .ref 6969, .ref 6970, .ref 6971, .ref 6972, .ref 6973, .ref 6974, .int 0, .int 0, .int 0, .int 0, .int 0, .ref 6975, .ref 6976, .ref 6977, .ref 6978, .int 0, .int 0, .ref 6979, .ref 6980, .ref 6981, .ref 6982, .ref 6983, .ref 6984, .ref 6985, .ref 6986, .ref 6987, .ref 6988, .int 0, .ref 6989, .ref 6990, .int 0, .ref 6991, .int 0, .ref 6992, .ref 6993, .int 0, .ref 6994, .ref 6995, .ref 6996, .ref 6997, .ref 6998, .ref 6999, .ref 7000, .ref 7001, .ref 7002, .ref 7003, .ref 7004, .ref 7005, .ref 7006, .ref 7007, .ref 7008, .ref 7009, .ref 7010, .int 0, .long 0, .int 0, .ref 7011, .ref 7012, .ref 7013, .int 0, .ref 7014, .ref 7015, .ref 7016, .int 0, .ref 7017, .ref 7018, .int 0, .ref 7019, .ref 7020, .long 0, .long 0, .int 0, .int 0, .int 0, .int 0, .ref 7021, .ref 7022, .ref 7023, .ref 7024, .ref 7025, .int 0, .ref 7026, .ref 7027, .ref 7028, .ref 7029, .ref 7030, .int 0, .ref 7031, .ref 7032, .ref 7033, .ref 7034, .ref 7035, .int 0, .ref 7036, .int 0, .ref 7037, .ref 7038, .ref 7039, .ref 7040, .ref 7041, .int 0, .ref 7042, .ref 7043, .ref 7044, .int 0, .ref 7045, .ref 7046, .int 0, .ref 7047, .ref 7048, .ref 7049, .ref 7050, .ref 7051, .int 0, .ref 7052, .ref 7053, .ref 7054, .ref 7055, .ref 7056, .int 0, .int 0, .ref 7057, .ref 7058, .ref 7059, .ref 7060, .ref 7061, .ref 7062, .ref 7063, .ref 7064, .ref 7065, .ref 7066, .ref 7067, .ref 7068, .ref 7069, .ref 7070, .ref 7071, .ref 7072, .ref 7073, .ref 7074, .ref 7075, .ref 7076, .ref 7077, .ref 7078, .ref 7079, .long 0, .int 0, .ref 7080, .int 0, .int 0, .int (-1), .int 0, .int 0])) :: _) rfl ?_
  refine am_T.stp hN (pc' := 51) rfl ?_
  refine am_T.stp hN (pc' := 52) rfl ?_
  refine am_T.stp hN (pc' := 55) (ov' := (6952, .inr (12, [.int 0, .ref 6953, .int 0, .ref 6954, .int 0, .ref 6955, .int 0, .int 0, .int 0, .ref 6956, .ref 6957, .ref 6958, .ref 6959, .int 0, .int 0, .int 0, .int 0, .int 0, .long 0, .int (-1), .int (-1), .ref 6960, .ref 6961, .ref 6962, .ref 6963, .ref 6964, .ref 6965, .ref 6966, .ref 6967, .ref 6968, .ref 6969, .ref 6970, .ref 6971, .ref 6972, .ref 6973, .ref 6974, .int 0, .int 0, .int 0, .int 0, .int 0, .ref 6975, .ref 6976, .ref 6977, .ref 6978, .int 0, .int 0, .ref 6979, .ref 6980, .ref 6981, .ref 6982, .ref 6983, .ref 6984, .ref 6985, .ref 6986, .ref 6987, .ref 6988, .int 0, .ref 6989, .ref 6990, .int 0, .ref 6991, .int 0, .ref 6992, .ref 6993, .int 0, .ref 6994, .ref 6995, .ref 6996, .ref 6997, .ref 6998, .ref 6999, .ref 7000, .ref 7001, .ref 7002, .ref 7003, .ref 7004, .ref 7005, .ref 7006, .ref 7007, .ref 7008, .ref 7009, .ref 7010, .int 0, .long 0, .int 0, .ref 7011, .ref 7012, .ref 7013, .int 0, .ref 7014, .ref 7015, .ref 7016, .int 0, .ref 7017, .ref 7018, .int 0, .ref 7019, .ref 7020, .long 0, .long 0, .int 0, .int 0, .int 0, .int 0, .ref 7021, .ref 7022, .ref 7023, .ref 7024, .ref 7025, .int 0, .ref 7026, .ref 7027, .ref 7028, .ref 7029, .ref 7030, .int 0, .ref 7031, .ref 7032, .ref 7033, .ref 7034, .ref 7035, .int 0, .ref 7036, .int 0, .ref 7037, .ref 7038, .ref 7039, .ref 7040, .ref 7041, .int 0, .ref 7042, .ref 7043, .ref 7044, .int 0, .ref 7045, .ref 7046, .int 0, .ref 7047, .ref 7048, .ref 7049, .ref 7050, .ref 7051, .int 0, .ref 7052, .ref 7053, .ref 7054, .ref 7055, .ref 7056, .int 0, .int 0, .ref 7057, .ref 7058, .ref 7059, .ref 7060, .ref 7061, .ref 7062, .ref 7063, .ref 7064, .ref 7065, .ref 7066, .ref 7067, .ref 7068, .ref 7069, .ref 7070, .ref 7071, .ref 7072, .ref 7073, .ref 7074, .ref 7075, .ref 7076, .ref 7077, .ref 7078, .ref 7079, .long 0, .int 0, .ref 7080, .int 0, .int 0, .int (-1), .int 0, .int 0])) :: _) rfl ?_
  refine am_T.stp hN (pc' := 56) rfl ?_
  refine am_T.stp hN (pc' := 57) rfl ?_
  refine am_T.stp hN (pc' := 60) (ov' := (6952, .inr (12, [.int 0, .ref 6953, .int 0, .ref 6954, .int 0, .ref 6955, .int 0, .int 0, .int 0, .ref 6956, .ref 6957, .ref 6958, .ref 6959, .int 0, .int 0, .int 0, .int 0, .int 0, .long 0, .int (-1), .int (-1), .ref 6960, .ref 6961, .ref 6962, .ref 6963, .ref 6964, .ref 6965, .ref 6966, .ref 6967, .ref 6968, .ref 6969, .ref 6970, .ref 6971, .ref 6972, .ref 6973, .ref 6974, .int 0, .int 0, .int 0, .int 0, .int 0, .ref 6975, .ref 6976, .ref 6977, .ref 6978, .int 0, .int 0, .ref 6979, .ref 6980, .ref 6981, .ref 6982, .ref 6983, .ref 6984, .ref 6985, .ref 6986, .ref 6987, .ref 6988, .int 0, .ref 6989, .ref 6990, .int 0, .ref 6991, .int 0, .ref 6992, .ref 6993, .int 0, .ref 6994, .ref 6995, .ref 6996, .ref 6997, .ref 6998, .ref 6999, .ref 7000, .ref 7001, .ref 7002, .ref 7003, .ref 7004, .ref 7005, .ref 7006, .ref 7007, .ref 7008, .ref 7009, .ref 7010, .int 0, .long 0, .int 0, .ref 7011, .ref 7012, .ref 7013, .int 0, .ref 7014, .ref 7015, .ref 7016, .int 0, .ref 7017, .ref 7018, .int 0, .ref 7019, .ref 7020, .long 0, .long 0, .int 0, .int 0, .int 0, .int 0, .ref 7021, .ref 7022, .ref 7023, .ref 7024, .ref 7025, .int 0, .ref 7026, .ref 7027, .ref 7028, .ref 7029, .ref 7030, .int 0, .ref 7031, .ref 7032, .ref 7033, .ref 7034, .ref 7035, .int 0, .ref 7036, .int 0, .ref 7037, .ref 7038, .ref 7039, .ref 7040, .ref 7041, .int 0, .ref 7042, .ref 7043, .ref 7044, .int 0, .ref 7045, .ref 7046, .int 0, .ref 7047, .ref 7048, .ref 7049, .ref 7050, .ref 7051, .int 0, .ref 7052, .ref 7053, .ref 7054, .ref 7055, .ref 7056, .int 0, .int 0, .ref 7057, .ref 7058, .ref 7059, .ref 7060, .ref 7061, .ref 7062, .ref 7063, .ref 7064, .ref 7065, .ref 7066, .ref 7067, .ref 7068, .ref 7069, .ref 7070, .ref 7071, .ref 7072, .ref 7073, .ref 7074, .ref 7075, .ref 7076, .ref 7077, .ref 7078, .ref 7079, .long 0, .int 0, .ref 7080, .int 0, .int 0, .int (-1), .int 0, .int 0])) :: _) rfl ?_
  refine am_T.stp hN (pc' := 61) rfl ?_
  refine am_T.stp hN (pc' := 62) rfl ?_
  refine am_T.stp hN (pc' := 65) (ov' := (6952, .inr (12, [.int 0, .ref 6953, .int 0, .ref 6954, .int 0, .ref 6955, .int 0, .int 0, .int 0, .ref 6956, .ref 6957, .ref 6958, .ref 6959, .int 0, .int 0, .int 0, .int 0, .int 0, .long 0, .int (-1), .int (-1), .ref 6960, .ref 6961, .ref 6962, .ref 6963, .ref 6964, .ref 6965, .ref 6966, .ref 6967, .ref 6968, .ref 6969, .ref 6970, .ref 6971, .ref 6972, .ref 6973, .ref 6974, .int 0, .int 0, .int 0, .int 0, .int 0, .ref 6975, .ref 6976, .ref 6977, .ref 6978, .int 0, .int 0, .ref 6979, .ref 6980, .ref 6981, .ref 6982, .ref 6983, .ref 6984, .ref 6985, .ref 6986, .ref 6987, .ref 6988, .int 0, .ref 6989, .ref 6990, .int 0, .ref 6991, .int 0, .ref 6992, .ref 6993, .int 0, .ref 6994, .ref 6995, .ref 6996, .ref 6997, .ref 6998, .ref 6999, .ref 7000, .ref 7001, .ref 7002, .ref 7003, .ref 7004, .ref 7005, .ref 7006, .ref 7007, .ref 7008, .ref 7009, .ref 7010, .int 0, .long 0, .int 0, .ref 7011, .ref 7012, .ref 7013, .int 0, .ref 7014, .ref 7015, .ref 7016, .int 0, .ref 7017, .ref 7018, .int 0, .ref 7019, .ref 7020, .long 0, .long 0, .int 0, .int 0, .int 0, .int 0, .ref 7021, .ref 7022, .ref 7023, .ref 7024, .ref 7025, .int 0, .ref 7026, .ref 7027, .ref 7028, .ref 7029, .ref 7030, .int 0, .ref 7031, .ref 7032, .ref 7033, .ref 7034, .ref 7035, .int 0, .ref 7036, .int 0, .ref 7037, .ref 7038, .ref 7039, .ref 7040, .ref 7041, .int 0, .ref 7042, .ref 7043, .ref 7044, .int 0, .ref 7045, .ref 7046, .int 0, .ref 7047, .ref 7048, .ref 7049, .ref 7050, .ref 7051, .int 0, .ref 7052, .ref 7053, .ref 7054, .ref 7055, .ref 7056, .int 0, .int 0, .ref 7057, .ref 7058, .ref 7059, .ref 7060, .ref 7061, .ref 7062, .ref 7063, .ref 7064, .ref 7065, .ref 7066, .ref 7067, .ref 7068, .ref 7069, .ref 7070, .ref 7071, .ref 7072, .ref 7073, .ref 7074, .ref 7075, .ref 7076, .ref 7077, .ref 7078, .ref 7079, .long 0, .int 0, .ref 7080, .int 0, .int 0, .int (-1), .int 0, .int 0])) :: _) rfl ?_
  refine am_T.stp hN (pc' := 66) rfl ?_
  refine am_T.stp hN (pc' := 67) rfl ?_
  refine am_T.stp hN (pc' := 70) (ov' := (6952, .inr (12, [.int 0, .ref 6953, .int 0, .ref 6954, .int 0, .ref 6955, .int 0, .int 0, .int 0, .ref 6956, .ref 6957, .ref 6958, .ref 6959, .int 0, .int 0, .int 0, .int 0, .int 0, .long 0, .int (-1), .int (-1), .ref 6960, .ref 6961, .ref 6962, .ref 6963, .ref 6964, .ref 6965, .ref 6966, .ref 6967, .ref 6968, .ref 6969, .ref 6970, .ref 6971, .ref 6972, .ref 6973, .ref 6974, .int 0, .int 0, .int 0, .int 0, .int 0, .ref 6975, .ref 6976, .ref 6977, .ref 6978, .int 0, .int 0, .ref 6979, .ref 6980, .ref 6981, .ref 6982, .ref 6983, .ref 6984, .ref 6985, .ref 6986, .ref 6987, .ref 6988, .int 0, .ref 6989, .ref 6990, .int 0, .ref 6991, .int 0, .ref 6992, .ref 6993, .int 0, .ref 6994, .ref 6995, .ref 6996, .ref 6997, .ref 6998, .ref 6999, .ref 7000, .ref 7001, .ref 7002, .ref 7003, .ref 7004, .ref 7005, .ref 7006, .ref 7007, .ref 7008, .ref 7009, .ref 7010, .int 0, .long 0, .int 0, .ref 7011, .ref 7012, .ref 7013, .int 0, .ref 7014, .ref 7015, .ref 7016, .int 0, .ref 7017, .ref 7018, .int 0, .ref 7019, .ref 7020, .long 0, .long 0, .int 0, .int 0, .int 0, .int 0, .ref 7021, .ref 7022, .ref 7023, .ref 7024, .ref 7025, .int 0, .ref 7026, .ref 7027, .ref 7028, .ref 7029, .ref 7030, .int 0, .ref 7031, .ref 7032, .ref 7033, .ref 7034, .ref 7035, .int 0, .ref 7036, .int 0, .ref 7037, .ref 7038, .ref 7039, .ref 7040, .ref 7041, .int 0, .ref 7042, .ref 7043, .ref 7044, .int 0, .ref 7045, .ref 7046, .int 0, .ref 7047, .ref 7048, .ref 7049, .ref 7050, .ref 7051, .int 0, .ref 7052, .ref 7053, .ref 7054, .ref 7055, .ref 7056, .int 0, .int 0, .ref 7057, .ref 7058, .ref 7059, .ref 7060, .ref 7061, .ref 7062, .ref 7063, .ref 7064, .ref 7065, .ref 7066, .ref 7067, .ref 7068, .ref 7069, .ref 7070, .ref 7071, .ref 7072, .ref 7073, .ref 7074, .ref 7075, .ref 7076, .ref 7077, .ref 7078, .ref 7079, .long 0, .int 0, .ref 7080, .int 0, .int 0, .int (-1), .int 0, .int 0])) :: _) rfl ?_
  refine am_T.stp hN (pc' := 71) rfl ?_
  refine am_T.stp hN (pc' := 72) rfl ?_
  refine am_T.stp hN (pc' := 75) (ov' := (6952, .inr (12, [.int 0, .ref 6953, .int 0, .ref 6954, .int 0, .ref 6955, .int 0, .int 0, .int 0, .ref 6956, .ref 6957, .ref 6958, .ref 6959, .int 0, .int 0, .int 0, .int 0, .int 0, .long 0, .int (-1), .int (-1), .ref 6960, .ref 6961, .ref 6962, .ref 6963, .ref 6964, .ref 6965, .ref 6966, .ref 6967, .ref 6968, .ref 6969, .ref 6970, .ref 6971, .ref 6972, .ref 6973, .ref 6974, .int 0, .int 0, .int 0, .int 0, .int 0, .ref 6975, .ref 6976, .ref 6977, .ref 6978, .int 0, .int 0, .ref 6979, .ref 6980, .ref 6981, .ref 6982, .ref 6983, .ref 6984, .ref 6985, .ref 6986, .ref 6987, .ref 6988, .int 0, .ref 6989, .ref 6990, .int 0, .ref 6991, .int 0, .ref 6992, .ref 6993, .int 0, .ref 6994, .ref 6995, .ref 6996, .ref 6997, .ref 6998, .ref 6999, .ref 7000, .ref 7001, .ref 7002, .ref 7003, .ref 7004, .ref 7005, .ref 7006, .ref 7007, .ref 7008, .ref 7009, .ref 7010, .int 0, .long 0, .int 0, .ref 7011, .ref 7012, .ref 7013, .int 0, .ref 7014, .ref 7015, .ref 7016, .int 0, .ref 7017, .ref 7018, .int 0, .ref 7019, .ref 7020, .long 0, .long 0, .int 0, .int 0, .int 0, .int 0, .ref 7021, .ref 7022, .ref 7023, .ref 7024, .ref 7025, .int 0, .ref 7026, .ref 7027, .ref 7028, .ref 7029, .ref 7030, .int 0, .ref 7031, .ref 7032, .ref 7033, .ref 7034, .ref 7035, .int 0, .ref 7036, .int 0, .ref 7037, .ref 7038, .ref 7039, .ref 7040, .ref 7041, .int 0, .ref 7042, .ref 7043, .ref 7044, .int 0, .ref 7045, .ref 7046, .int 0, .ref 7047, .ref 7048, .ref 7049, .ref 7050, .ref 7051, .int 0, .ref 7052, .ref 7053, .ref 7054, .ref 7055, .ref 7056, .int 0, .int 0, .ref 7057, .ref 7058, .ref 7059, .ref 7060, .ref 7061, .ref 7062, .ref 7063, .ref 7064, .ref 7065, .ref 7066, .ref 7067, .ref 7068, .ref 7069, .ref 7070, .ref 7071, .ref 7072, .ref 7073, .ref 7074, .ref 7075, .ref 7076, .ref 7077, .ref 7078, .ref 7079, .long 0, .int 0, .ref 7080, .int 0, .int 0, .int (-1), .int 0, .int 0])) :: _) rfl ?_
  refine am_T.stp hN (pc' := 76) rfl ?_
  refine am_T.stp hN (pc' := 77) rfl ?_
  refine am_T.stp hN (pc' := 80) (ov' := (6952, .inr (12, [.int 0, .ref 6953, .int 0, .ref 6954, .int 0, .ref 6955, .int 0, .int 0, .int 0, .ref 6956, .ref 6957, .ref 6958, .ref 6959, .int 0, .int 0, .int 0, .int 0, .int 0, .long 0, .int (-1), .int (-1), .ref 6960, .ref 6961, .ref 6962, .ref 6963, .ref 6964, .ref 6965, .ref 6966, .ref 6967, .ref 6968, .ref 6969, .ref 6970, .ref 6971, .ref 6972, .ref 6973, .ref 6974, .int 0, .int 0, .int 0, .int 0, .int 0, .ref 6975, .ref 6976, .ref 6977, .ref 6978, .int 0, .int 0, .ref 6979, .ref 6980, .ref 6981, .ref 6982, .ref 6983, .ref 6984, .ref 6985, .ref 6986, .ref 6987, .ref 6988, .int 0, .ref 6989, .ref 6990, .int 0, .ref 6991, .int 0, .ref 6992, .ref 6993, .int 0, .ref 6994, .ref 6995, .ref 6996, .ref 6997, .ref 6998, .ref 6999, .ref 7000, .ref 7001, .ref 7002, .ref 7003, .ref 7004, .ref 7005, .ref 7006, .ref 7007, .ref 7008, .ref 7009, .ref 7010, .int 0, .long 0, .int 0, .ref 7011, .ref 7012, .ref 7013, .int 0, .ref 7014, .ref 7015, .ref 7016, .int 0, .ref 7017, .ref 7018, .int 0, .ref 7019, .ref 7020, .long 0, .long 0, .int 0, .int 0, .int 0, .int 0, .ref 7021, .ref 7022, .ref 7023, .ref 7024, .ref 7025, .int 0, .ref 7026, .ref 7027, .ref 7028, .ref 7029, .ref 7030, .int 0, .ref 7031, .ref 7032, .ref 7033, .ref 7034, .ref 7035, .int 0, .ref 7036, .int 0, .ref 7037, .ref 7038, .ref 7039, .ref 7040, .ref 7041, .int 0, .ref 7042, .ref 7043, .ref 7044, .int 0, .ref 7045, .ref 7046, .int 0, .ref 7047, .ref 7048, .ref 7049, .ref 7050, .ref 7051, .int 0, .ref 7052, .ref 7053, .ref 7054, .ref 7055, .ref 7056, .int 0, .int 0, .ref 7057, .ref 7058, .ref 7059, .ref 7060, .ref 7061, .ref 7062, .ref 7063, .ref 7064, .ref 7065, .ref 7066, .ref 7067, .ref 7068, .ref 7069, .ref 7070, .ref 7071, .ref 7072, .ref 7073, .ref 7074, .ref 7075, .ref 7076, .ref 7077, .ref 7078, .ref 7079, .long 0, .int 0, .ref 7080, .int 0, .int 0, .int (-1), .int 0, .int 0])) :: _) rfl ?_
  refine am_T.stp hN (pc' := 81) rfl ?_
  refine am_T.stp hN (pc' := 82) (lv' := [(1, .int 0), (0, .ref 6952)]) rfl ?_
  refine am_T.stp hN (pc' := 83) rfl ?_
  refine am_T.stp hN (pc' := 85) rfl ?_
  refine am_T.stp hN rfl ?_
  refine am_T.jf (by first | rfl | decide) ?_
  refine am_T.stp hN (pc' := 89) rfl ?_
  refine am_T.stp hN (pc' := 92) rfl ?_
  refine am_T.stp hN (pc' := 93) rfl ?_
  refine am_T.stp hN (pc' := 94) rfl ?_
  refine am_T.stp hN (pc' := 95) rfl ?_
  refine am_T.stp hN (pc' := 96) rfl ?_
  refine am_T.stp hN (pc' := 99) rfl ?_
  refine am_T.stp hN (pc' := 100) rfl ?_
  refine am_T.stp hN (pc' := 101) rfl ?_
  refine am_T.stp hN (pc' := 102) rfl ?_
  refine am_T.stp hN (pc' := 105) (lv' := [(1, .int 1), (0, .ref 6952)]) rfl ?_
  refine am_T.stp hN (pc' := 82) rfl ?_
  refine am_T.stp hN (pc' := 83) rfl ?_
  refine am_T.stp hN (pc' := 85) rfl ?_
  refine am_T.stp hN rfl ?_
  refine am_T.jf (by first | rfl | decide) ?_
  refine am_T.stp hN (pc' := 89) rfl ?_
  refine am_T.stp hN (pc' := 92) rfl ?_
  refine am_T.stp hN (pc' := 93) rfl ?_
  refine am_T.stp hN (pc' := 94) rfl ?_
  refine am_T.stp hN (pc' := 95) rfl ?_
  refine am_T.stp hN (pc' := 96) rfl ?_
  refine am_T.stp hN (pc' := 99) rfl ?_
  refine am_T.stp hN (pc' := 100) rfl ?_
  refine am_T.stp hN (pc' := 101) rfl ?_
  refine am_T.stp hN (pc' := 102) rfl ?_
  refine am_T.stp hN (pc' := 105) (lv' := [(1, .int 2), (0, .ref 6952)]) rfl ?_
  refine am_T.stp hN (pc' := 82) rfl ?_
  refine am_T.stp hN (pc' := 83) rfl ?_
  refine am_T.stp hN (pc' := 85) rfl ?_
  refine am_T.stp hN rfl ?_
  refine am_T.jf (by first | rfl | decide) ?_
  refine am_T.stp hN (pc' := 89) rfl ?_
  refine am_T.stp hN (pc' := 92) rfl ?_
  refine am_T.stp hN (pc' := 93) rfl ?_
  refine am_T.stp hN (pc' := 94) rfl ?_
  refine am_T.stp hN (pc' := 95) rfl ?_
  refine am_T.stp hN (pc' := 96) rfl ?_
  refine am_T.stp hN (pc' := 99) rfl ?_
  refine am_T.stp hN (pc' := 100) rfl ?_
  refine am_T.stp hN (pc' := 101) rfl ?_
  refine am_T.stp hN (pc' := 102) rfl ?_
  refine am_T.stp hN (pc' := 105) (lv' := [(1, .int 3), (0, .ref 6952)]) rfl ?_
  refine am_T.stp hN (pc' := 82) rfl ?_
  refine am_T.stp hN (pc' := 83) rfl ?_
  refine am_T.stp hN (pc' := 85) rfl ?_
  refine am_T.stp hN rfl ?_
  refine am_T.jf (by first | rfl | decide) ?_
  refine am_T.stp hN (pc' := 89) rfl ?_
  refine am_T.stp hN (pc' := 92) rfl ?_
  refine am_T.stp hN (pc' := 93) rfl ?_
  refine am_T.stp hN (pc' := 94) rfl ?_
  refine am_T.stp hN (pc' := 95) rfl ?_
  refine am_T.stp hN (pc' := 96) rfl ?_
  refine am_T.stp hN (pc' := 99) rfl ?_
  refine am_T.stp hN (pc' := 100) rfl ?_
  refine am_T.stp hN (pc' := 101) rfl ?_
  refine am_T.stp hN (pc' := 102) rfl ?_
  refine am_T.stp hN (pc' := 105) (lv' := [(1, .int 4), (0, .ref 6952)]) rfl ?_
  refine am_T.stp hN (pc' := 82) rfl ?_
  refine am_T.stp hN (pc' := 83) rfl ?_
  refine am_T.stp hN (pc' := 85) rfl ?_
  refine am_T.stp hN rfl ?_
  refine am_T.jf (by first | rfl | decide) ?_
  refine am_T.stp hN (pc' := 89) rfl ?_
  refine am_T.stp hN (pc' := 92) rfl ?_
  refine am_T.stp hN (pc' := 93) rfl ?_
  refine am_T.stp hN (pc' := 94) rfl ?_
  refine am_T.stp hN (pc' := 95) rfl ?_
  refine am_T.stp hN (pc' := 96) rfl ?_
  refine am_T.stp hN (pc' := 99) rfl ?_
  refine am_T.stp hN (pc' := 100) rfl ?_
  refine am_T.stp hN (pc' := 101) rfl ?_
  refine am_T.stp hN (pc' := 102) rfl ?_
  refine am_T.stp hN (pc' := 105) (lv' := [(1, .int 5), (0, .ref 6952)]) rfl ?_
  refine am_T.stp hN (pc' := 82) rfl ?_
  refine am_T.stp hN (pc' := 83) rfl ?_
  refine am_T.stp hN (pc' := 85) rfl ?_
  refine am_T.stp hN rfl ?_
  refine am_T.jf (by first | rfl | decide) ?_
  refine am_T.stp hN (pc' := 89) rfl ?_
  refine am_T.stp hN (pc' := 92) rfl ?_
  refine am_T.stp hN (pc' := 93) rfl ?_
  refine am_T.stp hN (pc' := 94) rfl ?_
  refine am_T.stp hN (pc' := 95) rfl ?_
  refine am_T.stp hN (pc' := 96) rfl ?_
  refine am_T.stp hN (pc' := 99) rfl ?_
  refine am_T.stp hN (pc' := 100) rfl ?_
  refine am_T.stp hN (pc' := 101) rfl ?_
  refine am_T.stp hN (pc' := 102) rfl ?_
  refine am_T.stp hN (pc' := 105) (lv' := [(1, .int 6), (0, .ref 6952)]) rfl ?_
  refine am_T.stp hN (pc' := 82) rfl ?_
  refine am_T.stp hN (pc' := 83) rfl ?_
  refine am_T.stp hN (pc' := 85) rfl ?_
  refine am_T.stp hN rfl ?_
  refine am_T.jf (by first | rfl | decide) ?_
  refine am_T.stp hN (pc' := 89) rfl ?_
  refine am_T.stp hN (pc' := 92) rfl ?_
  refine am_T.stp hN (pc' := 93) rfl ?_
  refine am_T.stp hN (pc' := 94) rfl ?_
  refine am_T.stp hN (pc' := 95) rfl ?_
  refine am_T.stp hN (pc' := 96) rfl ?_
  refine am_T.stp hN (pc' := 99) rfl ?_
  refine am_T.stp hN (pc' := 100) rfl ?_
  refine am_T.stp hN (pc' := 101) rfl ?_
  refine am_T.stp hN (pc' := 102) rfl ?_
  refine am_T.stp hN (pc' := 105) (lv' := [(1, .int 7), (0, .ref 6952)]) rfl ?_
  refine am_T.stp hN (pc' := 82) rfl ?_
  refine am_T.stp hN (pc' := 83) rfl ?_
  refine am_T.stp hN (pc' := 85) rfl ?_
  refine am_T.stp hN rfl ?_
  refine am_T.jf (by first | rfl | decide) ?_
  refine am_T.stp hN (pc' := 89) rfl ?_
  refine am_T.stp hN (pc' := 92) rfl ?_
  refine am_T.stp hN (pc' := 93) rfl ?_
  refine am_T.stp hN (pc' := 94) rfl ?_
  refine am_T.stp hN (pc' := 95) rfl ?_
  refine am_T.stp hN (pc' := 96) rfl ?_
  refine am_T.stp hN (pc' := 99) rfl ?_
  refine am_T.stp hN (pc' := 100) rfl ?_
  refine am_T.stp hN (pc' := 101) rfl ?_
  refine am_T.stp hN (pc' := 102) rfl ?_
  refine am_T.stp hN (pc' := 105) (lv' := [(1, .int 8), (0, .ref 6952)]) rfl ?_
  refine am_T.stp hN (pc' := 82) rfl ?_
  refine am_T.stp hN (pc' := 83) rfl ?_
  refine am_T.stp hN (pc' := 85) rfl ?_
  refine am_T.stp hN rfl ?_
  refine am_T.jf (by first | rfl | decide) ?_
  refine am_T.stp hN (pc' := 89) rfl ?_
  refine am_T.stp hN (pc' := 92) rfl ?_
  refine am_T.stp hN (pc' := 93) rfl ?_
  refine am_T.stp hN (pc' := 94) rfl ?_
  refine am_T.stp hN (pc' := 95) rfl ?_
  refine am_T.stp hN (pc' := 96) rfl ?_
  refine am_T.stp hN (pc' := 99) rfl ?_
  refine am_T.stp hN (pc' := 100) rfl ?_
  refine am_T.stp hN (pc' := 101) rfl ?_
  refine am_T.stp hN (pc' := 102) rfl ?_
  refine am_T.stp hN (pc' := 105) (lv' := [(1, .int 9), (0, .ref 6952)]) rfl ?_
  refine am_T.stp hN (pc' := 82) rfl ?_
  refine am_T.stp hN (pc' := 83) rfl ?_
  refine am_T.stp hN (pc' := 85) rfl ?_
  refine am_T.stp hN rfl ?_
  refine am_T.jf (by first | rfl | decide) ?_
  refine am_T.stp hN (pc' := 89) rfl ?_
  refine am_T.stp hN (pc' := 92) rfl ?_
  refine am_T.stp hN (pc' := 93) rfl ?_
  refine am_T.stp hN (pc' := 94) rfl ?_
  refine am_T.stp hN (pc' := 95) rfl ?_
  refine am_T.stp hN (pc' := 96) rfl ?_
  refine am_T.stp hN (pc' := 99) rfl ?_
  refine am_T.stp hN (pc' := 100) rfl ?_
  refine am_T.stp hN (pc' := 101) rfl ?_
  refine am_T.stp hN (pc' := 102) rfl ?_
  refine am_T.stp hN (pc' := 105) (lv' := [(1, .int 10), (0, .ref 6952)]) rfl ?_
  refine am_T.stp hN (pc' := 82) rfl ?_
  refine am_T.stp hN (pc' := 83) rfl ?_
  refine am_T.stp hN (pc' := 85) rfl ?_
  refine am_T.stp hN rfl ?_
  refine am_T.jf (by first | rfl | decide) ?_
  refine am_T.stp hN (pc' := 89) rfl ?_
  refine am_T.stp hN (pc' := 92) rfl ?_
  refine am_T.stp hN (pc' := 93) rfl ?_
  refine am_T.stp hN (pc' := 94) rfl ?_
  refine am_T.stp hN (pc' := 95) rfl ?_
  refine am_T.stp hN (pc' := 96) rfl ?_
  refine am_T.stp hN (pc' := 99) rfl ?_
  refine am_T.stp hN (pc' := 100) rfl ?_
  refine am_T.stp hN (pc' := 101) rfl ?_
  refine am_T.stp hN (pc' := 102) rfl ?_
  refine am_T.stp hN (pc' := 105) (lv' := [(1, .int 11), (0, .ref 6952)]) rfl ?_
  refine am_T.stp hN (pc' := 82) rfl ?_
  refine am_T.stp hN (pc' := 83) rfl ?_
  refine am_T.stp hN (pc' := 85) rfl ?_
  refine am_T.stp hN rfl ?_
  refine am_T.jf (by first | rfl | decide) ?_
  refine am_T.stp hN (pc' := 89) rfl ?_
  refine am_T.stp hN (pc' := 92) rfl ?_
  refine am_T.stp hN (pc' := 93) rfl ?_
  refine am_T.stp hN (pc' := 94) rfl ?_
  refine am_T.stp hN (pc' := 95) rfl ?_
  refine am_T.stp hN (pc' := 96) rfl ?_
  refine am_T.stp hN (pc' := 99) rfl ?_
  refine am_T.stp hN (pc' := 100) rfl ?_
  refine am_T.stp hN (pc' := 101) rfl ?_
  refine am_T.stp hN (pc' := 102) rfl ?_
  refine am_T.stp hN (pc' := 105) (lv' := [(1, .int 12), (0, .ref 6952)]) rfl ?_
  refine am_T.stp hN (pc' := 82) rfl ?_
  refine am_T.stp hN (pc' := 83) rfl ?_
  refine am_T.stp hN (pc' := 85) rfl ?_
  refine am_T.stp hN rfl ?_
  refine am_T.jf (by first | rfl | decide) ?_
  refine am_T.stp hN (pc' := 89) rfl ?_
  refine am_T.stp hN (pc' := 92) rfl ?_
  refine am_T.stp hN (pc' := 93) rfl ?_
  refine am_T.stp hN (pc' := 94) rfl ?_
  refine am_T.stp hN (pc' := 95) rfl ?_
  refine am_T.stp hN (pc' := 96) rfl ?_
  refine am_T.stp hN (pc' := 99) rfl ?_
  refine am_T.stp hN (pc' := 100) rfl ?_
  refine am_T.stp hN (pc' := 101) rfl ?_
  refine am_T.stp hN (pc' := 102) rfl ?_
  refine am_T.stp hN (pc' := 105) (lv' := [(1, .int 13), (0, .ref 6952)]) rfl ?_
  refine am_T.stp hN (pc' := 82) rfl ?_
  refine am_T.stp hN (pc' := 83) rfl ?_
  refine am_T.stp hN (pc' := 85) rfl ?_
  refine am_T.stp hN rfl ?_
  refine am_T.jf (by first | rfl | decide) ?_
  refine am_T.stp hN (pc' := 89) rfl ?_
  refine am_T.stp hN (pc' := 92) rfl ?_
  refine am_T.stp hN (pc' := 93) rfl ?_
  refine am_T.stp hN (pc' := 94) rfl ?_
  refine am_T.stp hN (pc' := 95) rfl ?_
  refine am_T.stp hN (pc' := 96) rfl ?_
  refine am_T.stp hN (pc' := 99) rfl ?_
  refine am_T.stp hN (pc' := 100) rfl ?_
  refine am_T.stp hN (pc' := 101) rfl ?_
  refine am_T.stp hN (pc' := 102) rfl ?_
  refine am_T.stp hN (pc' := 105) (lv' := [(1, .int 14), (0, .ref 6952)]) rfl ?_
  refine am_T.stp hN (pc' := 82) rfl ?_
  refine am_T.stp hN (pc' := 83) rfl ?_
  refine am_T.stp hN (pc' := 85) rfl ?_
  refine am_T.stp hN rfl ?_
  refine am_T.jf (by first | rfl | decide) ?_
  refine am_T.stp hN (pc' := 89) rfl ?_
  refine am_T.stp hN (pc' := 92) rfl ?_
  refine am_T.stp hN (pc' := 93) rfl ?_
  refine am_T.stp hN (pc' := 94) rfl ?_
  refine am_T.stp hN (pc' := 95) rfl ?_
  refine am_T.stp hN (pc' := 96) rfl ?_
  refine am_T.stp hN (pc' := 99) rfl ?_
  refine am_T.stp hN (pc' := 100) rfl ?_
  refine am_T.stp hN (pc' := 101) rfl ?_
  refine am_T.stp hN (pc' := 102) rfl ?_
  refine am_T.stp hN (pc' := 105) (lv' := [(1, .int 15), (0, .ref 6952)]) rfl ?_
  refine am_T.stp hN (pc' := 82) rfl ?_
  refine am_T.stp hN (pc' := 83) rfl ?_
  refine am_T.stp hN (pc' := 85) rfl ?_
  refine am_T.stp hN rfl ?_
  refine am_T.jf (by first | rfl | decide) ?_
  refine am_T.stp hN (pc' := 89) rfl ?_
  refine am_T.stp hN (pc' := 92) rfl ?_
  refine am_T.stp hN (pc' := 93) rfl ?_
  refine am_T.stp hN (pc' := 94) rfl ?_
  refine am_T.stp hN (pc' := 95) rfl ?_
  refine am_T.stp hN (pc' := 96) rfl ?_
  refine am_T.stp hN (pc' := 99) rfl ?_
  refine am_T.stp hN (pc' := 100) rfl ?_
  refine am_T.stp hN (pc' := 101) rfl ?_
  refine am_T.stp hN (pc' := 102) rfl ?_
  refine am_T.stp hN (pc' := 105) (lv' := [(1, .int 16), (0, .ref 6952)]) rfl ?_
  refine am_T.stp hN (pc' := 82) rfl ?_
  refine am_T.stp hN (pc' := 83) rfl ?_
  refine am_T.stp hN (pc' := 85) rfl ?_
  refine am_T.stp hN rfl ?_
  refine am_T.jt (by first | rfl | decide) ?_
  refine am_T.stp hN (pc' := 109) rfl ?_
  refine am_T.stp hN (pc' := 110) (lv' := [(1, .int 1), (0, .ref 6952)]) rfl ?_
  refine am_T.stp hN (pc' := 111) rfl ?_
  refine am_T.stp hN rfl ?_
  refine am_T.jf (by first | rfl | decide) ?_
  refine am_T.stp hN (pc' := 115) rfl ?_
  refine am_T.go hN (vs := [.ref 6952]) (r := []) rfl ?_
  refine am_T.lvq (lv' := [(0, .ref 6952)]) rfl ?_
  refine am_T.stp hN (pc' := 1) rfl ?_
  refine am_T.stp hN (pc' := 2) rfl ?_
  refine am_T.stp hN (pc' := 5) rfl ?_
  refine am_T.go hN (vs := [.ref 6952, .int 0]) (r := []) rfl ?_
  refine am_T.lvq (lv' := [(0, .ref 6952), (1, .int 0)]) rfl ?_
  refine am_T.stp hN (pc' := 1) rfl ?_
  refine am_T.stp hN (pc' := 3) rfl ?_
  refine am_T.stp hN (pc' := 4) rfl ?_
  refine am_T.stp hN (pc' := 7) rfl ?_
  refine am_T.stp hN rfl ?_
  refine am_T.jt (by first | rfl | decide) ?_
  refine am_T.stp hN (pc' := 13) rfl ?_
  refine am_T.stp hN (pc' := 16) rfl ?_
  refine am_T.stp hN (pc' := 17) rfl ?_
  refine am_T.stp hN (pc' := 18) (st' := .int 0 :: _) rfl ?_
  refine am_T.stp hN (pc' := 20) rfl ?_
  refine am_T.stp hN (pc' := 21) rfl ?_
  refine am_T.stp hN (pc' := 22) rfl ?_
  refine am_T.stp hN (pc' := 25) rfl ?_
  refine am_T.stp hN (pc' := 26) rfl ?_
  refine am_T.stp hN (pc' := 27) rfl ?_
  refine am_T.stp hN (pc' := 28) rfl ?_
  refine am_T.stp hN (pc' := 29) (st' := .int 0 :: _) rfl ?_
  refine am_T.stp hN (pc' := 30) rfl ?_
  refine am_T.stp hN (pc' := 31) (lv' := [(2, .int 0), (0, .ref 6952), (1, .int 0)]) rfl ?_
  refine am_T.stp hN (pc' := 32) rfl ?_
  refine am_T.stp hN (pc' := 35) rfl ?_
  refine am_T.stp hN (pc' := 36) rfl ?_
  refine am_T.stp hN (pc' := 37) rfl ?_
  refine am_T.stp hN (pc' := 38) rfl ?_
  refine am_T.stp hN (pc' := 39) (st' := .int 0 :: _) rfl ?_
  refine am_T.stp hN (pc' := 40) (lv' := [(3, .int 0), (2, .int 0), (0, .ref 6952), (1, .int 0)]) rfl ?_
  refine am_T.stp hN (pc' := 41) rfl ?_
  refine am_T.stp hN (pc' := 43) rfl ?_
  refine am_T.stp hN rfl ?_
  refine am_T.jt (by first | rfl | decide) ?_
  refine am_T.stp hN (pc' := 68) rfl ?_
  refine am_T.ret rfl ?_
  refine am_T.bck (pc' := 8) (st' := [.int 0]) rfl rfl ?_
  refine am_T.stp hN rfl ?_
  refine am_T.jf (by first | rfl | decide) ?_
  refine am_T.stp hN (pc' := 12) rfl ?_
  refine am_T.ret rfl ?_
  refine am_T.bck (pc' := 118) (st' := [.int 0]) rfl rfl ?_
  refine am_T.stp hN (pc' := 119) (lv' := [(1, .int 0), (0, .ref 6952)]) rfl ?_
  refine am_T.stp hN (pc' := 110) rfl ?_
  refine am_T.stp hN (pc' := 111) rfl ?_
  refine am_T.stp hN rfl ?_
  refine am_T.jt (by first | rfl | decide) ?_
  refine am_T.stp hN (pc' := 123) rfl ?_
  refine am_T.stp hN (pc' := 124) rfl ?_
  refine am_T.stp hN (pc' := 127) (ov' := (6952, .inr (12, [.int 0, .ref 6953, .int 0, .ref 6954, .int 0, .ref 6955, .int 0, .int 0, .int 0, .ref 6956, .ref 6957, .ref 6958, .ref 6959, .int 0, .int 0, .int 0, .int 0, .int 0, .long 0, .int (-1), .int (-1), .ref 6960, .ref 6961, .ref 6962, .ref 6963, .ref 6964, .ref 6965, .ref 6966, .ref 6967, .ref 6968, .ref 6969, .ref 6970, .ref 6971, .ref 6972, .ref 6973, .ref 6974, .int 0, .int 0, .int 0, .int 0, .int 0, .ref 6975, .ref 6976, .ref 6977, .ref 6978, .int 0, .int 0, .ref 6979, .ref 6980, .ref 6981, .ref 6982, .ref 6983, .ref 6984, .ref 6985, .ref 6986, .ref 6987, .ref 6988, .int 0, .ref 6989, .ref 6990, .int 0, .ref 6991, .int 0, .ref 6992, .ref 6993, .int 0, .ref 6994, .ref 6995, .ref 6996, .ref 6997, .ref 6998, .ref 6999, .ref 7000, .ref 7001, .ref 7002, .ref 7003, .ref 7004, .ref 7005, .ref 7006, .ref 7007, .ref 7008, .ref 7009, .ref 7010, .int 0, .long 0, .int 0, .ref 7011, .ref 7012, .ref 7013, .int 0, .ref 7014, .ref 7015, .ref 7016, .int 0, .ref 7017, .ref 7018, .int 0, .ref 7019, .ref 7020, .long 0, .long 0, .int 0, .int 0, .int 0, .int 0, .ref 7021, .ref 7022, .ref 7023, .ref 7024, .ref 7025, .int 0, .ref 7026, .ref 7027, .ref 7028, .ref 7029, .ref 7030, .int 0, .ref 7031, .ref 7032, .ref 7033, .ref 7034, .ref 7035, .int 0, .ref 7036, .int 0, .ref 7037, .ref 7038, .ref 7039, .ref 7040, .ref 7041, .int 0, .ref 7042, .ref 7043, .ref 7044, .int 0, .ref 7045, .ref 7046, .int 0, .ref 7047, .ref 7048, .ref 7049, .ref 7050, .ref 7051, .int 0, .ref 7052, .ref 7053, .ref 7054, .ref 7055, .ref 7056, .int 0, .int 0, .ref 7057, .ref 7058, .ref 7059, .ref 7060, .ref 7061, .ref 7062, .ref 7063, .ref 7064, .ref 7065, .ref 7066, .ref 7067, .ref 7068, .ref 7069, .ref 7070, .ref 7071, .ref 7072, .ref 7073, .ref 7074, .ref 7075, .ref 7076, .ref 7077, .ref 7078, .ref 7079, .long 0, .int 0, .ref 7080, .int 0, .int 0, .int (-1), .int 0, .int 0])) :: _) rfl ?_
  refine am_T.stp hN (pc' := 128) rfl ?_
  refine am_T.stp hN (pc' := 129) rfl ?_
  refine am_T.stp hN (pc' := 132) (ov' := (6952, .inr (12, [.int 0, .ref 6953, .int 0, .ref 6954, .int 0, .ref 6955, .int 0, .int 0, .int 0, .ref 6956, .ref 6957, .ref 6958, .ref 6959, .int 0, .int 0, .int 0, .int 0, .int 0, .long 0, .int (-1), .int (-1), .ref 6960, .ref 6961, .ref 6962, .ref 6963, .ref 6964, .ref 6965, .ref 6966, .ref 6967, .ref 6968, .ref 6969, .ref 6970, .ref 6971, .ref 6972, .ref 6973, .ref 6974, .int 0, .int 0, .int 0, .int 0, .int 0, .ref 6975, .ref 6976, .ref 6977, .ref 6978, .int 0, .int 0, .ref 6979, .ref 6980, .ref 6981, .ref 6982, .ref 6983, .ref 6984, .ref 6985, .ref 6986, .ref 6987, .ref 6988, .int 0, .ref 6989, .ref 6990, .int 0, .ref 6991, .int 0, .ref 6992, .ref 6993, .int 0, .ref 6994, .ref 6995, .ref 6996, .ref 6997, .ref 6998, .ref 6999, .ref 7000, .ref 7001, .ref 7002, .ref 7003, .ref 7004, .ref 7005, .ref 7006, .ref 7007, .ref 7008, .ref 7009, .ref 7010, .int 0, .long 0, .int 0, .ref 7011, .ref 7012, .ref 7013, .int 0, .ref 7014, .ref 7015, .ref 7016, .int 0, .ref 7017, .ref 7018, .int 0, .ref 7019, .ref 7020, .long 0, .long 0, .int 0, .int 0, .int 0, .int 0, .ref 7021, .ref 7022, .ref 7023, .ref 7024, .ref 7025, .int 0, .ref 7026, .ref 7027, .ref 7028, .ref 7029, .ref 7030, .int 0, .ref 7031, .ref 7032, .ref 7033, .ref 7034, .ref 7035, .int 0, .ref 7036, .int 0, .ref 7037, .ref 7038, .ref 7039, .ref 7040, .ref 7041, .int 0, .ref 7042, .ref 7043, .ref 7044, .int 0, .ref 7045, .ref 7046, .int 0, .ref 7047, .ref 7048, .ref 7049, .ref 7050, .ref 7051, .int 0, .ref 7052, .ref 7053, .ref 7054, .ref 7055, .ref 7056, .int 0, .int 0, .ref 7057, .ref 7058, .ref 7059, .ref 7060, .ref 7061, .ref 7062, .ref 7063, .ref 7064, .ref 7065, .ref 7066, .ref 7067, .ref 7068, .ref 7069, .ref 7070, .ref 7071, .ref 7072, .ref 7073, .ref 7074, .ref 7075, .ref 7076, .ref 7077, .ref 7078, .ref 7079, .long 0, .int 0, .ref 7080, .int 0, .int 0, .int (-1), .int 0, .int 0])) :: _) rfl ?_
  refine am_T.stp hN (pc' := 133) rfl ?_
  refine am_T.stp hN (pc' := 136) rfl ?_
  refine am_T.ret rfl ?_
  refine am_T.bck (pc' := 2555) (st' := [.int 0, .int 0]) rfl rfl ?_
  refine am_T.stp hN rfl ?_
  refine am_T.jt (by first | rfl | decide) ?_
  refine am_T.stp hN (pc' := 2619) (lv' := [(4, .int 6), (3, .ref 7081), (2, .ref 6952), (1, .ref 0), (0, .float 200)]) rfl ?_
  refine am_T.stp hN (pc' := 23) rfl ?_
  refine am_T.stp hN (pc' := 25) rfl ?_
  refine am_T.stp hN (pc' := 26) rfl ?_
  refine am_T.stp hN (pc' := 27) rfl ?_
  refine am_T.stp hN (pc' := 29) rfl ?_
  refine am_T.stp hN (pc' := 30) rfl ?_
  refine am_T.stp hN rfl ?_
  refine am_T.jt (by first | rfl | decide) ?_
  refine am_T.stp hN (pc' := 2623) rfl ?_
  refine am_T.ret rfl ?_
  exact pu_fin rfl

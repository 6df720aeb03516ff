set_option maxRecDepth 20000 in
set_option maxHeartbeats 40000000 in
theorem pu_op11 (xs : Nat → Int32) (d : Nat) (h : am_H) (hN : 7082 ≤ h.length) : am_T (pu_G xs 6) (d + 20) 452 863 [(4, .int 0), (3, .ref 7081), (2, .ref 6952), (1, .ref 0), (0, .float 200)] [] (am_ov pu_ov0 h) (pu_K h) := by
  refine am_T.stp hN (pc' := 864) rfl ?_
  refine am_T.stp hN (pc' := 865) rfl ?_
  refine am_T.go hN (vs := [.ref 0, .ref 7081]) (r := []) rfl ?_
  refine am_T.lvq (lv' := [(0, .ref 0), (1, .ref 7081)]) rfl ?_
  refine am_T.stp hN (pc' := 1) rfl ?_
  refine am_T.stp hN (pc' := 2) rfl ?_
  refine am_T.stp hN (pc' := 3) rfl ?_
  refine am_T.go hN (vs := [.ref 0]) (r := [.int 0, .ref 7081]) rfl ?_
  refine am_T.lvq (lv' := [(0, .ref 0)]) rfl ?_
  refine am_T.stp hN (pc' := 1) rfl ?_
  refine am_T.go hN (vs := [.ref 0]) (r := []) rfl ?_
  refine am_T.lvq (lv' := [(0, .ref 0)]) rfl ?_
  refine am_T.stp hN (pc' := 1) rfl ?_
  refine am_T.stp hN (pc' := 4) rfl ?_
  refine am_T.stp hN (pc' := 7) rfl ?_
  refine am_T.stp hN rfl ?_
  refine am_T.jt (by first | rfl | decide) ?_
  refine am_T.ret rfl ?_
  refine am_T.bck (pc' := 4) (st' := []) rfl rfl ?_
  refine am_T.stp hN (pc' := 5) rfl ?_
  refine am_T.stp hN (pc' := 6) rfl ?_
  refine am_T.go hN (vs := [.ref 0]) (r := [.ref 0]) rfl ?_
  refine am_T.lvq (lv' := [(0, .ref 0)]) rfl ?_
  refine am_T.stp hN (pc' := 1) rfl ?_
  refine am_T.stp hN (pc' := 3) rfl ?_
  refine am_T.stp hN (pc' := 4) rfl ?_
  refine am_T.stp hN (pc' := 5) rfl ?_
  refine am_T.stp hN (pc' := 6) rfl ?_
  refine am_T.stp hN (pc' := 7) rfl ?_
  refine am_T.go hN (vs := [.ref 0, .int 8, .long 0, .long 0, .long 0, .int 0]) (r := []) rfl ?_
  refine am_T.lvq (lv' := [(0, .ref 0), (1, .int 8), (2, .long 0), (4, .long 0), (6, .long 0), (8, .int 0)]) rfl ?_
  refine am_T.stp hN (pc' := 1) rfl ?_
  refine am_T.stp hN (pc' := 4) rfl ?_
  refine am_T.stp hN rfl ?_
  refine am_T.jt (by first | rfl | decide) ?_
  refine am_T.stp hN (pc' := 10) rfl ?_
  refine am_T.stp hN (pc' := 13) rfl ?_
  refine am_T.stp hN (pc' := 14) rfl ?_
  refine am_T.stp hN (pc' := 16) rfl ?_
  refine am_T.go hN (vs := [.ref 2068, .int 8, .int 0]) (r := []) rfl ?_
  refine am_T.lvq (lv' := [(0, .ref 2068), (1, .int 8), (2, .int 0)]) rfl ?_
  refine am_T.stp hN (pc' := 1) rfl ?_
  refine am_T.stp hN (pc' := 4) rfl ?_
  refine am_T.stp hN (pc' := 5) rfl ?_
  refine am_T.stp hN (pc' := 6) rfl ?_
  refine am_T.go hN (vs := [.int 8, .int 0]) (r := [.int 0]) rfl ?_
  refine am_T.lvq (lv' := [(0, .int 8), (1, .int 0)]) rfl ?_
  refine am_T.stp hN (pc' := 2) rfl ?_
  refine am_T.stp hN (pc' := 4) rfl ?_
  refine am_T.stp hN (pc' := 7) rfl ?_
  refine am_T.stp hN (pc' := 8) rfl ?_
  refine am_T.stp hN (pc' := 9) (st' := .int 0 :: _) rfl ?_
  refine am_T.stp hN (pc' := 10) rfl ?_
  refine am_T.stp hN (pc' := 11) rfl ?_
  refine am_T.stp hN (pc' := 12) rfl ?_
  refine am_T.stp hN (pc' := 13) rfl ?_
  refine am_T.ret rfl ?_
  refine am_T.bck (pc' := 9) (st' := [.int 7, .int 0]) rfl rfl ?_
  refine am_T.stp hN (pc' := 10) rfl ?_
  refine am_T.stp hN (pc' := 13) rfl ?_
  refine am_T.stp hN rfl ?_
  refine am_T.jf (by first | rfl | decide) ?_
  refine am_T.stp hN (pc' := 17) rfl ?_
  refine am_T.stp hN (pc' := 21) rfl ?_
  refine am_T.ret rfl ?_
  refine am_T.bck (pc' := 19) (st' := [.int 1]) rfl rfl ?_
  refine am_T.stp hN rfl ?_
  refine am_T.jt (by first | rfl | decide) ?_
  refine am_T.stp hN (pc' := 26) rfl ?_
  refine am_T.stp hN (pc' := 29) rfl ?_
  refine am_T.stp hN (pc' := 30) rfl ?_
  refine am_T.stp hN (pc' := 31) rfl ?_
  refine am_T.stp hN (pc' := 33) rfl ?_
  refine am_T.stp hN (pc' := 35) rfl ?_
  refine am_T.stp hN (pc' := 36) rfl ?_
  refine am_T.stp hN (pc' := 39) rfl ?_
  refine am_T.stp hN (pc' := 41) rfl ?_
  refine am_T.go hN (vs := [.ref 2068, .int 8, .long 0, .long 0, .long 0, .ref 1, .int 0]) (r := []) rfl ?_
  refine am_T.lvq (lv' := [(0, .ref 2068), (1, .int 8), (2, .long 0), (4, .long 0), (6, .long 0), (8, .ref 1), (9, .int 0)]) rfl ?_
  refine am_T.stp hN (pc' := 1) rfl ?_
  refine am_T.stp hN (pc' := 3) rfl ?_
  refine am_T.go hN (vs := [.int 8, .int 0]) (r := []) rfl ?_
  refine am_T.lvq (lv' := [(0, .int 8), (1, .int 0)]) rfl ?_
  refine am_T.stp hN (pc' := 2) rfl ?_
  refine am_T.stp hN (pc' := 4) rfl ?_
  refine am_T.stp hN (pc' := 7) rfl ?_
  refine am_T.stp hN (pc' := 8) rfl ?_
  refine am_T.stp hN (pc' := 9) (st' := .int 0 :: _) rfl ?_
  refine am_T.stp hN (pc' := 10) rfl ?_
  refine am_T.stp hN (pc' := 11) rfl ?_
  refine am_T.stp hN (pc' := 12) rfl ?_
  refine am_T.stp hN (pc' := 13) rfl ?_
  refine am_T.ret rfl ?_
  refine am_T.bck (pc' := 6) (st' := [.int 7]) rfl rfl ?_
  refine am_T.stp hN (pc' := 8) (lv' := [(10, .int 7), (0, .ref 2068), (1, .int 8), (2, .long 0), (4, .long 0), (6, .long 0), (8, .ref 1), (9, .int 0)]) rfl ?_
  refine am_T.stp hN (pc' := 9) rfl ?_
  refine am_T.stp hN (pc' := 12) rfl ?_
  refine am_T.stp hN (pc' := 14) rfl ?_
  refine am_T.stp hN (pc' := 15) rfl ?_
  refine am_T.stp hN (pc' := 16) rfl ?_
  refine am_T.stp hN (pc' := 17) rfl ?_
  refine am_T.stp hN (pc' := 19) (lv' := [(11, .int 9), (10, .int 7), (0, .ref 2068), (1, .int 8), (2, .long 0), (4, .long 0), (6, .long 0), (8, .ref 1), (9, .int 0)]) rfl ?_
  refine am_T.stp hN (pc' := 21) rfl ?_
  refine am_T.stp hN (pc' := 24) rfl ?_
  refine am_T.stp hN rfl ?_
  refine am_T.jf (by first | rfl | decide) ?_
  refine am_T.stp hN (pc' := 28) rfl ?_
  refine am_T.stp hN (pc' := 31) rfl ?_
  refine am_T.stp hN (pc' := 33) rfl ?_
  refine am_T.stp hN (pc' := 34) rfl ?_
  refine am_T.stp hN (pc' := 35) rfl ?_
  refine am_T.stp hN (pc' := 36) rfl ?_
  refine am_T.stp hN (pc' := 37) rfl ?_
  refine am_T.stp hN (pc' := 40) rfl ?_
  refine am_T.stp hN (pc' := 43) (ov' := (2068, .inr (1, [.ref 2069, .int 0, .int 0, .int (-1), .int 0, .int 0, .int 0])) :: _) rfl ?_
  refine am_T.stp hN (pc' := 44) rfl ?_
  refine am_T.go hN (vs := []) (r := [.ref 2068]) rfl ?_
  refine am_T.lvq (lv' := []) rfl ?_
  refine am_T.stp hN (pc' := 2) rfl ?_
  refine am_T.ret rfl ?_
  refine am_T.bck (pc' := 47) (st' := [.int (-2128831035), .ref 2068]) rfl rfl ?_
  refine am_T.stp hN (pc' := 50) (ov' := (2068, .inr (1, [.ref 2069, .int 0, .int 0, .int (-1), .int 0, .int 0, .int (-2128831035)])) :: _) rfl ?_
  refine am_T.stp hN (pc' := 51) rfl ?_
  refine am_T.stp hN (pc' := 53) rfl ?_
  refine am_T.stp hN (pc' := 54) rfl ?_
  refine am_T.stp hN (pc' := 55) rfl ?_
  refine am_T.go hN (vs := [.ref 2068, .long 7, .int 2]) (r := []) rfl ?_
  refine am_T.lvq (lv' := [(0, .ref 2068), (1, .long 7), (3, .int 2)]) rfl ?_
  refine am_T.stp hN (pc' := 2) rfl ?_
  refine am_T.stp hN (pc' := 3) rfl ?_
  refine am_T.stp hN (pc' := 4) rfl ?_
  refine am_T.stp hN (pc' := 6) rfl ?_
  refine am_T.stp hN (pc' := 7) rfl ?_
  refine am_T.stp hN (pc' := 9) (lv' := [(4, .int 8), (0, .ref 2068), (1, .long 7), (3, .int 2)]) rfl ?_
  refine am_T.stp hN (pc' := 11) rfl ?_
  refine am_T.stp hN rfl ?_
  refine am_T.jf (by first | rfl | decide) ?_
  refine am_T.stp hN (pc' := 15) rfl ?_
  refine am_T.stp hN (pc' := 16) rfl ?_
  refine am_T.stp hN (pc' := 18) rfl ?_
  refine am_T.stp hN (pc' := 19) rfl ?_
  refine am_T.stp hN (pc' := 20) rfl ?_
  refine am_T.go hN (vs := [.ref 2068, .int 0]) (r := []) rfl ?_
  refine am_T.lvq (lv' := [(0, .ref 2068), (1, .int 0)]) rfl ?_
  refine am_T.stp hN (pc' := 1) rfl ?_
  refine am_T.stp hN (pc' := 2) rfl ?_
  refine am_T.stp hN (pc' := 5) rfl ?_
  refine am_T.stp hN (pc' := 6) rfl ?_
  refine am_T.go hN (vs := [.int (-2128831035), .int 0]) (r := [.ref 2068]) rfl ?_
  refine am_T.lvq (lv' := [(0, .int (-2128831035)), (1, .int 0)]) rfl ?_
  refine am_T.stp hN (pc' := 1) rfl ?_
  refine am_T.stp hN (pc' := 2) rfl ?_
  refine am_T.stp hN (pc' := 5) rfl ?_
  refine am_T.stp hN (pc' := 6) rfl ?_
  refine am_T.stp hN (pc' := 7) rfl ?_
  refine am_T.stp hN (pc' := 9) rfl ?_
  refine am_T.stp hN (pc' := 10) rfl ?_
  refine am_T.ret rfl ?_
  refine am_T.bck (pc' := 9) (st' := [.int 84696351, .ref 2068]) rfl rfl ?_
  refine am_T.stp hN (pc' := 12) (ov' := (2068, .inr (1, [.ref 2069, .int 0, .int 0, .int (-1), .int 0, .int 0, .int 84696351])) :: _) rfl ?_
  refine am_T.stp hN (pc' := 13) rfl ?_
  refine am_T.stp hN (pc' := 16) rfl ?_
  refine am_T.stp hN rfl ?_
  refine am_T.jt (by first | rfl | decide) ?_
  refine am_T.stp hN (pc' := 25) rfl ?_
  refine am_T.stp hN (pc' := 28) rfl ?_
  refine am_T.stp hN rfl ?_
  refine am_T.jf (by first | rfl | decide) ?_
  refine am_T.stp hN (pc' := 32) rfl ?_
  refine am_T.stp hN (pc' := 35) rfl ?_
  refine am_T.stp hN (pc' := 38) rfl ?_
  refine am_T.stp hN rfl ?_
  refine am_T.jt (by first | rfl | decide) ?_
  refine am_T.stp hN (pc' := 43) rfl ?_
  refine am_T.stp hN (pc' := 46) rfl ?_
  refine am_T.stp hN (pc' := 47) rfl ?_
  refine am_T.stp hN (pc' := 50) rfl ?_
  refine am_T.stp hN (pc' := 51) rfl ?_
  refine am_T.stp hN (pc' := 52) rfl ?_
  refine am_T.stp hN (pc' := 53) rfl ?_
  refine am_T.stp hN (pc' := 54) rfl ?_
  refine am_T.stp hN (pc' := 55) rfl ?_
  refine am_T.stp hN (pc' := 58) rfl ?_
  refine am_T.stp hN (pc' := 59) rfl ?_
  refine am_T.stp hN (pc' := 60) rfl ?_
  refine am_T.stp hN (pc' := 63) (ov' := (2068, .inr (1, [.ref 2069, .int 0, .int 0, .int (-1), .int 0, .int 1, .int 84696351])) :: _) rfl ?_
  refine am_T.stp hN (pc' := 64) rfl ?_
  refine am_T.stp hN (pc' := 67) rfl ?_
  refine am_T.stp hN rfl ?_
  refine am_T.jt (by first | rfl | decide) ?_
  refine am_T.ret rfl ?_
  refine am_T.bck (pc' := 23) (st' := []) rfl rfl ?_
  refine am_T.stp hN (pc' := 26) (lv' := [(4, .int 0), (0, .ref 2068), (1, .long 7), (3, .int 2)]) rfl ?_
  refine am_T.stp hN (pc' := 9) rfl ?_
  refine am_T.stp hN (pc' := 11) rfl ?_
  refine am_T.stp hN rfl ?_
  refine am_T.jf (by first | rfl | decide) ?_
  refine am_T.stp hN (pc' := 15) rfl ?_
  refine am_T.stp hN (pc' := 16) rfl ?_
  refine am_T.stp hN (pc' := 18) rfl ?_
  refine am_T.stp hN (pc' := 19) rfl ?_
  refine am_T.stp hN (pc' := 20) rfl ?_
  refine am_T.go hN (vs := [.ref 2068, .int 7]) (r := []) rfl ?_
  refine am_T.lvq (lv' := [(0, .ref 2068), (1, .int 7)]) rfl ?_
  refine am_T.stp hN (pc' := 1) rfl ?_
  refine am_T.stp hN (pc' := 2) rfl ?_
  refine am_T.stp hN (pc' := 5) rfl ?_
  refine am_T.stp hN (pc' := 6) rfl ?_
  refine am_T.go hN (vs := [.int 84696351, .int 7]) (r := [.ref 2068]) rfl ?_
  refine am_T.lvq (lv' := [(0, .int 84696351), (1, .int 7)]) rfl ?_
  refine am_T.stp hN (pc' := 1) rfl ?_
  refine am_T.stp hN (pc' := 2) rfl ?_
  refine am_T.stp hN (pc' := 5) rfl ?_
  refine am_T.stp hN (pc' := 6) rfl ?_
  refine am_T.stp hN (pc' := 7) rfl ?_
  refine am_T.stp hN (pc' := 9) rfl ?_
  refine am_T.stp hN (pc' := 10) rfl ?_
  refine am_T.ret rfl ?_
  refine am_T.bck (pc' := 9) (st' := [.int 175541448, .ref 2068]) rfl rfl ?_
  refine am_T.stp hN (pc' := 12) (ov' := (2068, .inr (1, [.ref 2069, .int 0, .int 0, .int (-1), .int 0, .int 1, .int 175541448])) :: _) rfl ?_
  refine am_T.stp hN (pc' := 13) rfl ?_
  refine am_T.stp hN (pc' := 16) rfl ?_
  refine am_T.stp hN rfl ?_
  refine am_T.jt (by first | rfl | decide) ?_
  refine am_T.stp hN (pc' := 25) rfl ?_
  refine am_T.stp hN (pc' := 28) rfl ?_
  refine am_T.stp hN rfl ?_
  refine am_T.jf (by first | rfl | decide) ?_
  refine am_T.stp hN (pc' := 32) rfl ?_
  refine am_T.stp hN (pc' := 35) rfl ?_
  refine am_T.stp hN (pc' := 38) rfl ?_
  refine am_T.stp hN rfl ?_
  refine am_T.jt (by first | rfl | decide) ?_
  refine am_T.stp hN (pc' := 43) rfl ?_
  refine am_T.stp hN (pc' := 46) rfl ?_
  refine am_T.stp hN (pc' := 47) rfl ?_
  refine am_T.stp hN (pc' := 50) rfl ?_
  refine am_T.stp hN (pc' := 51) rfl ?_
  refine am_T.stp hN (pc' := 52) rfl ?_
  refine am_T.stp hN (pc' := 53) rfl ?_
  refine am_T.stp hN (pc' := 54) rfl ?_
  refine am_T.stp hN (pc' := 55) rfl ?_
  refine am_T.stp hN (pc' := 58) rfl ?_
  refine am_T.stp hN (pc' := 59) rfl ?_
  refine am_T.stp hN (pc' := 60) rfl ?_
  refine am_T.stp hN (pc' := 63) (ov' := (2068, .inr (1, [.ref 2069, .int 0, .int 0, .int (-1), .int 0, .int 2, .int 175541448])) :: _) rfl ?_
  refine am_T.stp hN (pc' := 64) rfl ?_
  refine am_T.stp hN (pc' := 67) rfl ?_
  refine am_T.stp hN rfl ?_
  refine am_T.jt (by first | rfl | decide) ?_
  refine am_T.ret rfl ?_
  refine am_T.bck (pc' := 23) (st' := []) rfl rfl ?_
  refine am_T.stp hN (pc' := 26) (lv' := [(4, .int (-8)), (0, .ref 2068), (1, .long 7), (3, .int 2)]) rfl ?_
  refine am_T.stp hN (pc' := 9) rfl ?_
  refine am_T.stp hN (pc' := 11) rfl ?_
  refine am_T.stp hN rfl ?_
  refine am_T.jt (by first | rfl | decide) ?_
  refine am_T.ret rfl ?_
  refine am_T.bck (pc' := 58) (st' := []) rfl rfl ?_
  refine am_T.stp hN (pc' := 59) rfl ?_
  refine am_T.stp hN (pc' := 60) rfl ?_
  refine am_T.stp hN (pc' := 61) rfl ?_
  refine am_T.stp hN (pc' := 62) rfl ?_
  refine am_T.go hN (vs := [.ref 2068, .long 8, .int 1]) (r := []) rfl ?_
  refine am_T.lvq (lv' := [(0, .ref 2068), (1, .long 8), (3, .int 1)]) rfl ?_
  refine am_T.stp hN (pc' := 2) rfl ?_
  refine am_T.stp hN (pc' := 3) rfl ?_
  refine am_T.stp hN (pc' := 4) rfl ?_
  refine am_T.stp hN (pc' := 6) rfl ?_
  refine am_T.stp hN (pc' := 7) rfl ?_
  refine am_T.stp hN (pc' := 9) (lv' := [(4, .int 0), (0, .ref 2068), (1, .long 8), (3, .int 1)]) rfl ?_
  refine am_T.stp hN (pc' := 11) rfl ?_
  refine am_T.stp hN rfl ?_
  refine am_T.jf (by first | rfl | decide) ?_
  refine am_T.stp hN (pc' := 15) rfl ?_
  refine am_T.stp hN (pc' := 16) rfl ?_
  refine am_T.stp hN (pc' := 18) rfl ?_
  refine am_T.stp hN (pc' := 19) rfl ?_
  refine am_T.stp hN (pc' := 20) rfl ?_
  refine am_T.go hN (vs := [.ref 2068, .int 8]) (r := []) rfl ?_
  refine am_T.lvq (lv' := [(0, .ref 2068), (1, .int 8)]) rfl ?_
  refine am_T.stp hN (pc' := 1) rfl ?_
  refine am_T.stp hN (pc' := 2) rfl ?_
  refine am_T.stp hN (pc' := 5) rfl ?_
  refine am_T.stp hN (pc' := 6) rfl ?_
  refine am_T.go hN (vs := [.int 175541448, .int 8]) (r := [.ref 2068]) rfl ?_
  refine am_T.lvq (lv' := [(0, .int 175541448), (1, .int 8)]) rfl ?_
  refine am_T.stp hN (pc' := 1) rfl ?_
  refine am_T.stp hN (pc' := 2) rfl ?_
  refine am_T.stp hN (pc' := 5) rfl ?_
  refine am_T.stp hN (pc' := 6) rfl ?_
  refine am_T.stp hN (pc' := 7) rfl ?_
  refine am_T.stp hN (pc' := 9) rfl ?_
  refine am_T.stp hN (pc' := 10) rfl ?_
  refine am_T.ret rfl ?_
  refine am_T.bck (pc' := 9) (st' := [.int 949981760, .ref 2068]) rfl rfl ?_
  refine am_T.stp hN (pc' := 12) (ov' := (2068, .inr (1, [.ref 2069, .int 0, .int 0, .int (-1), .int 0, .int 2, .int 949981760])) :: _) rfl ?_
  refine am_T.stp hN (pc' := 13) rfl ?_
  refine am_T.stp hN (pc' := 16) rfl ?_
  refine am_T.stp hN rfl ?_
  refine am_T.jt (by first | rfl | decide) ?_
  refine am_T.stp hN (pc' := 25) rfl ?_
  refine am_T.stp hN (pc' := 28) rfl ?_
  refine am_T.stp hN rfl ?_
  refine am_T.jf (by first | rfl | decide) ?_
  refine am_T.stp hN (pc' := 32) rfl ?_
  refine am_T.stp hN (pc' := 35) rfl ?_
  refine am_T.stp hN (pc' := 38) rfl ?_
  refine am_T.stp hN rfl ?_
  refine am_T.jt (by first | rfl | decide) ?_
  refine am_T.stp hN (pc' := 43) rfl ?_
  refine am_T.stp hN (pc' := 46) rfl ?_
  refine am_T.stp hN (pc' := 47) rfl ?_
  refine am_T.stp hN (pc' := 50) rfl ?_
  refine am_T.stp hN (pc' := 51) rfl ?_
  refine am_T.stp hN (pc' := 52) rfl ?_
  refine am_T.stp hN (pc' := 53) rfl ?_
  refine am_T.stp hN (pc' := 54) rfl ?_
  refine am_T.stp hN (pc' := 55) rfl ?_
  refine am_T.stp hN (pc' := 58) rfl ?_
  refine am_T.stp hN (pc' := 59) rfl ?_
  refine am_T.stp hN (pc' := 60) rfl ?_
  refine am_T.stp hN (pc' := 63) (ov' := (2068, .inr (1, [.ref 2069, .int 0, .int 0, .int (-1), .int 0, .int 3, .int 949981760])) :: _) rfl ?_
  refine am_T.stp hN (pc' := 64) rfl ?_
  refine am_T.stp hN (pc' := 67) rfl ?_
  refine am_T.stp hN rfl ?_
  refine am_T.jt (by first | rfl | decide) ?_
  refine am_T.ret rfl ?_
  refine am_T.bck (pc' := 23) (st' := []) rfl rfl ?_
  refine am_T.stp hN (pc' := 26) (lv' := [(4, .int (-8)), (0, .ref 2068), (1, .long 8), (3, .int 1)]) rfl ?_
  refine am_T.stp hN (pc' := 9) rfl ?_
  refine am_T.stp hN (pc' := 11) rfl ?_
  refine am_T.stp hN rfl ?_
  refine am_T.jt (by first | rfl | decide) ?_
  refine am_T.ret rfl ?_
  refine am_T.bck (pc' := 65) (st' := []) rfl rfl ?_
  refine am_T.stp hN (pc' := 66) rfl ?_
  refine am_T.stp hN (pc' := 68) (lv' := [(12, .int 0), (11, .int 9), (10, .int 7), (0, .ref 2068), (1, .int 8), (2, .long 0), (4, .long 0), (6, .long 0), (8, .ref 1), (9, .int 0)]) rfl ?_
  refine am_T.stp hN (pc' := 70) rfl ?_
  refine am_T.stp hN (pc' := 73) rfl ?_
  refine am_T.stp hN (pc' := 74) rfl ?_
  refine am_T.stp hN (pc' := 75) (st' := .int 0 :: _) rfl ?_
  refine am_T.stp hN rfl ?_
  refine am_T.jt (by first | rfl | decide) ?_
  refine am_T.stp hN (pc' := 113) rfl ?_
  refine am_T.stp hN (pc' := 115) (lv' := [(12, .int 0), (11, .int 9), (10, .int 7), (0, .ref 2068), (1, .int 8), (2, .long 0), (4, .long 0), (6, .long 0), (8, .ref 1), (9, .int 0)]) rfl ?_
  refine am_T.stp hN (pc' := 117) rfl ?_
  refine am_T.stp hN (pc' := 119) rfl ?_
  refine am_T.stp hN rfl ?_
  refine am_T.jt (by first | rfl | decide) ?_
  refine am_T.stp hN (pc' := 138) rfl ?_
  refine am_T.stp hN (pc' := 139) rfl ?_
  refine am_T.stp hN (pc' := 142) rfl ?_
  refine am_T.stp hN (pc' := 143) rfl ?_
  refine am_T.stp hN (pc' := 146) rfl ?_
  refine am_T.go hN (vs := [.int 949981760, .int 0]) (r := [.ref 2068]) rfl ?_
  refine am_T.lvq (lv' := [(0, .int 949981760), (1, .int 0)]) rfl ?_
  refine am_T.stp hN (pc' := 1) rfl ?_
  refine am_T.stp hN (pc' := 2) (lv' := [(2, .int 949981760), (0, .int 949981760), (1, .int 0)]) rfl ?_
  refine am_T.stp hN (pc' := 4) rfl ?_
  refine am_T.stp hN (pc' := 5) (lv' := [(3, .int 24), (2, .int 949981760), (0, .int 949981760), (1, .int 0)]) rfl ?_
  refine am_T.stp hN (pc' := 6) rfl ?_
  refine am_T.stp hN rfl ?_
  refine am_T.jf (by first | rfl | decide) ?_
  refine am_T.stp hN (pc' := 10) rfl ?_
  refine am_T.stp hN (pc' := 11) rfl ?_
  refine am_T.stp hN (pc' := 12) rfl ?_
  refine am_T.stp hN (pc' := 13) rfl ?_
  refine am_T.go hN (vs := [.int 949981760, .int 0]) (r := []) rfl ?_
  refine am_T.lvq (lv' := [(0, .int 949981760), (1, .int 0)]) rfl ?_
  refine am_T.stp hN (pc' := 1) rfl ?_
  refine am_T.stp hN (pc' := 2) rfl ?_
  refine am_T.stp hN (pc' := 5) rfl ?_
  refine am_T.stp hN (pc' := 6) rfl ?_
  refine am_T.stp hN (pc' := 7) rfl ?_
  refine am_T.stp hN (pc' := 9) rfl ?_
  refine am_T.stp hN (pc' := 10) rfl ?_
  refine am_T.ret rfl ?_
  refine am_T.bck (pc' := 16) (st' := [.int 1664301760]) rfl rfl ?_
  refine am_T.stp hN (pc' := 17) (lv' := [(2, .int 1664301760), (3, .int 24), (0, .int 949981760), (1, .int 0)]) rfl ?_
  refine am_T.stp hN (pc' := 20) (lv' := [(3, .int 16), (2, .int 1664301760), (0, .int 949981760), (1, .int 0)]) rfl ?_
  refine am_T.stp hN (pc' := 5) rfl ?_
  refine am_T.stp hN (pc' := 6) rfl ?_
  refine am_T.stp hN rfl ?_
  refine am_T.jf (by first | rfl | decide) ?_
  refine am_T.stp hN (pc' := 10) rfl ?_
  refine am_T.stp hN (pc' := 11) rfl ?_
  refine am_T.stp hN (pc' := 12) rfl ?_
  refine am_T.stp hN (pc' := 13) rfl ?_
  refine am_T.go hN (vs := [.int 1664301760, .int 0]) (r := []) rfl ?_
  refine am_T.lvq (lv' := [(0, .int 1664301760), (1, .int 0)]) rfl ?_
  refine am_T.stp hN (pc' := 1) rfl ?_
  refine am_T.stp hN (pc' := 2) rfl ?_
  refine am_T.stp hN (pc' := 5) rfl ?_
  refine am_T.stp hN (pc' := 6) rfl ?_
  refine am_T.stp hN (pc' := 7) rfl ?_
  refine am_T.stp hN (pc' := 9) rfl ?_
  refine am_T.stp hN (pc' := 10) rfl ?_
  refine am_T.ret rfl ?_
  refine am_T.bck (pc' := 16) (st' := [.int (-375030720)]) rfl rfl ?_
  refine am_T.stp hN (pc' := 17) (lv' := [(2, .int (-375030720)), (3, .int 16), (0, .int 949981760), (1, .int 0)]) rfl ?_
  refine am_T.stp hN (pc' := 20) (lv' := [(3, .int 8), (2, .int (-375030720)), (0, .int 949981760), (1, .int 0)]) rfl ?_
  refine am_T.stp hN (pc' := 5) rfl ?_
  refine am_T.stp hN (pc' := 6) rfl ?_
  refine am_T.stp hN rfl ?_
  refine am_T.jf (by first | rfl | decide) ?_
  refine am_T.stp hN (pc' := 10) rfl ?_
  refine am_T.stp hN (pc' := 11) rfl ?_
  refine am_T.stp hN (pc' := 12) rfl ?_
  refine am_T.stp hN (pc' := 13) rfl ?_
  refine am_T.go hN (vs := [.int (-375030720), .int 0]) (r := []) rfl ?_
  refine am_T.lvq (lv' := [(0, .int (-375030720)), (1, .int 0)]) rfl ?_
  refine am_T.stp hN (pc' := 1) rfl ?_
  refine am_T.stp hN (pc' := 2) rfl ?_
  refine am_T.stp hN (pc' := 5) rfl ?_
  refine am_T.stp hN (pc' := 6) rfl ?_
  refine am_T.stp hN (pc' := 7) rfl ?_
  refine am_T.stp hN (pc' := 9) rfl ?_
  refine am_T.stp hN (pc' := 10) rfl ?_
  refine am_T.ret rfl ?_
  refine am_T.bck (pc' := 16) (st' := [.int 260217024]) rfl rfl ?_
  refine am_T.stp hN (pc' := 17) (lv' := [(2, .int 260217024), (3, .int 8), (0, .int 949981760), (1, .int 0)]) rfl ?_
  refine am_T.stp hN (pc' := 20) (lv' := [(3, .int 0), (2, .int 260217024), (0, .int 949981760), (1, .int 0)]) rfl ?_
  refine am_T.stp hN (pc' := 5) rfl ?_
  refine am_T.stp hN (pc' := 6) rfl ?_
  refine am_T.stp hN rfl ?_
  refine am_T.jf (by first | rfl | decide) ?_
  refine am_T.stp hN (pc' := 10) rfl ?_
  refine am_T.stp hN (pc' := 11) rfl ?_
  refine am_T.stp hN (pc' := 12) rfl ?_
  refine am_T.stp hN (pc' := 13) rfl ?_
  refine am_T.go hN (vs := [.int 260217024, .int 0]) (r := []) rfl ?_
  refine am_T.lvq (lv' := [(0, .int 260217024), (1, .int 0)]) rfl ?_
  refine am_T.stp hN (pc' := 1) rfl ?_
  refine am_T.stp hN (pc' := 2) rfl ?_
  refine am_T.stp hN (pc' := 5) rfl ?_
  refine am_T.stp hN (pc' := 6) rfl ?_
  refine am_T.stp hN (pc' := 7) rfl ?_
  refine am_T.stp hN (pc' := 9) rfl ?_
  refine am_T.stp hN (pc' := 10) rfl ?_
  refine am_T.ret rfl ?_
  refine am_T.bck (pc' := 16) (st' := [.int 714503744]) rfl rfl ?_
  refine am_T.stp hN (pc' := 17) (lv' := [(2, .int 714503744), (3, .int 0), (0, .int 949981760), (1, .int 0)]) rfl ?_
  refine am_T.stp hN (pc' := 20) (lv' := [(3, .int (-8)), (2, .int 714503744), (0, .int 949981760), (1, .int 0)]) rfl ?_
  refine am_T.stp hN (pc' := 5) rfl ?_
  refine am_T.stp hN (pc' := 6) rfl ?_
  refine am_T.stp hN rfl ?_
  refine am_T.jt (by first | rfl | decide) ?_
  refine am_T.stp hN (pc' := 24) rfl ?_
  refine am_T.ret rfl ?_
  refine am_T.bck (pc' := 149) (st' := [.int 714503744, .ref 2068]) rfl rfl ?_
  refine am_T.stp hN (pc' := 150) rfl ?_
  refine am_T.stp hN (pc' := 151) rfl ?_
  refine am_T.go hN (vs := [.ref 2068, .long 714503744, .int 4]) (r := []) rfl ?_
  refine am_T.lvq (lv' := [(0, .ref 2068), (1, .long 714503744), (3, .int 4)]) rfl ?_
  refine am_T.stp hN (pc' := 2) rfl ?_
  refine am_T.stp hN (pc' := 3) rfl ?_
  refine am_T.stp hN (pc' := 4) rfl ?_
  refine am_T.stp hN (pc' := 6) rfl ?_
  refine am_T.stp hN (pc' := 7) rfl ?_
  refine am_T.stp hN (pc' := 9) (lv' := [(4, .int 24), (0, .ref 2068), (1, .long 714503744), (3, .int 4)]) rfl ?_
  refine am_T.stp hN (pc' := 11) rfl ?_
  refine am_T.stp hN rfl ?_
  refine am_T.jf (by first | rfl | decide) ?_
  refine am_T.stp hN (pc' := 15) rfl ?_
  refine am_T.stp hN (pc' := 16) rfl ?_
  refine am_T.stp hN (pc' := 18) rfl ?_
  refine am_T.stp hN (pc' := 19) rfl ?_
  refine am_T.stp hN (pc' := 20) rfl ?_
  refine am_T.go hN (vs := [.ref 2068, .int 42]) (r := []) rfl ?_
  refine am_T.lvq (lv' := [(0, .ref 2068), (1, .int 42)]) rfl ?_
  refine am_T.stp hN (pc' := 1) rfl ?_
  refine am_T.stp hN (pc' := 2) rfl ?_
  refine am_T.stp hN (pc' := 5) rfl ?_
  refine am_T.stp hN (pc' := 6) rfl ?_
  refine am_T.go hN (vs := [.int 949981760, .int 42]) (r := [.ref 2068]) rfl ?_
  refine am_T.lvq (lv' := [(0, .int 949981760), (1, .int 42)]) rfl ?_
  refine am_T.stp hN (pc' := 1) rfl ?_
  refine am_T.stp hN (pc' := 2) rfl ?_
  refine am_T.stp hN (pc' := 5) rfl ?_
  refine am_T.stp hN (pc' := 6) rfl ?_
  refine am_T.stp hN (pc' := 7) rfl ?_
  refine am_T.stp hN (pc' := 9) rfl ?_
  refine am_T.stp hN (pc' := 10) rfl ?_
  refine am_T.ret rfl ?_
  refine am_T.bck (pc' := 9) (st' := [.int (-1926005538), .ref 2068]) rfl rfl ?_
  refine am_T.stp hN (pc' := 12) (ov' := (2068, .inr (1, [.ref 2069, .int 0, .int 0, .int (-1), .int 0, .int 3, .int (-1926005538)])) :: _) rfl ?_
  refine am_T.stp hN (pc' := 13) rfl ?_
  refine am_T.stp hN (pc' := 16) rfl ?_
  refine am_T.stp hN rfl ?_
  refine am_T.jt (by first | rfl | decide) ?_
  refine am_T.stp hN (pc' := 25) rfl ?_
  refine am_T.stp hN (pc' := 28) rfl ?_
  refine am_T.stp hN rfl ?_
  refine am_T.jf (by first | rfl | decide) ?_
  refine am_T.stp hN (pc' := 32) rfl ?_
  refine am_T.stp hN (pc' := 35) rfl ?_
  refine am_T.stp hN (pc' := 38) rfl ?_
  refine am_T.stp hN rfl ?_
  refine am_T.jt (by first | rfl | decide) ?_
  refine am_T.stp hN (pc' := 43) rfl ?_
  refine am_T.stp hN (pc' := 46) rfl ?_
  refine am_T.stp hN (pc' := 47) rfl ?_
  refine am_T.stp hN (pc' := 50) rfl ?_
  refine am_T.stp hN (pc' := 51) rfl ?_
  refine am_T.stp hN (pc' := 52) rfl ?_
  refine am_T.stp hN (pc' := 53) rfl ?_
  refine am_T.stp hN (pc' := 54) rfl ?_
  refine am_T.stp hN (pc' := 55) rfl ?_
  refine am_T.stp hN (pc' := 58) rfl ?_
  refine am_T.stp hN (pc' := 59) rfl ?_
  refine am_T.stp hN (pc' := 60) rfl ?_
  refine am_T.stp hN (pc' := 63) (ov' := (2068, .inr (1, [.ref 2069, .int 0, .int 0, .int (-1), .int 0, .int 4, .int (-1926005538)])) :: _) rfl ?_
  refine am_T.stp hN (pc' := 64) rfl ?_
  refine am_T.stp hN (pc' := 67) rfl ?_
  refine am_T.stp hN rfl ?_
  refine am_T.jt (by first | rfl | decide) ?_
  refine am_T.ret rfl ?_
  refine am_T.bck (pc' := 23) (st' := []) rfl rfl ?_
  refine am_T.stp hN (pc' := 26) (lv' := [(4, .int 16), (0, .ref 2068), (1, .long 714503744), (3, .int 4)]) rfl ?_
  refine am_T.stp hN (pc' := 9) rfl ?_
  refine am_T.stp hN (pc' := 11) rfl ?_
  refine am_T.stp hN rfl ?_
  refine am_T.jf (by first | rfl | decide) ?_
  refine am_T.stp hN (pc' := 15) rfl ?_
  refine am_T.stp hN (pc' := 16) rfl ?_
  refine am_T.stp hN (pc' := 18) rfl ?_
  refine am_T.stp hN (pc' := 19) rfl ?_
  refine am_T.stp hN (pc' := 20) rfl ?_
  refine am_T.go hN (vs := [.ref 2068, .int 10902]) (r := []) rfl ?_
  refine am_T.lvq (lv' := [(0, .ref 2068), (1, .int 10902)]) rfl ?_
  refine am_T.stp hN (pc' := 1) rfl ?_
  refine am_T.stp hN (pc' := 2) rfl ?_
  refine am_T.stp hN (pc' := 5) rfl ?_
  refine am_T.stp hN (pc' := 6) rfl ?_
  refine am_T.go hN (vs := [.int (-1926005538), .int 10902]) (r := [.ref 2068]) rfl ?_
  refine am_T.lvq (lv' := [(0, .int (-1926005538)), (1, .int 10902)]) rfl ?_
  refine am_T.stp hN (pc' := 1) rfl ?_
  refine am_T.stp hN (pc' := 2) rfl ?_
  refine am_T.stp hN (pc' := 5) rfl ?_
  refine am_T.stp hN (pc' := 6) rfl ?_
  refine am_T.stp hN (pc' := 7) rfl ?_
  refine am_T.stp hN (pc' := 9) rfl ?_
  refine am_T.stp hN (pc' := 10) rfl ?_
  refine am_T.ret rfl ?_
  refine am_T.bck (pc' := 9) (st' := [.int (-1878219432), .ref 2068]) rfl rfl ?_
  refine am_T.stp hN (pc' := 12) (ov' := (2068, .inr (1, [.ref 2069, .int 0, .int 0, .int (-1), .int 0, .int 4, .int (-1878219432)])) :: _) rfl ?_
  refine am_T.stp hN (pc' := 13) rfl ?_
  refine am_T.stp hN (pc' := 16) rfl ?_
  refine am_T.stp hN rfl ?_
  refine am_T.jt (by first | rfl | decide) ?_
  refine am_T.stp hN (pc' := 25) rfl ?_
  refine am_T.stp hN (pc' := 28) rfl ?_
  refine am_T.stp hN rfl ?_
  refine am_T.jf (by first | rfl | decide) ?_
  refine am_T.stp hN (pc' := 32) rfl ?_
  refine am_T.stp hN (pc' := 35) rfl ?_
  refine am_T.stp hN (pc' := 38) rfl ?_
  refine am_T.stp hN rfl ?_
  refine am_T.jt (by first | rfl | decide) ?_
  refine am_T.stp hN (pc' := 43) rfl ?_
  refine am_T.stp hN (pc' := 46) rfl ?_
  refine am_T.stp hN (pc' := 47) rfl ?_
  refine am_T.stp hN (pc' := 50) rfl ?_
  refine am_T.stp hN (pc' := 51) rfl ?_
  refine am_T.stp hN (pc' := 52) rfl ?_
  refine am_T.stp hN (pc' := 53) rfl ?_
  refine am_T.stp hN (pc' := 54) rfl ?_
  refine am_T.stp hN (pc' := 55) rfl ?_
  refine am_T.stp hN (pc' := 58) rfl ?_
  refine am_T.stp hN (pc' := 59) rfl ?_
  refine am_T.stp hN (pc' := 60) rfl ?_
  refine am_T.stp hN (pc' := 63) (ov' := (2068, .inr (1, [.ref 2069, .int 0, .int 0, .int (-1), .int 0, .int 5, .int (-1878219432)])) :: _) rfl ?_
  refine am_T.stp hN (pc' := 64) rfl ?_
  refine am_T.stp hN (pc' := 67) rfl ?_
  refine am_T.stp hN rfl ?_
  refine am_T.jt (by first | rfl | decide) ?_
  refine am_T.ret rfl ?_
  refine am_T.bck (pc' := 23) (st' := []) rfl rfl ?_
  refine am_T.stp hN (pc' := 26) (lv' := [(4, .int 8), (0, .ref 2068), (1, .long 714503744), (3, .int 4)]) rfl ?_
  refine am_T.stp hN (pc' := 9) rfl ?_
  refine am_T.stp hN (pc' := 11) rfl ?_
  refine am_T.stp hN rfl ?_
  refine am_T.jf (by first | rfl | decide) ?_
  refine am_T.stp hN (pc' := 15) rfl ?_
  refine am_T.stp hN (pc' := 16) rfl ?_
  refine am_T.stp hN (pc' := 18) rfl ?_
  refine am_T.stp hN (pc' := 19) rfl ?_
  refine am_T.stp hN (pc' := 20) rfl ?_
  refine am_T.go hN (vs := [.ref 2068, .int 2791030]) (r := []) rfl ?_
  refine am_T.lvq (lv' := [(0, .ref 2068), (1, .int 2791030)]) rfl ?_
  refine am_T.stp hN (pc' := 1) rfl ?_
  refine am_T.stp hN (pc' := 2) rfl ?_
  refine am_T.stp hN (pc' := 5) rfl ?_
  refine am_T.stp hN (pc' := 6) rfl ?_
  refine am_T.go hN (vs := [.int (-1878219432), .int 2791030]) (r := [.ref 2068]) rfl ?_
  refine am_T.lvq (lv' := [(0, .int (-1878219432)), (1, .int 2791030)]) rfl ?_
  refine am_T.stp hN (pc' := 1) rfl ?_
  refine am_T.stp hN (pc' := 2) rfl ?_
  refine am_T.stp hN (pc' := 5) rfl ?_
  refine am_T.stp hN (pc' := 6) rfl ?_
  refine am_T.stp hN (pc' := 7) rfl ?_
  refine am_T.stp hN (pc' := 9) rfl ?_
  refine am_T.stp hN (pc' := 10) rfl ?_
  refine am_T.ret rfl ?_
  refine am_T.bck (pc' := 9) (st' := [.int (-236451990), .ref 2068]) rfl rfl ?_
  refine am_T.stp hN (pc' := 12) (ov' := (2068, .inr (1, [.ref 2069, .int 0, .int 0, .int (-1), .int 0, .int 5, .int (-236451990)])) :: _) rfl ?_
  refine am_T.stp hN (pc' := 13) rfl ?_
  refine am_T.stp hN (pc' := 16) rfl ?_
  refine am_T.stp hN rfl ?_
  refine am_T.jt (by first | rfl | decide) ?_
  refine am_T.stp hN (pc' := 25) rfl ?_
  refine am_T.stp hN (pc' := 28) rfl ?_
  refine am_T.stp hN rfl ?_
  refine am_T.jf (by first | rfl | decide) ?_
  refine am_T.stp hN (pc' := 32) rfl ?_
  refine am_T.stp hN (pc' := 35) rfl ?_
  refine am_T.stp hN (pc' := 38) rfl ?_
  refine am_T.stp hN rfl ?_
  refine am_T.jt (by first | rfl | decide) ?_
  refine am_T.stp hN (pc' := 43) rfl ?_
  refine am_T.stp hN (pc' := 46) rfl ?_
  refine am_T.stp hN (pc' := 47) rfl ?_
  refine am_T.stp hN (pc' := 50) rfl ?_
  refine am_T.stp hN (pc' := 51) rfl ?_
  refine am_T.stp hN (pc' := 52) rfl ?_
  refine am_T.stp hN (pc' := 53) rfl ?_
  refine am_T.stp hN (pc' := 54) rfl ?_
  refine am_T.stp hN (pc' := 55) rfl ?_
  refine am_T.stp hN (pc' := 58) rfl ?_
  refine am_T.stp hN (pc' := 59) rfl ?_
  refine am_T.stp hN (pc' := 60) rfl ?_
  refine am_T.stp hN (pc' := 63) (ov' := (2068, .inr (1, [.ref 2069, .int 0, .int 0, .int (-1), .int 0, .int 6, .int (-236451990)])) :: _) rfl ?_
  refine am_T.stp hN (pc' := 64) rfl ?_
  refine am_T.stp hN (pc' := 67) rfl ?_
  refine am_T.stp hN rfl ?_
  refine am_T.jt (by first | rfl | decide) ?_
  refine am_T.ret rfl ?_
  refine am_T.bck (pc' := 23) (st' := []) rfl rfl ?_
  refine am_T.stp hN (pc' := 26) (lv' := [(4, .int 0), (0, .ref 2068), (1, .long 714503744), (3, .int 4)]) rfl ?_
  refine am_T.stp hN (pc' := 9) rfl ?_
  refine am_T.stp hN (pc' := 11) rfl ?_
  refine am_T.stp hN rfl ?_
  refine am_T.jf (by first | rfl | decide) ?_
  refine am_T.stp hN (pc' := 15) rfl ?_
  refine am_T.stp hN (pc' := 16) rfl ?_
  refine am_T.stp hN (pc' := 18) rfl ?_
  refine am_T.stp hN (pc' := 19) rfl ?_
  refine am_T.stp hN (pc' := 20) rfl ?_
  refine am_T.go hN (vs := [.ref 2068, .int 714503744]) (r := []) rfl ?_
  refine am_T.lvq (lv' := [(0, .ref 2068), (1, .int 714503744)]) rfl ?_
  refine am_T.stp hN (pc' := 1) rfl ?_
  refine am_T.stp hN (pc' := 2) rfl ?_
  refine am_T.stp hN (pc' := 5) rfl ?_
  refine am_T.stp hN (pc' := 6) rfl ?_
  refine am_T.go hN (vs := [.int (-236451990), .int 714503744]) (r := [.ref 2068]) rfl ?_
  refine am_T.lvq (lv' := [(0, .int (-236451990)), (1, .int 714503744)]) rfl ?_
  refine am_T.stp hN (pc' := 1) rfl ?_
  refine am_T.stp hN (pc' := 2) rfl ?_
  refine am_T.stp hN (pc' := 5) rfl ?_
  refine am_T.stp hN (pc' := 6) rfl ?_
  refine am_T.stp hN (pc' := 7) rfl ?_
  refine am_T.stp hN (pc' := 9) rfl ?_
  refine am_T.stp hN (pc' := 10) rfl ?_
  refine am_T.ret rfl ?_
  refine am_T.bck (pc' := 9) (st' := [.int (-96254178), .ref 2068]) rfl rfl ?_
  refine am_T.stp hN (pc' := 12) (ov' := (2068, .inr (1, [.ref 2069, .int 0, .int 0, .int (-1), .int 0, .int 6, .int (-96254178)])) :: _) rfl ?_
  refine am_T.stp hN (pc' := 13) rfl ?_
  refine am_T.stp hN (pc' := 16) rfl ?_
  refine am_T.stp hN rfl ?_
  refine am_T.jt (by first | rfl | decide) ?_
  refine am_T.stp hN (pc' := 25) rfl ?_
  refine am_T.stp hN (pc' := 28) rfl ?_
  refine am_T.stp hN rfl ?_
  refine am_T.jf (by first | rfl | decide) ?_
  refine am_T.stp hN (pc' := 32) rfl ?_
  refine am_T.stp hN (pc' := 35) rfl ?_
  refine am_T.stp hN (pc' := 38) rfl ?_
  refine am_T.stp hN rfl ?_
  refine am_T.jt (by first | rfl | decide) ?_
  refine am_T.stp hN (pc' := 43) rfl ?_
  refine am_T.stp hN (pc' := 46) rfl ?_
  refine am_T.stp hN (pc' := 47) rfl ?_
  refine am_T.stp hN (pc' := 50) rfl ?_
  refine am_T.stp hN (pc' := 51) rfl ?_
  refine am_T.stp hN (pc' := 52) rfl ?_
  refine am_T.stp hN (pc' := 53) rfl ?_
  refine am_T.stp hN (pc' := 54) rfl ?_
  refine am_T.stp hN (pc' := 55) rfl ?_
  refine am_T.stp hN (pc' := 58) rfl ?_
  refine am_T.stp hN (pc' := 59) rfl ?_
  refine am_T.stp hN (pc' := 60) rfl ?_
  refine am_T.stp hN (pc' := 63) (ov' := (2068, .inr (1, [.ref 2069, .int 0, .int 0, .int (-1), .int 0, .int 7, .int (-96254178)])) :: _) rfl ?_
  refine am_T.stp hN (pc' := 64) rfl ?_
  refine am_T.stp hN (pc' := 67) rfl ?_
  refine am_T.stp hN rfl ?_
  refine am_T.jt (by first | rfl | decide) ?_
  refine am_T.ret rfl ?_
  refine am_T.bck (pc' := 23) (st' := []) rfl rfl ?_
  refine am_T.stp hN (pc' := 26) (lv' := [(4, .int (-8)), (0, .ref 2068), (1, .long 714503744), (3, .int 4)]) rfl ?_
  refine am_T.stp hN (pc' := 9) rfl ?_
  refine am_T.stp hN (pc' := 11) rfl ?_
  refine am_T.stp hN rfl ?_
  refine am_T.jt (by first | rfl | decide) ?_
  refine am_T.ret rfl ?_
  refine am_T.bck (pc' := 154) (st' := []) rfl rfl ?_
  refine am_T.stp hN (pc' := 155) rfl ?_
  refine am_T.stp hN (pc' := 158) rfl ?_
  refine am_T.stp hN rfl ?_
  refine am_T.jt (by first | rfl | decide) ?_
  refine am_T.stp hN (pc' := 176) rfl ?_
  refine am_T.stp hN (pc' := 178) rfl ?_
  refine am_T.go hN (vs := [.ref 2068, .int 7]) (r := []) rfl ?_
  refine am_T.lvq (lv' := [(0, .ref 2068), (1, .int 7)]) rfl ?_
  refine am_T.stp hN (pc' := 1) rfl ?_
  refine am_T.stp hN (pc' := 2) rfl ?_
  refine am_T.stp hN (pc' := 5) rfl ?_
  refine am_T.stp hN (pc' := 6) rfl ?_
  refine am_T.stp hN (pc' := 7) rfl ?_
  refine am_T.stp hN (pc' := 10) (ov' := (2068, .inr (1, [.ref 2069, .int 7, .int 0, .int (-1), .int 0, .int 7, .int (-96254178)])) :: _) rfl ?_
  refine am_T.stp hN (pc' := 11) rfl ?_
  refine am_T.stp hN (pc' := 12) rfl ?_
  refine am_T.stp hN (pc' := 15) rfl ?_
  refine am_T.stp hN (pc' := 16) rfl ?_
  refine am_T.stp hN (pc' := 17) rfl ?_
  refine am_T.stp hN (pc' := 20) (ov' := (2068, .inr (1, [.ref 2069, .int 7, .int 1, .int (-1), .int 0, .int 7, .int (-96254178)])) :: _) rfl ?_
  refine am_T.ret rfl ?_
  refine am_T.bck (pc' := 181) (st' := []) rfl rfl ?_
  refine am_T.stp hN (pc' := 182) rfl ?_
  refine am_T.ret rfl ?_
  refine am_T.bck (pc' := 44) (st' := [.int 1]) rfl rfl ?_
  refine am_T.stp hN rfl ?_
  refine am_T.jf (by first | rfl | decide) ?_
  refine am_T.stp hN (pc' := 48) rfl ?_
  refine am_T.stp hN (pc' := 53) rfl ?_
  refine am_T.ret rfl ?_
  refine am_T.bck (pc' := 10) (st' := [.int 0]) rfl rfl ?_
  refine am_T.stp hN (pc' := 11) (lv' := [(1, .int 0), (0, .ref 0)]) rfl ?_
  refine am_T.stp hN (pc' := 12) rfl ?_
  refine am_T.stp hN rfl ?_
  refine am_T.jt (by first | rfl | decide) ?_
  refine am_T.stp hN (pc' := 18) rfl ?_
  refine am_T.stp hN (pc' := 21) rfl ?_
  refine am_T.stp hN (pc' := 24) rfl ?_
  refine am_T.stp hN (pc' := 25) (lv' := [(2, .int 0), (1, .int 0), (0, .ref 0)]) rfl ?_
  refine am_T.stp hN (pc' := 26) rfl ?_
  refine am_T.stp hN (pc' := 29) rfl ?_
  refine am_T.stp hN (pc' := 30) rfl ?_
  refine am_T.stp hN (pc' := 33) (ov' := (30, .inr (0, [.ref 33, .ref 34, .ref 35, .ref 31, .int 0])) :: _) rfl ?_
  refine am_T.stp hN (pc' := 34) rfl ?_
  refine am_T.ret rfl ?_
  refine am_T.bck (pc' := 9) (st' := [.int 0, .ref 0]) rfl rfl ?_
  refine am_T.go hN (vs := [.ref 0, .int 0]) (r := []) rfl ?_
  refine am_T.lvq (lv' := [(0, .ref 0), (1, .int 0)]) rfl ?_
  refine am_T.stp hN (pc' := 1) rfl ?_
  refine am_T.stp hN (pc' := 3) rfl ?_
  refine am_T.stp hN rfl ?_
  refine am_T.jf (by first | rfl | decide) ?_
  refine am_T.stp hN (pc' := 7) rfl ?_
  refine am_T.stp hN (pc' := 11) rfl ?_
  refine am_T.go hN (vs := [.int 1]) (r := []) rfl ?_
  refine am_T.lvq (lv' := [(0, .int 1)]) rfl ?_
  refine am_T.stp hN (pc' := 1) rfl ?_
  refine am_T.stp hN rfl ?_
  refine am_T.jt (by first | rfl | decide) ?_
  refine am_T.ret rfl ?_
  refine am_T.bck (pc' := 14) (st' := []) rfl rfl ?_
  refine am_T.stp hN (pc' := 15) rfl ?_
  refine am_T.stp hN (pc' := 17) rfl ?_
  refine am_T.stp hN rfl ?_
  refine am_T.jf (by first | rfl | decide) ?_
  refine am_T.stp hN (pc' := 21) rfl ?_
  refine am_T.stp hN (pc' := 25) rfl ?_
  refine am_T.go hN (vs := [.int 1]) (r := []) rfl ?_
  refine am_T.lvq (lv' := [(0, .int 1)]) rfl ?_
  refine am_T.stp hN (pc' := 1) rfl ?_
  refine am_T.stp hN rfl ?_
  refine am_T.jt (by first | rfl | decide) ?_
  refine am_T.ret rfl ?_
  refine am_T.bck (pc' := 28) (st' := []) rfl rfl ?_
  refine am_T.stp hN (pc' := 29) rfl ?_
  refine am_T.stp hN (pc' := 31) rfl ?_
  refine am_T.stp hN rfl ?_
  refine am_T.jt (by first | rfl | decide) ?_
  refine am_T.stp hN (pc' := 39) rfl ?_
  refine am_T.stp hN (pc' := 40) rfl ?_
  refine am_T.go hN (vs := [.int 0, .int 1]) (r := []) rfl ?_
  refine am_T.lvq (lv' := [(0, .int 0), (1, .int 1)]) rfl ?_
  refine am_T.stp hN (pc' := 1) rfl ?_
  refine am_T.stp hN rfl ?_
  refine am_T.jf (by first | rfl | decide) ?_
  refine am_T.stp hN (pc' := 5) rfl ?_
  refine am_T.stp hN (pc' := 6) rfl ?_
  refine am_T.stp hN rfl ?_
  refine am_T.jt (by first | rfl | decide) ?_
  refine am_T.ret rfl ?_
  refine am_T.bck (pc' := 43) (st' := []) rfl rfl ?_
  refine am_T.stp hN (pc' := 44) rfl ?_
  refine am_T.ret rfl ?_
  refine am_T.bck (pc' := 12) (st' := [.int 0]) rfl rfl ?_
  refine am_T.ret rfl ?_
  refine am_T.bck (pc' := 6) (st' := [.int 0, .int 0, .ref 7081]) rfl rfl ?_
  refine am_T.stp hN (pc' := 7) rfl ?_
  refine am_T.stp hN (pc' := 8) rfl ?_
  refine am_T.stp hN (pc' := 14) rfl ?_
  refine am_T.stp hN (pc' := 15) rfl ?_
  refine am_T.ret rfl ?_
  refine am_T.bck (pc' := 868) (st' := [.int 0]) rfl rfl ?_
  refine am_T.stp hN (pc' := 870) (lv' := [(5, .int 0), (4, .int 0), (3, .ref 7081), (2, .ref 6952), (1, .ref 0), (0, .float 200)]) rfl ?_
  refine am_T.stp hN (pc' := 871) rfl ?_
  refine am_T.go hN (vs := [.ref 6952]) (r := []) rfl ?_
  refine am_T.lvq (lv' := [(0, .ref 6952)]) rfl ?_
  refine am_T.stp hN (pc' := 1) rfl ?_
  refine am_T.stp hN (pc' := 2) rfl ?_
  refine am_T.stp hN (pc' := 3) rfl ?_
  refine am_T.stp hN (pc' := 4) rfl ?_
  refine am_T.stp hN (pc' := 5) rfl ?_
  refine am_T.go hN (vs := [.ref 6952, .int 1, .int 1, .int 1, .int 1]) (r := []) rfl ?_
  refine am_T.lvq (lv' := [(0, .ref 6952), (1, .int 1), (2, .int 1), (3, .int 1), (4, .int 1)]) rfl ?_
  refine am_T.stp hN (pc' := 1) rfl ?_
  refine am_T.stp hN (pc' := 2) rfl ?_
  refine am_T.stp hN (pc' := 5) rfl ?_
  refine am_T.stp hN rfl ?_
  refine am_T.jt (by first | rfl | decide) ?_
  refine am_T.stp hN (pc' := 13) rfl ?_
  refine am_T.stp hN rfl ?_
  refine am_T.jt (by first | rfl | decide) ?_
  refine am_T.stp hN (pc' := 21) rfl ?_
  refine am_T.stp hN rfl ?_
  refine am_T.jt (by first | rfl | decide) ?_
  refine am_T.stp hN (pc' := 30) rfl ?_
  refine am_T.stp hN rfl ?_
  refine am_T.jt (by first | rfl | decide) ?_
  refine am_T.stp hN (pc' := 38) rfl ?_
  refine am_T.stp hN (pc' := 41) (ov' := (6952, .inr (12, [.int 0, .ref 6953, .int 0, .ref 6954, .int 0, .ref 6955, .int 0, .int 0, .int 0, .ref 6956, .ref 6957, .ref 6958, .ref 6959, .int 0, .int 0, .int 0, .int 0, .int 0, .long 0, .int (-1), .int (-1), .ref 6960, .ref 6961, .ref 6962, .ref 6963, .ref 6964, .ref 6965, .ref 6966, .ref 6967, .ref 6968, .ref 6969, .ref 6970, .ref 6971, .ref 6972, .ref 6973, .ref 6974, .int 0, .int 0, .int 0, .int 0, .int 0, .ref 6975, .ref 6976, .ref 6977, .ref 6978, .int 0, .int 0, .ref 6979, .ref 6980, .ref 6981, .ref 6982, .ref 6983, .ref 6984, .ref 6985, .ref 6986, .ref 6987, .ref 6988, .int 0, .ref 6989, .ref 6990, .int 0, .ref 6991, .int 0, .ref 6992, .ref 6993, .int 0, .ref 6994, .ref 6995, .ref 6996, .ref 6997, .ref 6998, .ref 6999, .ref 7000, .ref 7001, .ref 7002, .ref 7003, .ref 7004, .ref 7005, .ref 7006, .ref 7007, .ref 7008, .ref 7009, .ref 7010, .int 0, .long 0, .int 0, .ref 7011, .ref 7012, .ref 7013, .int 0, .ref 7014, .ref 7015, .ref 7016, .int 0, .ref 7017, .ref 7018, .int 0, .ref 7019, .ref 7020, .long 0, .long 0, .int 0, .int 0, .int 0, .int 0, .ref 7021, .ref 7022, .ref 7023, .ref 7024, .ref 7025, .int 0, .ref 7026, .ref 7027, .ref 7028, .ref 7029, .ref 7030, .int 0, .ref 7031, .ref 7032, .ref 7033, .ref 7034, .ref 7035, .int 0, .ref 7036, .int 0, .ref 7037, .ref 7038, .ref 7039, .ref 7040, .ref 7041, .int 0, .ref 7042, .ref 7043, .ref 7044, .int 0, .ref 7045, .ref 7046, .int 0, .ref 7047, .ref 7048, .ref 7049, .ref 7050, .ref 7051, .int 0, .ref 7052, .ref 7053, .ref 7054, .ref 7055, .ref 7056, .int 0, .int 0, .ref 7057, .ref 7058, .ref 7059, .ref 7060, .ref 7061, .ref 7062, .ref 7063, .ref 7064, .ref 7065, .ref 7066, .ref 7067, .ref 7068, .ref 7069, .ref 7070, .ref 7071, .ref 7072, .ref 7073, .ref 7074, .ref 7075, .ref 7076, .ref 7077, .ref 7078, .ref 7079, .long 0, .int 0, .ref 7080, .int 0, .int 0, .int (-1), .int 0, .int 0])) :: _) rfl ?_
  refine am_T.stp hN (pc' := 42) rfl ?_
  refine am_T.stp hN (pc' := 45) rfl ?_
  refine am_T.stp hN rfl ?_
  refine am_T.jf (by first | rfl | decide) ?_
  refine am_T.stp hN (pc' := 49) rfl ?_
  refine am_T.stp hN (pc' := 53) rfl ?_
  refine am_T.ret rfl ?_
  refine am_T.bck (pc' := 8) (st' := [.int 1]) rfl rfl ?_
  refine am_T.stp hN rfl ?_
  refine am_T.jt (by first | rfl | decide) ?_
  refine am_T.stp hN (pc' := 14) rfl ?_
  refine am_T.stp hN (pc' := 16) rfl ?_
  refine am_T.stp hN (pc' := 17) rfl ?_
  refine am_T.stp hN (pc' := 18) rfl ?_
  refine am_T.stp hN (pc' := 19) rfl ?_
  refine am_T.stp hN (pc' := 20) rfl ?_
  refine am_T.stp hN (pc' := 21) rfl ?_
  refine am_T.go hN (vs := [.ref 6952, .int 8, .int 0, .long 0, .long 0, .long 0, .int 0]) (r := []) rfl ?_
  refine am_T.lvq (lv' := [(0, .ref 6952), (1, .int 8), (2, .int 0), (3, .long 0), (5, .long 0), (7, .long 0), (9, .int 0)]) rfl ?_
  refine am_T.stp hN (pc' := 1) rfl ?_
  refine am_T.stp hN (pc' := 3) rfl ?_
  refine am_T.stp hN (pc' := 4) rfl ?_
  refine am_T.stp hN (pc' := 5) rfl ?_
  refine am_T.stp hN (pc' := 6) rfl ?_
  refine am_T.stp hN (pc' := 8) (lv' := [(10, .int 3), (0, .ref 6952), (1, .int 8), (2, .int 0), (3, .long 0), (5, .long 0), (7, .long 0), (9, .int 0)]) rfl ?_
  refine am_T.stp hN (pc' := 10) rfl ?_
  refine am_T.stp hN (pc' := 12) rfl ?_
  refine am_T.stp hN rfl ?_
  refine am_T.jt (by first | rfl | decide) ?_
  refine am_T.stp hN (pc' := 23) rfl ?_
  refine am_T.stp hN (pc' := 24) rfl ?_
  refine am_T.stp hN (pc' := 25) rfl ?_
  refine am_T.stp hN (pc' := 26) rfl ?_
  refine am_T.stp hN (pc' := 28) (lv' := [(11, .int 7), (10, .int 3), (0, .ref 6952), (1, .int 8), (2, .int 0), (3, .long 0), (5, .long 0), (7, .long 0), (9, .int 0)]) rfl ?_
  refine am_T.stp hN (pc' := 29) rfl ?_
  refine am_T.stp hN (pc' := 32) rfl ?_
  refine am_T.stp hN (pc' := 34) rfl ?_
  refine am_T.stp hN (pc' := 35) rfl ?_
  refine am_T.stp hN (pc' := 38) rfl ?_
  refine am_T.stp hN rfl ?_
  refine am_T.jt (by first | rfl | decide) ?_
  refine am_T.stp hN (pc' := 45) rfl ?_
  refine am_T.stp hN (pc' := 48) rfl ?_
  refine am_T.stp hN (pc' := 50) rfl ?_
  refine am_T.stp hN (pc' := 51) rfl ?_
  refine am_T.stp hN (pc' := 52) rfl ?_
  refine am_T.stp hN (pc' := 53) rfl ?_
  refine am_T.stp hN (pc' := 56) rfl ?_
  refine am_T.stp hN rfl ?_
  refine am_T.jf (by first | rfl | decide) ?_
  refine am_T.stp hN (pc' := 60) rfl ?_
  refine am_T.stp hN (pc' := 63) rfl ?_
  refine am_T.stp hN (pc' := 64) rfl ?_
  refine am_T.stp hN (pc' := 67) rfl ?_
  refine am_T.stp hN (pc' := 69) rfl ?_
  refine am_T.stp hN (pc' := 70) rfl ?_
  refine am_T.stp hN (pc' := 71) rfl ?_
  refine am_T.stp hN (pc' := 72) rfl ?_
  refine am_T.stp hN (pc' := 73) rfl ?_
  refine am_T.stp hN (pc' := 74) rfl ?_
  refine am_T.stp hN (pc' := 75) rfl ?_
  refine am_T.stp hN (pc' := 78) rfl ?_
  refine am_T.stp hN (pc' := 81) (ov' := (6952, .inr (12, [.int 0, .ref 6953, .int 0, .ref 6954, .int 0, .ref 6955, .int 0, .int 0, .int 0, .ref 6956, .ref 6957, .ref 6958, .ref 6959, .int 0, .int 0, .int 0, .int 0, .int 0, .long 0, .int (-1), .int (-1), .ref 6960, .ref 6961, .ref 6962, .ref 6963, .ref 6964, .ref 6965, .ref 6966, .ref 6967, .ref 6968, .ref 6969, .ref 6970, .ref 6971, .ref 6972, .ref 6973, .ref 6974, .int 0, .int 0, .int 0, .int 0, .int 0, .ref 6975, .ref 6976, .ref 6977, .ref 6978, .int 0, .int 0, .ref 6979, .ref 6980, .ref 6981, .ref 6982, .ref 6983, .ref 6984, .ref 6985, .ref 6986, .ref 6987, .ref 6988, .int 0, .ref 6989, .ref 6990, .int 0, .ref 6991, .int 0, .ref 6992, .ref 6993, .int 0, .ref 6994, .ref 6995, .ref 6996, .ref 6997, .ref 6998, .ref 6999, .ref 7000, .ref 7001, .ref 7002, .ref 7003, .ref 7004, .ref 7005, .ref 7006, .ref 7007, .ref 7008, .ref 7009, .ref 7010, .int 0, .long 0, .int 0, .ref 7011, .ref 7012, .ref 7013, .int 0, .ref 7014, .ref 7015, .ref 7016, .int 0, .ref 7017, .ref 7018, .int 0, .ref 7019, .ref 7020, .long 0, .long 0, .int 0, .int 0, .int 0, .int 0, .ref 7021, .ref 7022, .ref 7023, .ref 7024, .ref 7025, .int 0, .ref 7026, .ref 7027, .ref 7028, .ref 7029, .ref 7030, .int 0, .ref 7031, .ref 7032, .ref 7033, .ref 7034, .ref 7035, .int 0, .ref 7036, .int 0, .ref 7037, .ref 7038, .ref 7039, .ref 7040, .ref 7041, .int 0, .ref 7042, .ref 7043, .ref 7044, .int 0, .ref 7045, .ref 7046, .int 0, .ref 7047, .ref 7048, .ref 7049, .ref 7050, .ref 7051, .int 0, .ref 7052, .ref 7053, .ref 7054, .ref 7055, .ref 7056, .int 0, .int 0, .ref 7057, .ref 7058, .ref 7059, .ref 7060, .ref 7061, .ref 7062, .ref 7063, .ref 7064, .ref 7065, .ref 7066, .ref 7067, .ref 7068, .ref 7069, .ref 7070, .ref 7071, .ref 7072, .ref 7073, .ref 7074, .ref 7075, .ref 7076, .ref 7077, .ref 7078, .ref 7079, .long 0, .int 0, .ref 7080, .int 0, .int 0, .int (-1), .int 0, .int (-2128831035)])) :: _) rfl ?_
  refine am_T.stp hN (pc' := 82) rfl ?_
  refine am_T.stp hN (pc' := 84) (lv' := [(12, .int 0), (11, .int 7), (10, .int 3), (0, .ref 6952), (1, .int 8), (2, .int 0), (3, .long 0), (5, .long 0), (7, .long 0), (9, .int 0)]) rfl ?_
  refine am_T.stp hN (pc' := 86) rfl ?_
  refine am_T.stp hN (pc' := 88) rfl ?_
  refine am_T.stp hN (pc' := 89) rfl ?_
  refine am_T.stp hN (pc' := 90) rfl ?_
  refine am_T.stp hN rfl ?_
  refine am_T.jf (by first | rfl | decide) ?_
  refine am_T.stp hN (pc' := 95) rfl ?_
  refine am_T.stp hN (pc' := 97) rfl ?_
  refine am_T.stp hN rfl ?_
  refine am_T.jf (by first | rfl | decide) ?_
  refine am_T.stp hN (pc' := 101) rfl ?_
  refine am_T.stp hN (pc' := 103) rfl ?_
  refine am_T.stp hN (pc' := 105) rfl ?_
  refine am_T.stp hN (pc' := 106) rfl ?_
  refine am_T.stp hN (pc' := 107) rfl ?_
  refine am_T.stp hN (pc' := 109) rfl ?_
  refine am_T.stp hN (pc' := 111) rfl ?_
  refine am_T.go hN (vs := [.ref 6952, .int 0, .int 7, .int 8, .long 0, .long 0, .long 0]) (r := []) rfl ?_
  refine am_T.lvq (lv' := [(0, .ref 6952), (1, .int 0), (2, .int 7), (3, .int 8), (4, .long 0), (6, .long 0), (8, .long 0)]) rfl ?_
  refine am_T.stp hN (pc' := 1) rfl ?_
  refine am_T.stp hN (pc' := 2) rfl ?_
  refine am_T.stp hN rfl ?_
  refine am_T.jf (by first | rfl | decide) ?_
  refine am_T.stp hN (pc' := 6) rfl ?_
  refine am_T.stp hN rfl ?_
  refine am_T.jf (by first | rfl | decide) ?_
  refine am_T.stp hN (pc' := 10) rfl ?_
  refine am_T.stp hN (pc' := 12) rfl ?_
  refine am_T.stp hN (pc' := 13) rfl ?_
  refine am_T.stp hN (pc' := 30) rfl ?_
  refine am_T.ret rfl ?_
  refine am_T.bck (pc' := 114) (st' := [.int 0]) rfl rfl ?_
  refine am_T.stp hN (pc' := 127) rfl ?_
  refine am_T.stp hN (pc' := 129) (lv' := [(13, .int 0), (12, .int 0), (11, .int 7), (10, .int 3), (0, .ref 6952), (1, .int 8), (2, .int 0), (3, .long 0), (5, .long 0), (7, .long 0), (9, .int 0)]) rfl ?_
  refine am_T.stp hN (pc' := 130) rfl ?_
  refine am_T.stp hN (pc' := 132) rfl ?_
  refine am_T.go hN (vs := [.ref 6952, .int 0]) (r := []) rfl ?_
  refine am_T.lvq (lv' := [(0, .ref 6952), (1, .int 0)]) rfl ?_
  refine am_T.stp hN (pc' := 1) rfl ?_
  refine am_T.stp hN (pc' := 2) rfl ?_
  refine am_T.stp hN (pc' := 5) rfl ?_
  refine am_T.stp hN (pc' := 6) rfl ?_
  refine am_T.stp hN (pc' := 9) rfl ?_
  refine am_T.stp hN (pc' := 10) rfl ?_
  refine am_T.stp hN (pc' := 11) rfl ?_
  refine am_T.stp hN (pc' := 14) rfl ?_
  refine am_T.stp hN (pc' := 15) rfl ?_
  refine am_T.stp hN (pc' := 18) (ov' := (6952, .inr (12, [.int 0, .ref 6953, .int 0, .ref 6954, .int 0, .ref 6955, .int 0, .int 0, .int 0, .ref 6956, .ref 6957, .ref 6958, .ref 6959, .int 0, .int 0, .int 0, .int 0, .int 0, .long 0, .int (-1), .int (-1), .ref 6960, .ref 6961, .ref 6962, .ref 6963, .ref 6964, .ref 6965, .ref 6966, .ref 6967, .ref 6968, .ref 6969, .ref 6970, .ref 6971, .ref 6972, .ref 6973, .ref 6974, .int 0, .int 0, .int 0, .int 0, .int 0, .ref 6975, .ref 6976, .ref 6977, .ref 6978, .int 0, .int 0, .ref 6979, .ref 6980, .ref 6981, .ref 6982, .ref 6983, .ref 6984, .ref 6985, .ref 6986, .ref 6987, .ref 6988, .int 0, .ref 6989, .ref 6990, .int 0, .ref 6991, .int 0, .ref 6992, .ref 6993, .int 0, .ref 6994, .ref 6995, .ref 6996, .ref 6997, .ref 6998, .ref 6999, .ref 7000, .ref 7001, .ref 7002, .ref 7003, .ref 7004, .ref 7005, .ref 7006, .ref 7007, .ref 7008, .ref 7009, .ref 7010, .int 0, .long 0, .int 0, .ref 7011, .ref 7012, .ref 7013, .int 0, .ref 7014, .ref 7015, .ref 7016, .int 0, .ref 7017, .ref 7018, .int 0, .ref 7019, .ref 7020, .long 0, .long 0, .int 0, .int 0, .int 0, .int 0, .ref 7021, .ref 7022, .ref 7023, .ref 7024, .ref 7025, .int 0, .ref 7026, .ref 7027, .ref 7028, .ref 7029, .ref 7030, .int 0, .ref 7031, .ref 7032, .ref 7033, .ref 7034, .ref 7035, .int 0, .ref 7036, .int 0, .ref 7037, .ref 7038, .ref 7039, .ref 7040, .ref 7041, .int 0, .ref 7042, .ref 7043, .ref 7044, .int 0, .ref 7045, .ref 7046, .int 0, .ref 7047, .ref 7048, .ref 7049, .ref 7050, .ref 7051, .int 0, .ref 7052, .ref 7053, .ref 7054, .ref 7055, .ref 7056, .int 0, .int 0, .ref 7057, .ref 7058, .ref 7059, .ref 7060, .ref 7061, .ref 7062, .ref 7063, .ref 7064, .ref 7065, .ref 7066, .ref 7067, .ref 7068, .ref 7069, .ref 7070, .ref 7071, .ref 7072, .ref 7073, .ref 7074, .ref 7075, .ref 7076, .ref 7077, .ref 7078, .ref 7079, .long 0, .int 0, .ref 7080, .int 0, .int 0, .int (-1), .int 0, .int 84696351])) :: _) rfl ?_
  refine am_T.ret rfl ?_
  refine am_T.bck (pc' := 135) (st' := []) rfl rfl ?_
  refine am_T.stp hN (pc' := 136) rfl ?_
  refine am_T.stp hN (pc' := 137) rfl ?_
  refine am_T.stp hN (pc' := 140) rfl ?_
  refine am_T.stp hN (pc' := 142) rfl ?_
  refine am_T.stp hN (pc' := 143) rfl ?_
  refine am_T.stp hN (pc' := 145) rfl ?_
  refine am_T.go hN (vs := [.ref 6952, .int 0, .int 0]) (r := []) rfl ?_
  refine am_T.lvq (lv' := [(0, .ref 6952), (1, .int 0), (2, .int 0)]) rfl ?_
  refine am_T.stp hN (pc' := 1) rfl ?_
  refine am_T.stp hN (pc' := 4) rfl ?_
  refine am_T.stp hN rfl ?_
  refine am_T.jt (by first | rfl | decide) ?_
  refine am_T.stp hN (pc' := 15) rfl ?_
  refine am_T.stp hN (pc' := 16) rfl ?_
  refine am_T.stp hN (pc' := 19) rfl ?_
  refine am_T.stp hN (pc' := 20) rfl ?_
  refine am_T.stp hN (pc' := 23) rfl ?_
  refine am_T.stp hN rfl ?_
  refine am_T.jt (by first | rfl | decide) ?_
  refine am_T.stp hN (pc' := 31) rfl ?_
  refine am_T.stp hN (pc' := 32) rfl ?_
  refine am_T.stp hN (pc' := 35) (ov' := (6952, .inr (12, [.int 0, .ref 6953, .int 0, .ref 6954, .int 0, .ref 6955, .int 0, .int 0, .int 0, .ref 6956, .ref 6957, .ref 6958, .ref 6959, .int 0, .int 0, .int 0, .int 0, .int 0, .long 0, .int (-1), .int (-1), .ref 6960, .ref 6961, .ref 6962, .ref 6963, .ref 6964, .ref 6965, .ref 6966, .ref 6967, .ref 6968, .ref 6969, .ref 6970, .ref 6971, .ref 6972, .ref 6973, .ref 6974, .int 0, .int 0, .int 0, .int 0, .int 0, .ref 6975, .ref 6976, .ref 6977, .ref 6978, .int 0, .int 0, .ref 6979, .ref 6980, .ref 6981, .ref 6982, .ref 6983, .ref 6984, .ref 6985, .ref 6986, .ref 6987, .ref 6988, .int 0, .ref 6989, .ref 6990, .int 0, .ref 6991, .int 0, .ref 6992, .ref 6993, .int 0, .ref 6994, .ref 6995, .ref 6996, .ref 6997, .ref 6998, .ref 6999, .ref 7000, .ref 7001, .ref 7002, .ref 7003, .ref 7004, .ref 7005, .ref 7006, .ref 7007, .ref 7008, .ref 7009, .ref 7010, .int 0, .long 0, .int 0, .ref 7011, .ref 7012, .ref 7013, .int 0, .ref 7014, .ref 7015, .ref 7016, .int 0, .ref 7017, .ref 7018, .int 0, .ref 7019, .ref 7020, .long 0, .long 0, .int 0, .int 0, .int 0, .int 0, .ref 7021, .ref 7022, .ref 7023, .ref 7024, .ref 7025, .int 0, .ref 7026, .ref 7027, .ref 7028, .ref 7029, .ref 7030, .int 0, .ref 7031, .ref 7032, .ref 7033, .ref 7034, .ref 7035, .int 0, .ref 7036, .int 0, .ref 7037, .ref 7038, .ref 7039, .ref 7040, .ref 7041, .int 0, .ref 7042, .ref 7043, .ref 7044, .int 0, .ref 7045, .ref 7046, .int 0, .ref 7047, .ref 7048, .ref 7049, .ref 7050, .ref 7051, .int 0, .ref 7052, .ref 7053, .ref 7054, .ref 7055, .ref 7056, .int 0, .int 0, .ref 7057, .ref 7058, .ref 7059, .ref 7060, .ref 7061, .ref 7062, .ref 7063, .ref 7064, .ref 7065, .ref 7066, .ref 7067, .ref 7068, .ref 7069, .ref 7070, .ref 7071, .ref 7072, .ref 7073, .ref 7074, .ref 7075, .ref 7076, .ref 7077, .ref 7078, .ref 7079, .long 0, .int 0, .ref 7080, .int 0, .int 0, .int (-1), .int 0, .int 84696351])) :: _) rfl ?_
  refine am_T.stp hN (pc' := 36) rfl ?_
  refine am_T.stp hN (pc' := 39) rfl ?_
  refine am_T.stp hN (pc' := 40) rfl ?_
  refine am_T.stp hN (pc' := 41) rfl ?_
  refine am_T.stp hN (pc' := 44) rfl ?_
  refine am_T.stp hN (pc' := 45) rfl ?_
  refine am_T.stp hN (pc' := 46) rfl ?_
  refine am_T.stp hN (pc' := 47) rfl ?_
  refine am_T.ret rfl ?_
  refine am_T.bck (pc' := 148) (st' := [.int 1]) rfl rfl ?_
  refine am_T.stp hN rfl ?_
  refine am_T.jt (by first | rfl | decide) ?_
  refine am_T.stp hN (pc' := 169) (lv' := [(12, .int 1), (13, .int 0), (11, .int 7), (10, .int 3), (0, .ref 6952), (1, .int 8), (2, .int 0), (3, .long 0), (5, .long 0), (7, .long 0), (9, .int 0)]) rfl ?_
  refine am_T.stp hN (pc' := 84) rfl ?_
  refine am_T.stp hN (pc' := 86) rfl ?_
  refine am_T.stp hN (pc' := 88) rfl ?_
  refine am_T.stp hN (pc' := 89) rfl ?_
  refine am_T.stp hN (pc' := 90) rfl ?_
  refine am_T.stp hN rfl ?_
  refine am_T.jf (by first | rfl | decide) ?_
  refine am_T.stp hN (pc' := 95) rfl ?_
  refine am_T.stp hN (pc' := 97) rfl ?_
  refine am_T.stp hN rfl ?_
  refine am_T.jf (by first | rfl | decide) ?_
  refine am_T.stp hN (pc' := 101) rfl ?_
  refine am_T.stp hN (pc' := 103) rfl ?_
  refine am_T.stp hN (pc' := 105) rfl ?_
  refine am_T.stp hN (pc' := 106) rfl ?_
  refine am_T.stp hN (pc' := 107) rfl ?_
  refine am_T.stp hN (pc' := 109) rfl ?_
  refine am_T.stp hN (pc' := 111) rfl ?_
  refine am_T.go hN (vs := [.ref 6952, .int 1, .int 7, .int 8, .long 0, .long 0, .long 0]) (r := []) rfl ?_
  refine am_T.lvq (lv' := [(0, .ref 6952), (1, .int 1), (2, .int 7), (3, .int 8), (4, .long 0), (6, .long 0), (8, .long 0)]) rfl ?_
  refine am_T.stp hN (pc' := 1) rfl ?_
  refine am_T.stp hN (pc' := 2) rfl ?_
  refine am_T.stp hN rfl ?_
  refine am_T.jf (by first | rfl | decide) ?_
  refine am_T.stp hN (pc' := 6) rfl ?_
  refine am_T.stp hN rfl ?_
  refine am_T.jt (by first | rfl | decide) ?_
  refine am_T.stp hN (pc' := 17) rfl ?_
  refine am_T.stp hN (pc' := 18) rfl ?_
  refine am_T.stp hN rfl ?_
  refine am_T.jf (by first | rfl | decide) ?_
  refine am_T.stp hN (pc' := 22) rfl ?_
  refine am_T.stp hN (pc' := 25) rfl ?_
  refine am_T.stp hN (pc' := 26) rfl ?_
  refine am_T.stp hN (pc' := 30) rfl ?_
  refine am_T.ret rfl ?_
  refine am_T.bck (pc' := 114) (st' := [.int 7]) rfl rfl ?_
  refine am_T.stp hN (pc' := 127) rfl ?_
  refine am_T.stp hN (pc' := 129) (lv' := [(13, .int 7), (12, .int 1), (11, .int 7), (10, .int 3), (0, .ref 6952), (1, .int 8), (2, .int 0), (3, .long 0), (5, .long 0), (7, .long 0), (9, .int 0)]) rfl ?_
  refine am_T.stp hN (pc' := 130) rfl ?_
  refine am_T.stp hN (pc' := 132) rfl ?_
  refine am_T.go hN (vs := [.ref 6952, .int 7]) (r := []) rfl ?_
  refine am_T.lvq (lv' := [(0, .ref 6952), (1, .int 7)]) rfl ?_
  refine am_T.stp hN (pc' := 1) rfl ?_
  refine am_T.stp hN (pc' := 2) rfl ?_
  refine am_T.stp hN (pc' := 5) rfl ?_
  refine am_T.stp hN (pc' := 6) rfl ?_
  refine am_T.stp hN (pc' := 9) rfl ?_
  refine am_T.stp hN (pc' := 10) rfl ?_
  refine am_T.stp hN (pc' := 11) rfl ?_
  refine am_T.stp hN (pc' := 14) rfl ?_
  refine am_T.stp hN (pc' := 15) rfl ?_
  refine am_T.stp hN (pc' := 18) (ov' := (6952, .inr (12, [.int 0, .ref 6953, .int 0, .ref 6954, .int 0, .ref 6955, .int 0, .int 0, .int 0, .ref 6956, .ref 6957, .ref 6958, .ref 6959, .int 0, .int 0, .int 0, .int 0, .int 0, .long 0, .int (-1), .int (-1), .ref 6960, .ref 6961, .ref 6962, .ref 6963, .ref 6964, .ref 6965, .ref 6966, .ref 6967, .ref 6968, .ref 6969, .ref 6970, .ref 6971, .ref 6972, .ref 6973, .ref 6974, .int 0, .int 0, .int 0, .int 0, .int 0, .ref 6975, .ref 6976, .ref 6977, .ref 6978, .int 0, .int 0, .ref 6979, .ref 6980, .ref 6981, .ref 6982, .ref 6983, .ref 6984, .ref 6985, .ref 6986, .ref 6987, .ref 6988, .int 0, .ref 6989, .ref 6990, .int 0, .ref 6991, .int 0, .ref 6992, .ref 6993, .int 0, .ref 6994, .ref 6995, .ref 6996, .ref 6997, .ref 6998, .ref 6999, .ref 7000, .ref 7001, .ref 7002, .ref 7003, .ref 7004, .ref 7005, .ref 7006, .ref 7007, .ref 7008, .ref 7009, .ref 7010, .int 0, .long 0, .int 0, .ref 7011, .ref 7012, .ref 7013, .int 0, .ref 7014, .ref 7015, .ref 7016, .int 0, .ref 7017, .ref 7018, .int 0, .ref 7019, .ref 7020, .long 0, .long 0, .int 0, .int 0, .int 0, .int 0, .ref 7021, .ref 7022, .ref 7023, .ref 7024, .ref 7025, .int 0, .ref 7026, .ref 7027, .ref 7028, .ref 7029, .ref 7030, .int 0, .ref 7031, .ref 7032, .ref 7033, .ref 7034, .ref 7035, .int 0, .ref 7036, .int 0, .ref 7037, .ref 7038, .ref 7039, .ref 7040, .ref 7041, .int 0, .ref 7042, .ref 7043, .ref 7044, .int 0, .ref 7045, .ref 7046, .int 0, .ref 7047, .ref 7048, .ref 7049, .ref 7050, .ref 7051, .int 0, .ref 7052, .ref 7053, .ref 7054, .ref 7055, .ref 7056, .int 0, .int 0, .ref 7057, .ref 7058, .ref 7059, .ref 7060, .ref 7061, .ref 7062, .ref 7063, .ref 7064, .ref 7065, .ref 7066, .ref 7067, .ref 7068, .ref 7069, .ref 7070, .ref 7071, .ref 7072, .ref 7073, .ref 7074, .ref 7075, .ref 7076, .ref 7077, .ref 7078, .ref 7079, .long 0, .int 0, .ref 7080, .int 0, .int 0, .int (-1), .int 0, .int 175541448])) :: _) rfl ?_
  refine am_T.ret rfl ?_
  refine am_T.bck (pc' := 135) (st' := []) rfl rfl ?_
  refine am_T.stp hN (pc' := 136) rfl ?_
  refine am_T.stp hN (pc' := 137) rfl ?_
  refine am_T.stp hN (pc' := 140) rfl ?_
  refine am_T.stp hN (pc' := 142) rfl ?_
  refine am_T.stp hN (pc' := 143) rfl ?_
  refine am_T.stp hN (pc' := 145) rfl ?_
  refine am_T.go hN (vs := [.ref 6952, .int 1, .int 7]) (r := []) rfl ?_
  refine am_T.lvq (lv' := [(0, .ref 6952), (1, .int 1), (2, .int 7)]) rfl ?_
  refine am_T.stp hN (pc' := 1) rfl ?_
  refine am_T.stp hN (pc' := 4) rfl ?_
  refine am_T.stp hN rfl ?_
  refine am_T.jt (by first | rfl | decide) ?_
  refine am_T.stp hN (pc' := 15) rfl ?_
  refine am_T.stp hN (pc' := 16) rfl ?_
  refine am_T.stp hN (pc' := 19) rfl ?_
  refine am_T.stp hN (pc' := 20) rfl ?_
  refine am_T.stp hN (pc' := 23) rfl ?_
  refine am_T.stp hN rfl ?_
  refine am_T.jt (by first | rfl | decide) ?_
  refine am_T.stp hN (pc' := 31) rfl ?_
  refine am_T.stp hN (pc' := 32) rfl ?_
  refine am_T.stp hN (pc' := 35) (ov' := (6952, .inr (12, [.int 0, .ref 6953, .int 0, .ref 6954, .int 0, .ref 6955, .int 0, .int 0, .int 0, .ref 6956, .ref 6957, .ref 6958, .ref 6959, .int 0, .int 0, .int 0, .int 0, .int 0, .long 0, .int (-1), .int (-1), .ref 6960, .ref 6961, .ref 6962, .ref 6963, .ref 6964, .ref 6965, .ref 6966, .ref 6967, .ref 6968, .ref 6969, .ref 6970, .ref 6971, .ref 6972, .ref 6973, .ref 6974, .int 0, .int 0, .int 0, .int 0, .int 0, .ref 6975, .ref 6976, .ref 6977, .ref 6978, .int 0, .int 0, .ref 6979, .ref 6980, .ref 6981, .ref 6982, .ref 6983, .ref 6984, .ref 6985, .ref 6986, .ref 6987, .ref 6988, .int 0, .ref 6989, .ref 6990, .int 0, .ref 6991, .int 0, .ref 6992, .ref 6993, .int 0, .ref 6994, .ref 6995, .ref 6996, .ref 6997, .ref 6998, .ref 6999, .ref 7000, .ref 7001, .ref 7002, .ref 7003, .ref 7004, .ref 7005, .ref 7006, .ref 7007, .ref 7008, .ref 7009, .ref 7010, .int 0, .long 0, .int 0, .ref 7011, .ref 7012, .ref 7013, .int 0, .ref 7014, .ref 7015, .ref 7016, .int 0, .ref 7017, .ref 7018, .int 0, .ref 7019, .ref 7020, .long 0, .long 0, .int 0, .int 0, .int 0, .int 0, .ref 7021, .ref 7022, .ref 7023, .ref 7024, .ref 7025, .int 0, .ref 7026, .ref 7027, .ref 7028, .ref 7029, .ref 7030, .int 0, .ref 7031, .ref 7032, .ref 7033, .ref 7034, .ref 7035, .int 0, .ref 7036, .int 0, .ref 7037, .ref 7038, .ref 7039, .ref 7040, .ref 7041, .int 0, .ref 7042, .ref 7043, .ref 7044, .int 0, .ref 7045, .ref 7046, .int 0, .ref 7047, .ref 7048, .ref 7049, .ref 7050, .ref 7051, .int 0, .ref 7052, .ref 7053, .ref 7054, .ref 7055, .ref 7056, .int 0, .int 0, .ref 7057, .ref 7058, .ref 7059, .ref 7060, .ref 7061, .ref 7062, .ref 7063, .ref 7064, .ref 7065, .ref 7066, .ref 7067, .ref 7068, .ref 7069, .ref 7070, .ref 7071, .ref 7072, .ref 7073, .ref 7074, .ref 7075, .ref 7076, .ref 7077, .ref 7078, .ref 7079, .long 0, .int 0, .ref 7080, .int 0, .int 0, .int (-1), .int 0, .int 175541448])) :: _) rfl ?_
  refine am_T.stp hN (pc' := 36) rfl ?_
  refine am_T.stp hN (pc' := 39) rfl ?_
  refine am_T.stp hN (pc' := 40) rfl ?_
  refine am_T.stp hN (pc' := 41) rfl ?_
  refine am_T.stp hN (pc' := 44) rfl ?_
  refine am_T.stp hN (pc' := 45) rfl ?_
  refine am_T.stp hN (pc' := 46) rfl ?_
  refine am_T.stp hN (pc' := 47) rfl ?_
  refine am_T.ret rfl ?_
  refine am_T.bck (pc' := 148) (st' := [.int 1]) rfl rfl ?_
  refine am_T.stp hN rfl ?_
  refine am_T.jt (by first | rfl | decide) ?_
  refine am_T.stp hN (pc' := 169) (lv' := [(12, .int 2), (13, .int 7), (11, .int 7), (10, .int 3), (0, .ref 6952), (1, .int 8), (2, .int 0), (3, .long 0), (5, .long 0), (7, .long 0), (9, .int 0)]) rfl ?_
  refine am_T.stp hN (pc' := 84) rfl ?_
  refine am_T.stp hN (pc' := 86) rfl ?_
  refine am_T.stp hN (pc' := 88) rfl ?_
  refine am_T.stp hN (pc' := 89) rfl ?_
  refine am_T.stp hN (pc' := 90) rfl ?_
  refine am_T.stp hN rfl ?_
  refine am_T.jf (by first | rfl | decide) ?_
  refine am_T.stp hN (pc' := 95) rfl ?_
  refine am_T.stp hN (pc' := 97) rfl ?_
  refine am_T.stp hN rfl ?_
  refine am_T.jf (by first | rfl | decide) ?_
  refine am_T.stp hN (pc' := 101) rfl ?_
  refine am_T.stp hN (pc' := 103) rfl ?_
  refine am_T.stp hN (pc' := 105) rfl ?_
  refine am_T.stp hN (pc' := 106) rfl ?_
  refine am_T.stp hN (pc' := 107) rfl ?_
  refine am_T.stp hN (pc' := 109) rfl ?_
  refine am_T.stp hN (pc' := 111) rfl ?_
  refine am_T.go hN (vs := [.ref 6952, .int 2, .int 7, .int 8, .long 0, .long 0, .long 0]) (r := []) rfl ?_
  refine am_T.lvq (lv' := [(0, .ref 6952), (1, .int 2), (2, .int 7), (3, .int 8), (4, .long 0), (6, .long 0), (8, .long 0)]) rfl ?_
  refine am_T.stp hN (pc' := 1) rfl ?_
  refine am_T.stp hN (pc' := 2) rfl ?_
  refine am_T.stp hN rfl ?_
  refine am_T.jf (by first | rfl | decide) ?_
  refine am_T.stp hN (pc' := 6) rfl ?_
  refine am_T.stp hN rfl ?_
  refine am_T.jt (by first | rfl | decide) ?_
  refine am_T.stp hN (pc' := 17) rfl ?_
  refine am_T.stp hN (pc' := 18) rfl ?_
  refine am_T.stp hN rfl ?_
  refine am_T.jt (by first | rfl | decide) ?_
  refine am_T.stp hN (pc' := 30) rfl ?_
  refine am_T.ret rfl ?_
  refine am_T.bck (pc' := 114) (st' := [.int 8]) rfl rfl ?_
  refine am_T.stp hN (pc' := 127) rfl ?_
  refine am_T.stp hN (pc' := 129) (lv' := [(13, .int 8), (12, .int 2), (11, .int 7), (10, .int 3), (0, .ref 6952), (1, .int 8), (2, .int 0), (3, .long 0), (5, .long 0), (7, .long 0), (9, .int 0)]) rfl ?_
  refine am_T.stp hN (pc' := 130) rfl ?_
  refine am_T.stp hN (pc' := 132) rfl ?_
  refine am_T.go hN (vs := [.ref 6952, .int 8]) (r := []) rfl ?_
  refine am_T.lvq (lv' := [(0, .ref 6952), (1, .int 8)]) rfl ?_
  refine am_T.stp hN (pc' := 1) rfl ?_
  refine am_T.stp hN (pc' := 2) rfl ?_
  refine am_T.stp hN (pc' := 5) rfl ?_
  refine am_T.stp hN (pc' := 6) rfl ?_
  refine am_T.stp hN (pc' := 9) rfl ?_
  refine am_T.stp hN (pc' := 10) rfl ?_
  refine am_T.stp hN (pc' := 11) rfl ?_
  refine am_T.stp hN (pc' := 14) rfl ?_
  refine am_T.stp hN (pc' := 15) rfl ?_
  refine am_T.stp hN (pc' := 18) (ov' := (6952, .inr (12, [.int 0, .ref 6953, .int 0, .ref 6954, .int 0, .ref 6955, .int 0, .int 0, .int 0, .ref 6956, .ref 6957, .ref 6958, .ref 6959, .int 0, .int 0, .int 0, .int 0, .int 0, .long 0, .int (-1), .int (-1), .ref 6960, .ref 6961, .ref 6962, .ref 6963, .ref 6964, .ref 6965, .ref 6966, .ref 6967, .ref 6968, .ref 6969, .ref 6970, .ref 6971, .ref 6972, .ref 6973, .ref 6974, .int 0, .int 0, .int 0, .int 0, .int 0, .ref 6975, .ref 6976, .ref 6977, .ref 6978, .int 0, .int 0, .ref 6979, .ref 6980, .ref 6981, .ref 6982, .ref 6983, .ref 6984, .ref 6985, .ref 6986, .ref 6987, .ref 6988, .int 0, .ref 6989, .ref 6990, .int 0, .ref 6991, .int 0, .ref 6992, .ref 6993, .int 0, .ref 6994, .ref 6995, .ref 6996, .ref 6997, .ref 6998, .ref 6999, .ref 7000, .ref 7001, .ref 7002, .ref 7003, .ref 7004, .ref 7005, .ref 7006, .ref 7007, .ref 7008, .ref 7009, .ref 7010, .int 0, .long 0, .int 0, .ref 7011, .ref 7012, .ref 7013, .int 0, .ref 7014, .ref 7015, .ref 7016, .int 0, .ref 7017, .ref 7018, .int 0, .ref 7019, .ref 7020, .long 0, .long 0, .int 0, .int 0, .int 0, .int 0, .ref 7021, .ref 7022, .ref 7023, .ref 7024, .ref 7025, .int 0, .ref 7026, .ref 7027, .ref 7028, .ref 7029, .ref 7030, .int 0, .ref 7031, .ref 7032, .ref 7033, .ref 7034, .ref 7035, .int 0, .ref 7036, .int 0, .ref 7037, .ref 7038, .ref 7039, .ref 7040, .ref 7041, .int 0, .ref 7042, .ref 7043, .ref 7044, .int 0, .ref 7045, .ref 7046, .int 0, .ref 7047, .ref 7048, .ref 7049, .ref 7050, .ref 7051, .int 0, .ref 7052, .ref 7053, .ref 7054, .ref 7055, .ref 7056, .int 0, .int 0, .ref 7057, .ref 7058, .ref 7059, .ref 7060, .ref 7061, .ref 7062, .ref 7063, .ref 7064, .ref 7065, .ref 7066, .ref 7067, .ref 7068, .ref 7069, .ref 7070, .ref 7071, .ref 7072, .ref 7073, .ref 7074, .ref 7075, .ref 7076, .ref 7077, .ref 7078, .ref 7079, .long 0, .int 0, .ref 7080, .int 0, .int 0, .int (-1), .int 0, .int 949981760])) :: _) rfl ?_
  refine am_T.ret rfl ?_
  refine am_T.bck (pc' := 135) (st' := []) rfl rfl ?_
  refine am_T.stp hN (pc' := 136) rfl ?_
  refine am_T.stp hN (pc' := 137) rfl ?_
  refine am_T.stp hN (pc' := 140) rfl ?_
  refine am_T.stp hN (pc' := 142) rfl ?_
  refine am_T.stp hN (pc' := 143) rfl ?_
  refine am_T.stp hN (pc' := 145) rfl ?_
  refine am_T.go hN (vs := [.ref 6952, .int 2, .int 8]) (r := []) rfl ?_
  refine am_T.lvq (lv' := [(0, .ref 6952), (1, .int 2), (2, .int 8)]) rfl ?_
  refine am_T.stp hN (pc' := 1) rfl ?_
  refine am_T.stp hN (pc' := 4) rfl ?_
  refine am_T.stp hN rfl ?_
  refine am_T.jt (by first | rfl | decide) ?_
  refine am_T.stp hN (pc' := 15) rfl ?_
  refine am_T.stp hN (pc' := 16) rfl ?_
  refine am_T.stp hN (pc' := 19) rfl ?_
  refine am_T.stp hN (pc' := 20) rfl ?_
  refine am_T.stp hN (pc' := 23) rfl ?_
  refine am_T.stp hN rfl ?_
  refine am_T.jt (by first | rfl | decide) ?_
  refine am_T.stp hN (pc' := 31) rfl ?_
  refine am_T.stp hN (pc' := 32) rfl ?_
  refine am_T.stp hN (pc' := 35) (ov' := (6952, .inr (12, [.int 0, .ref 6953, .int 0, .ref 6954, .int 0, .ref 6955, .int 0, .int 0, .int 0, .ref 6956, .ref 6957, .ref 6958, .ref 6959, .int 0, .int 0, .int 0, .int 0, .int 0, .long 0, .int (-1), .int (-1), .ref 6960, .ref 6961, .ref 6962, .ref 6963, .ref 6964, .ref 6965, .ref 6966, .ref 6967, .ref 6968, .ref 6969, .ref 6970, .ref 6971, .ref 6972, .ref 6973, .ref 6974, .int 0, .int 0, .int 0, .int 0, .int 0, .ref 6975, .ref 6976, .ref 6977, .ref 6978, .int 0, .int 0, .ref 6979, .ref 6980, .ref 6981, .ref 6982, .ref 6983, .ref 6984, .ref 6985, .ref 6986, .ref 6987, .ref 6988, .int 0, .ref 6989, .ref 6990, .int 0, .ref 6991, .int 0, .ref 6992, .ref 6993, .int 0, .ref 6994, .ref 6995, .ref 6996, .ref 6997, .ref 6998, .ref 6999, .ref 7000, .ref 7001, .ref 7002, .ref 7003, .ref 7004, .ref 7005, .ref 7006, .ref 7007, .ref 7008, .ref 7009, .ref 7010, .int 0, .long 0, .int 0, .ref 7011, .ref 7012, .ref 7013, .int 0, .ref 7014, .ref 7015, .ref 7016, .int 0, .ref 7017, .ref 7018, .int 0, .ref 7019, .ref 7020, .long 0, .long 0, .int 0, .int 0, .int 0, .int 0, .ref 7021, .ref 7022, .ref 7023, .ref 7024, .ref 7025, .int 0, .ref 7026, .ref 7027, .ref 7028, .ref 7029, .ref 7030, .int 0, .ref 7031, .ref 7032, .ref 7033, .ref 7034, .ref 7035, .int 0, .ref 7036, .int 0, .ref 7037, .ref 7038, .ref 7039, .ref 7040, .ref 7041, .int 0, .ref 7042, .ref 7043, .ref 7044, .int 0, .ref 7045, .ref 7046, .int 0, .ref 7047, .ref 7048, .ref 7049, .ref 7050, .ref 7051, .int 0, .ref 7052, .ref 7053, .ref 7054, .ref 7055, .ref 7056, .int 0, .int 0, .ref 7057, .ref 7058, .ref 7059, .ref 7060, .ref 7061, .ref 7062, .ref 7063, .ref 7064, .ref 7065, .ref 7066, .ref 7067, .ref 7068, .ref 7069, .ref 7070, .ref 7071, .ref 7072, .ref 7073, .ref 7074, .ref 7075, .ref 7076, .ref 7077, .ref 7078, .ref 7079, .long 0, .int 0, .ref 7080, .int 0, .int 0, .int (-1), .int 0, .int 949981760])) :: _) rfl ?_
  refine am_T.stp hN (pc' := 36) rfl ?_
  refine am_T.stp hN (pc' := 39) rfl ?_
  refine am_T.stp hN (pc' := 40) rfl ?_
  refine am_T.stp hN (pc' := 41) rfl ?_
  refine am_T.stp hN (pc' := 44) rfl ?_
  refine am_T.stp hN (pc' := 45) rfl ?_
  refine am_T.stp hN (pc' := 46) rfl ?_
  refine am_T.stp hN (pc' := 47) rfl ?_
  refine am_T.ret rfl ?_
  refine am_T.bck (pc' := 148) (st' := [.int 1]) rfl rfl ?_
  refine am_T.stp hN rfl ?_
  refine am_T.jt (by first | rfl | decide) ?_
  refine am_T.stp hN (pc' := 169) (lv' := [(12, .int 3), (13, .int 8), (11, .int 7), (10, .int 3), (0, .ref 6952), (1, .int 8), (2, .int 0), (3, .long 0), (5, .long 0), (7, .long 0), (9, .int 0)]) rfl ?_
  refine am_T.stp hN (pc' := 84) rfl ?_
  refine am_T.stp hN (pc' := 86) rfl ?_
  refine am_T.stp hN (pc' := 88) rfl ?_
  refine am_T.stp hN (pc' := 89) rfl ?_
  refine am_T.stp hN (pc' := 90) rfl ?_
  refine am_T.stp hN rfl ?_
  refine am_T.jt (by first | rfl | decide) ?_
  refine am_T.stp hN (pc' := 173) rfl ?_
  refine am_T.stp hN (pc' := 174) rfl ?_
  refine am_T.stp hN (pc' := 177) rfl ?_
  refine am_T.go hN (vs := [.ref 6952, .int 0]) (r := []) rfl ?_
  refine am_T.lvq (lv' := [(0, .ref 6952), (1, .int 0)]) rfl ?_
  refine am_T.stp hN (pc' := 2) rfl ?_
  refine am_T.stp hN (pc' := 3) (lv' := [(2, .int 24), (0, .ref 6952), (1, .int 0)]) rfl ?_
  refine am_T.stp hN (pc' := 4) rfl ?_
  refine am_T.stp hN rfl ?_
  refine am_T.jf (by first | rfl | decide) ?_
  refine am_T.stp hN (pc' := 8) rfl ?_
  refine am_T.stp hN (pc' := 9) rfl ?_
  refine am_T.stp hN (pc' := 10) rfl ?_
  refine am_T.stp hN (pc' := 11) rfl ?_
  refine am_T.go hN (vs := [.ref 6952, .int 0]) (r := []) rfl ?_
  refine am_T.lvq (lv' := [(0, .ref 6952), (1, .int 0)]) rfl ?_
  refine am_T.stp hN (pc' := 1) rfl ?_
  refine am_T.stp hN (pc' := 2) rfl ?_
  refine am_T.stp hN (pc' := 5) rfl ?_
  refine am_T.stp hN (pc' := 6) rfl ?_
  refine am_T.stp hN (pc' := 9) rfl ?_
  refine am_T.stp hN (pc' := 10) rfl ?_
  refine am_T.stp hN (pc' := 11) rfl ?_
  refine am_T.stp hN (pc' := 14) rfl ?_
  refine am_T.stp hN (pc' := 15) rfl ?_
  refine am_T.stp hN (pc' := 18) (ov' := (6952, .inr (12, [.int 0, .ref 6953, .int 0, .ref 6954, .int 0, .ref 6955, .int 0, .int 0, .int 0, .ref 6956, .ref 6957, .ref 6958, .ref 6959, .int 0, .int 0, .int 0, .int 0, .int 0, .long 0, .int (-1), .int (-1), .ref 6960, .ref 6961, .ref 6962, .ref 6963, .ref 6964, .ref 6965, .ref 6966, .ref 6967, .ref 6968, .ref 6969, .ref 6970, .ref 6971, .ref 6972, .ref 6973, .ref 6974, .int 0, .int 0, .int 0, .int 0, .int 0, .ref 6975, .ref 6976, .ref 6977, .ref 6978, .int 0, .int 0, .ref 6979, .ref 6980, .ref 6981, .ref 6982, .ref 6983, .ref 6984, .ref 6985, .ref 6986, .ref 6987, .ref 6988, .int 0, .ref 6989, .ref 6990, .int 0, .ref 6991, .int 0, .ref 6992, .ref 6993, .int 0, .ref 6994, .ref 6995, .ref 6996, .ref 6997, .ref 6998, .ref 6999, .ref 7000, .ref 7001, .ref 7002, .ref 7003, .ref 7004, .ref 7005, .ref 7006, .ref 7007, .ref 7008, .ref 7009, .ref 7010, .int 0, .long 0, .int 0, .ref 7011, .ref 7012, .ref 7013, .int 0, .ref 7014, .ref 7015, .ref 7016, .int 0, .ref 7017, .ref 7018, .int 0, .ref 7019, .ref 7020, .long 0, .long 0, .int 0, .int 0, .int 0, .int 0, .ref 7021, .ref 7022, .ref 7023, .ref 7024, .ref 7025, .int 0, .ref 7026, .ref 7027, .ref 7028, .ref 7029, .ref 7030, .int 0, .ref 7031, .ref 7032, .ref 7033, .ref 7034, .ref 7035, .int 0, .ref 7036, .int 0, .ref 7037, .ref 7038, .ref 7039, .ref 7040, .ref 7041, .int 0, .ref 7042, .ref 7043, .ref 7044, .int 0, .ref 7045, .ref 7046, .int 0, .ref 7047, .ref 7048, .ref 7049, .ref 7050, .ref 7051, .int 0, .ref 7052, .ref 7053, .ref 7054, .ref 7055, .ref 7056, .int 0, .int 0, .ref 7057, .ref 7058, .ref 7059, .ref 7060, .ref 7061, .ref 7062, .ref 7063, .ref 7064, .ref 7065, .ref 7066, .ref 7067, .ref 7068, .ref 7069, .ref 7070, .ref 7071, .ref 7072, .ref 7073, .ref 7074, .ref 7075, .ref 7076, .ref 7077, .ref 7078, .ref 7079, .long 0, .int 0, .ref 7080, .int 0, .int 0, .int (-1), .int 0, .int 1664301760])) :: _) rfl ?_
  refine am_T.ret rfl ?_
  refine am_T.bck (pc' := 14) (st' := []) rfl rfl ?_
  refine am_T.stp hN (pc' := 17) (lv' := [(2, .int 16), (0, .ref 6952), (1, .int 0)]) rfl ?_
  refine am_T.stp hN (pc' := 3) rfl ?_
  refine am_T.stp hN (pc' := 4) rfl ?_
  refine am_T.stp hN rfl ?_
  refine am_T.jf (by first | rfl | decide) ?_
  refine am_T.stp hN (pc' := 8) rfl ?_
  refine am_T.stp hN (pc' := 9) rfl ?_
  refine am_T.stp hN (pc' := 10) rfl ?_
  refine am_T.stp hN (pc' := 11) rfl ?_
  refine am_T.go hN (vs := [.ref 6952, .int 0]) (r := []) rfl ?_
  refine am_T.lvq (lv' := [(0, .ref 6952), (1, .int 0)]) rfl ?_
  refine am_T.stp hN (pc' := 1) rfl ?_
  refine am_T.stp hN (pc' := 2) rfl ?_
  refine am_T.stp hN (pc' := 5) rfl ?_
  refine am_T.stp hN (pc' := 6) rfl ?_
  refine am_T.stp hN (pc' := 9) rfl ?_
  refine am_T.stp hN (pc' := 10) rfl ?_
  refine am_T.stp hN (pc' := 11) rfl ?_
  refine am_T.stp hN (pc' := 14) rfl ?_
  refine am_T.stp hN (pc' := 15) rfl ?_
  refine am_T.stp hN (pc' := 18) (ov' := (6952, .inr (12, [.int 0, .ref 6953, .int 0, .ref 6954, .int 0, .ref 6955, .int 0, .int 0, .int 0, .ref 6956, .ref 6957, .ref 6958, .ref 6959, .int 0, .int 0, .int 0, .int 0, .int 0, .long 0, .int (-1), .int (-1), .ref 6960, .ref 6961, .ref 6962, .ref 6963, .ref 6964, .ref 6965, .ref 6966, .ref 6967, .ref 6968, .ref 6969, .ref 6970, .ref 6971, .ref 6972, .ref 6973, .ref 6974, .int 0, .int 0, .int 0, .int 0, .int 0, .ref 6975, .ref 6976, .ref 6977, .ref 6978, .int 0, .int 0, .ref 6979, .ref 6980, .ref 6981, .ref 6982, .ref 6983, .ref 6984, .ref 6985, .ref 6986, .ref 6987, .ref 6988, .int 0, .ref 6989, .ref 6990, .int 0, .ref 6991, .int 0, .ref 6992, .ref 6993, .int 0, .ref 6994, .ref 6995, .ref 6996, .ref 6997, .ref 6998, .ref 6999, .ref 7000, .ref 7001, .ref 7002, .ref 7003, .ref 7004, .ref 7005, .ref 7006, .ref 7007, .ref 7008, .ref 7009, .ref 7010, .int 0, .long 0, .int 0, .ref 7011, .ref 7012, .ref 7013, .int 0, .ref 7014, .ref 7015, .ref 7016, .int 0, .ref 7017, .ref 7018, .int 0, .ref 7019, .ref 7020, .long 0, .long 0, .int 0, .int 0, .int 0, .int 0, .ref 7021, .ref 7022, .ref 7023, .ref 7024, .ref 7025, .int 0, .ref 7026, .ref 7027, .ref 7028, .ref 7029, .ref 7030, .int 0, .ref 7031, .ref 7032, .ref 7033, .ref 7034, .ref 7035, .int 0, .ref 7036, .int 0, .ref 7037, .ref 7038, .ref 7039, .ref 7040, .ref 7041, .int 0, .ref 7042, .ref 7043, .ref 7044, .int 0, .ref 7045, .ref 7046, .int 0, .ref 7047, .ref 7048, .ref 7049, .ref 7050, .ref 7051, .int 0, .ref 7052, .ref 7053, .ref 7054, .ref 7055, .ref 7056, .int 0, .int 0, .ref 7057, .ref 7058, .ref 7059, .ref 7060, .ref 7061, .ref 7062, .ref 7063, .ref 7064, .ref 7065, .ref 7066, .ref 7067, .ref 7068, .ref 7069, .ref 7070, .ref 7071, .ref 7072, .ref 7073, .ref 7074, .ref 7075, .ref 7076, .ref 7077, .ref 7078, .ref 7079, .long 0, .int 0, .ref 7080, .int 0, .int 0, .int (-1), .int 0, .int (-375030720)])) :: _) rfl ?_
  refine am_T.ret rfl ?_
  refine am_T.bck (pc' := 14) (st' := []) rfl rfl ?_
  refine am_T.stp hN (pc' := 17) (lv' := [(2, .int 8), (0, .ref 6952), (1, .int 0)]) rfl ?_
  refine am_T.stp hN (pc' := 3) rfl ?_
  refine am_T.stp hN (pc' := 4) rfl ?_
  refine am_T.stp hN rfl ?_
  refine am_T.jf (by first | rfl | decide) ?_
  refine am_T.stp hN (pc' := 8) rfl ?_
  refine am_T.stp hN (pc' := 9) rfl ?_
  refine am_T.stp hN (pc' := 10) rfl ?_
  refine am_T.stp hN (pc' := 11) rfl ?_
  refine am_T.go hN (vs := [.ref 6952, .int 0]) (r := []) rfl ?_
  refine am_T.lvq (lv' := [(0, .ref 6952), (1, .int 0)]) rfl ?_
  refine am_T.stp hN (pc' := 1) rfl ?_
  refine am_T.stp hN (pc' := 2) rfl ?_
  refine am_T.stp hN (pc' := 5) rfl ?_
  refine am_T.stp hN (pc' := 6) rfl ?_
  refine am_T.stp hN (pc' := 9) rfl ?_
  refine am_T.stp hN (pc' := 10) rfl ?_
  refine am_T.stp hN (pc' := 11) rfl ?_
  refine am_T.stp hN (pc' := 14) rfl ?_
  refine am_T.stp hN (pc' := 15) rfl ?_
  refine am_T.stp hN (pc' := 18) (ov' := (6952, .inr (12, [.int 0, .ref 6953, .int 0, .ref 6954, .int 0, .ref 6955, .int 0, .int 0, .int 0, .ref 6956, .ref 6957, .ref 6958, .ref 6959, .int 0, .int 0, .int 0, .int 0, .int 0, .long 0, .int (-1), .int (-1), .ref 6960, .ref 6961, .ref 6962, .ref 6963, .ref 6964, .ref 6965, .ref 6966, .ref 6967, .ref 6968, .ref 6969, .ref 6970, .ref 6971, .ref 6972, .ref 6973, .ref 6974, .int 0, .int 0, .int 0, .int 0, .int 0, .ref 6975, .ref 6976, .ref 6977, .ref 6978, .int 0, .int 0, .ref 6979, .ref 6980, .ref 6981, .ref 6982, .ref 6983, .ref 6984, .ref 6985, .ref 6986, .ref 6987, .ref 6988, .int 0, .ref 6989, .ref 6990, .int 0, .ref 6991, .int 0, .ref 6992, .ref 6993, .int 0, .ref 6994, .ref 6995, .ref 6996, .ref 6997, .ref 6998, .ref 6999, .ref 7000, .ref 7001, .ref 7002, .ref 7003, .ref 7004, .ref 7005, .ref 7006, .ref 7007, .ref 7008, .ref 7009, .ref 7010, .int 0, .long 0, .int 0, .ref 7011, .ref 7012, .ref 7013, .int 0, .ref 7014, .ref 7015, .ref 7016, .int 0, .ref 7017, .ref 7018, .int 0, .ref 7019, .ref 7020, .long 0, .long 0, .int 0, .int 0, .int 0, .int 0, .ref 7021, .ref 7022, .ref 7023, .ref 7024, .ref 7025, .int 0, .ref 7026, .ref 7027, .ref 7028, .ref 7029, .ref 7030, .int 0, .ref 7031, .ref 7032, .ref 7033, .ref 7034, .ref 7035, .int 0, .ref 7036, .int 0, .ref 7037, .ref 7038, .ref 7039, .ref 7040, .ref 7041, .int 0, .ref 7042, .ref 7043, .ref 7044, .int 0, .ref 7045, .ref 7046, .int 0, .ref 7047, .ref 7048, .ref 7049, .ref 7050, .ref 7051, .int 0, .ref 7052, .ref 7053, .ref 7054, .ref 7055, .ref 7056, .int 0, .int 0, .ref 7057, .ref 7058, .ref 7059, .ref 7060, .ref 7061, .ref 7062, .ref 7063, .ref 7064, .ref 7065, .ref 7066, .ref 7067, .ref 7068, .ref 7069, .ref 7070, .ref 7071, .ref 7072, .ref 7073, .ref 7074, .ref 7075, .ref 7076, .ref 7077, .ref 7078, .ref 7079, .long 0, .int 0, .ref 7080, .int 0, .int 0, .int (-1), .int 0, .int 260217024])) :: _) rfl ?_
  refine am_T.ret rfl ?_
  refine am_T.bck (pc' := 14) (st' := []) rfl rfl ?_
  refine am_T.stp hN (pc' := 17) (lv' := [(2, .int 0), (0, .ref 6952), (1, .int 0)]) rfl ?_
  refine am_T.stp hN (pc' := 3) rfl ?_
  refine am_T.stp hN (pc' := 4) rfl ?_
  refine am_T.stp hN rfl ?_
  refine am_T.jf (by first | rfl | decide) ?_
  refine am_T.stp hN (pc' := 8) rfl ?_
  refine am_T.stp hN (pc' := 9) rfl ?_
  refine am_T.stp hN (pc' := 10) rfl ?_
  refine am_T.stp hN (pc' := 11) rfl ?_
  refine am_T.go hN (vs := [.ref 6952, .int 0]) (r := []) rfl ?_
  refine am_T.lvq (lv' := [(0, .ref 6952), (1, .int 0)]) rfl ?_
  refine am_T.stp hN (pc' := 1) rfl ?_
  refine am_T.stp hN (pc' := 2) rfl ?_
  refine am_T.stp hN (pc' := 5) rfl ?_
  refine am_T.stp hN (pc' := 6) rfl ?_
  refine am_T.stp hN (pc' := 9) rfl ?_
  refine am_T.stp hN (pc' := 10) rfl ?_
  refine am_T.stp hN (pc' := 11) rfl ?_
  refine am_T.stp hN (pc' := 14) rfl ?_
  refine am_T.stp hN (pc' := 15) rfl ?_
  refine am_T.stp hN (pc' := 18) (ov' := (6952, .inr (12, [.int 0, .ref 6953, .int 0, .ref 6954, .int 0, .ref 6955, .int 0, .int 0, .int 0, .ref 6956, .ref 6957, .ref 6958, .ref 6959, .int 0, .int 0, .int 0, .int 0, .int 0, .long 0, .int (-1), .int (-1), .ref 6960, .ref 6961, .ref 6962, .ref 6963, .ref 6964, .ref 6965, .ref 6966, .ref 6967, .ref 6968, .ref 6969, .ref 6970, .ref 6971, .ref 6972, .ref 6973, .ref 6974, .int 0, .int 0, .int 0, .int 0, .int 0, .ref 6975, .ref 6976, .ref 6977, .ref 6978, .int 0, .int 0, .ref 6979, .ref 6980, .ref 6981, .ref 6982, .ref 6983, .ref 6984, .ref 6985, .ref 6986, .ref 6987, .ref 6988, .int 0, .ref 6989, .ref 6990, .int 0, .ref 6991, .int 0, .ref 6992, .ref 6993, .int 0, .ref 6994, .ref 6995, .ref 6996, .ref 6997, .ref 6998, .ref 6999, .ref 7000, .ref 7001, .ref 7002, .ref 7003, .ref 7004, .ref 7005, .ref 7006, .ref 7007, .ref 7008, .ref 7009, .ref 7010, .int 0, .long 0, .int 0, .ref 7011, .ref 7012, .ref 7013, .int 0, .ref 7014, .ref 7015, .ref 7016, .int 0, .ref 7017, .ref 7018, .int 0, .ref 7019, .ref 7020, .long 0, .long 0, .int 0, .int 0, .int 0, .int 0, .ref 7021, .ref 7022, .ref 7023, .ref 7024, .ref 7025, .int 0, .ref 7026, .ref 7027, .ref 7028, .ref 7029, .ref 7030, .int 0, .ref 7031, .ref 7032, .ref 7033, .ref 7034, .ref 7035, .int 0, .ref 7036, .int 0, .ref 7037, .ref 7038, .ref 7039, .ref 7040, .ref 7041, .int 0, .ref 7042, .ref 7043, .ref 7044, .int 0, .ref 7045, .ref 7046, .int 0, .ref 7047, .ref 7048, .ref 7049, .ref 7050, .ref 7051, .int 0, .ref 7052, .ref 7053, .ref 7054, .ref 7055, .ref 7056, .int 0, .int 0, .ref 7057, .ref 7058, .ref 7059, .ref 7060, .ref 7061, .ref 7062, .ref 7063, .ref 7064, .ref 7065, .ref 7066, .ref 7067, .ref 7068, .ref 7069, .ref 7070, .ref 7071, .ref 7072, .ref 7073, .ref 7074, .ref 7075, .ref 7076, .ref 7077, .ref 7078, .ref 7079, .long 0, .int 0, .ref 7080, .int 0, .int 0, .int (-1), .int 0, .int 714503744])) :: _) rfl ?_
  refine am_T.ret rfl ?_
  refine am_T.bck (pc' := 14) (st' := []) rfl rfl ?_
  refine am_T.stp hN (pc' := 17) (lv' := [(2, .int (-8)), (0, .ref 6952), (1, .int 0)]) rfl ?_
  refine am_T.stp hN (pc' := 3) rfl ?_
  refine am_T.stp hN (pc' := 4) rfl ?_
  refine am_T.stp hN rfl ?_
  refine am_T.jt (by first | rfl | decide) ?_
  refine am_T.ret rfl ?_
  refine am_T.bck (pc' := 180) (st' := []) rfl rfl ?_
  refine am_T.stp hN (pc' := 181) rfl ?_
  refine am_T.stp hN (pc' := 183) (lv' := [(12, .int 0), (13, .int 8), (11, .int 7), (10, .int 3), (0, .ref 6952), (1, .int 8), (2, .int 0), (3, .long 0), (5, .long 0), (7, .long 0), (9, .int 0)]) rfl ?_
  refine am_T.stp hN (pc' := 185) rfl ?_
  refine am_T.stp hN (pc' := 186) rfl ?_
  refine am_T.stp hN rfl ?_
  refine am_T.jf (by first | rfl | decide) ?_
  refine am_T.stp hN (pc' := 190) rfl ?_
  refine am_T.stp hN (pc' := 191) rfl ?_
  refine am_T.stp hN (pc' := 194) rfl ?_
  refine am_T.stp hN (pc' := 196) rfl ?_
  refine am_T.stp hN (pc' := 197) rfl ?_
  refine am_T.stp hN (pc' := 198) rfl ?_
  refine am_T.stp hN (pc' := 199) rfl ?_
  refine am_T.stp hN (pc' := 201) rfl ?_
  refine am_T.stp hN (pc' := 202) rfl ?_
  refine am_T.stp hN (pc' := 203) rfl ?_
  refine am_T.stp hN (pc' := 206) rfl ?_
  refine am_T.stp hN (pc' := 208) rfl ?_
  refine am_T.stp hN (pc' := 210) rfl ?_
  refine am_T.stp hN (pc' := 212) rfl ?_
  refine am_T.stp hN (pc' := 213) rfl ?_
  refine am_T.stp hN (pc' := 214) rfl ?_
  refine am_T.stp hN (pc' := 215) rfl ?_
  refine am_T.go hN (vs := [.ref 6952, .int 3, .int 42]) (r := []) rfl ?_
  refine am_T.lvq (lv' := [(0, .ref 6952), (1, .int 3), (2, .int 42)]) rfl ?_
  refine am_T.stp hN (pc' := 1) rfl ?_
  refine am_T.stp hN (pc' := 4) rfl ?_
  refine am_T.stp hN rfl ?_
  refine am_T.jt (by first | rfl | decide) ?_
  refine am_T.stp hN (pc' := 15) rfl ?_
  refine am_T.stp hN (pc' := 16) rfl ?_
  refine am_T.stp hN (pc' := 19) rfl ?_
  refine am_T.stp hN (pc' := 20) rfl ?_
  refine am_T.stp hN (pc' := 23) rfl ?_
  refine am_T.stp hN rfl ?_
  refine am_T.jt (by first | rfl | decide) ?_
  refine am_T.stp hN (pc' := 31) rfl ?_
  refine am_T.stp hN (pc' := 32) rfl ?_
  refine am_T.stp hN (pc' := 35) (ov' := (6952, .inr (12, [.int 0, .ref 6953, .int 0, .ref 6954, .int 0, .ref 6955, .int 0, .int 0, .int 0, .ref 6956, .ref 6957, .ref 6958, .ref 6959, .int 0, .int 0, .int 0, .int 0, .int 0, .long 0, .int (-1), .int (-1), .ref 6960, .ref 6961, .ref 6962, .ref 6963, .ref 6964, .ref 6965, .ref 6966, .ref 6967, .ref 6968, .ref 6969, .ref 6970, .ref 6971, .ref 6972, .ref 6973, .ref 6974, .int 0, .int 0, .int 0, .int 0, .int 0, .ref 6975, .ref 6976, .ref 6977, .ref 6978, .int 0, .int 0, .ref 6979, .ref 6980, .ref 6981, .ref 6982, .ref 6983, .ref 6984, .ref 6985, .ref 6986, .ref 6987, .ref 6988, .int 0, .ref 6989, .ref 6990, .int 0, .ref 6991, .int 0, .ref 6992, .ref 6993, .int 0, .ref 6994, .ref 6995, .ref 6996, .ref 6997, .ref 6998, .ref 6999, .ref 7000, .ref 7001, .ref 7002, .ref 7003, .ref 7004, .ref 7005, .ref 7006, .ref 7007, .ref 7008, .ref 7009, .ref 7010, .int 0, .long 0, .int 0, .ref 7011, .ref 7012, .ref 7013, .int 0, .ref 7014, .ref 7015, .ref 7016, .int 0, .ref 7017, .ref 7018, .int 0, .ref 7019, .ref 7020, .long 0, .long 0, .int 0, .int 0, .int 0, .int 0, .ref 7021, .ref 7022, .ref 7023, .ref 7024, .ref 7025, .int 0, .ref 7026, .ref 7027, .ref 7028, .ref 7029, .ref 7030, .int 0, .ref 7031, .ref 7032, .ref 7033, .ref 7034, .ref 7035, .int 0, .ref 7036, .int 0, .ref 7037, .ref 7038, .ref 7039, .ref 7040, .ref 7041, .int 0, .ref 7042, .ref 7043, .ref 7044, .int 0, .ref 7045, .ref 7046, .int 0, .ref 7047, .ref 7048, .ref 7049, .ref 7050, .ref 7051, .int 0, .ref 7052, .ref 7053, .ref 7054, .ref 7055, .ref 7056, .int 0, .int 0, .ref 7057, .ref 7058, .ref 7059, .ref 7060, .ref 7061, .ref 7062, .ref 7063, .ref 7064, .ref 7065, .ref 7066, .ref 7067, .ref 7068, .ref 7069, .ref 7070, .ref 7071, .ref 7072, .ref 7073, .ref 7074, .ref 7075, .ref 7076, .ref 7077, .ref 7078, .ref 7079, .long 0, .int 0, .ref 7080, .int 0, .int 0, .int (-1), .int 0, .int 714503744])) :: _) rfl ?_
  refine am_T.stp hN (pc' := 36) rfl ?_
  refine am_T.stp hN (pc' := 39) rfl ?_
  refine am_T.stp hN (pc' := 40) rfl ?_
  refine am_T.stp hN (pc' := 41) rfl ?_
  refine am_T.stp hN (pc' := 44) rfl ?_
  refine am_T.stp hN (pc' := 45) rfl ?_
  refine am_T.stp hN (pc' := 46) rfl ?_
  refine am_T.stp hN (pc' := 47) rfl ?_
  refine am_T.ret rfl ?_
  refine am_T.bck (pc' := 218) (st' := [.int 1]) rfl rfl ?_
  refine am_T.stp hN rfl ?_
  refine am_T.jt (by first | rfl | decide) ?_
  refine am_T.stp hN (pc' := 239) (lv' := [(12, .int 1), (13, .int 8), (11, .int 7), (10, .int 3), (0, .ref 6952), (1, .int 8), (2, .int 0), (3, .long 0), (5, .long 0), (7, .long 0), (9, .int 0)]) rfl ?_
  refine am_T.stp hN (pc' := 183) rfl ?_
  refine am_T.stp hN (pc' := 185) rfl ?_
  refine am_T.stp hN (pc' := 186) rfl ?_
  refine am_T.stp hN rfl ?_
  refine am_T.jf (by first | rfl | decide) ?_
  refine am_T.stp hN (pc' := 190) rfl ?_
  refine am_T.stp hN (pc' := 191) rfl ?_
  refine am_T.stp hN (pc' := 194) rfl ?_
  refine am_T.stp hN (pc' := 196) rfl ?_
  refine am_T.stp hN (pc' := 197) rfl ?_
  refine am_T.stp hN (pc' := 198) rfl ?_
  refine am_T.stp hN (pc' := 199) rfl ?_
  refine am_T.stp hN (pc' := 201) rfl ?_
  refine am_T.stp hN (pc' := 202) rfl ?_
  refine am_T.stp hN (pc' := 203) rfl ?_
  refine am_T.stp hN (pc' := 206) rfl ?_
  refine am_T.stp hN (pc' := 208) rfl ?_
  refine am_T.stp hN (pc' := 210) rfl ?_
  refine am_T.stp hN (pc' := 212) rfl ?_
  refine am_T.stp hN (pc' := 213) rfl ?_
  refine am_T.stp hN (pc' := 214) rfl ?_
  refine am_T.stp hN (pc' := 215) rfl ?_
  refine am_T.go hN (vs := [.ref 6952, .int 4, .int 10902]) (r := []) rfl ?_
  refine am_T.lvq (lv' := [(0, .ref 6952), (1, .int 4), (2, .int 10902)]) rfl ?_
  refine am_T.stp hN (pc' := 1) rfl ?_
  refine am_T.stp hN (pc' := 4) rfl ?_
  refine am_T.stp hN rfl ?_
  refine am_T.jt (by first | rfl | decide) ?_
  refine am_T.stp hN (pc' := 15) rfl ?_
  refine am_T.stp hN (pc' := 16) rfl ?_
  refine am_T.stp hN (pc' := 19) rfl ?_
  refine am_T.stp hN (pc' := 20) rfl ?_
  refine am_T.stp hN (pc' := 23) rfl ?_
  refine am_T.stp hN rfl ?_
  refine am_T.jt (by first | rfl | decide) ?_
  refine am_T.stp hN (pc' := 31) rfl ?_
  refine am_T.stp hN (pc' := 32) rfl ?_
  refine am_T.stp hN (pc' := 35) (ov' := (6952, .inr (12, [.int 0, .ref 6953, .int 0, .ref 6954, .int 0, .ref 6955, .int 0, .int 0, .int 0, .ref 6956, .ref 6957, .ref 6958, .ref 6959, .int 0, .int 0, .int 0, .int 0, .int 0, .long 0, .int (-1), .int (-1), .ref 6960, .ref 6961, .ref 6962, .ref 6963, .ref 6964, .ref 6965, .ref 6966, .ref 6967, .ref 6968, .ref 6969, .ref 6970, .ref 6971, .ref 6972, .ref 6973, .ref 6974, .int 0, .int 0, .int 0, .int 0, .int 0, .ref 6975, .ref 6976, .ref 6977, .ref 6978, .int 0, .int 0, .ref 6979, .ref 6980, .ref 6981, .ref 6982, .ref 6983, .ref 6984, .ref 6985, .ref 6986, .ref 6987, .ref 6988, .int 0, .ref 6989, .ref 6990, .int 0, .ref 6991, .int 0, .ref 6992, .ref 6993, .int 0, .ref 6994, .ref 6995, .ref 6996, .ref 6997, .ref 6998, .ref 6999, .ref 7000, .ref 7001, .ref 7002, .ref 7003, .ref 7004, .ref 7005, .ref 7006, .ref 7007, .ref 7008, .ref 7009, .ref 7010, .int 0, .long 0, .int 0, .ref 7011, .ref 7012, .ref 7013, .int 0, .ref 7014, .ref 7015, .ref 7016, .int 0, .ref 7017, .ref 7018, .int 0, .ref 7019, .ref 7020, .long 0, .long 0, .int 0, .int 0, .int 0, .int 0, .ref 7021, .ref 7022, .ref 7023, .ref 7024, .ref 7025, .int 0, .ref 7026, .ref 7027, .ref 7028, .ref 7029, .ref 7030, .int 0, .ref 7031, .ref 7032, .ref 7033, .ref 7034, .ref 7035, .int 0, .ref 7036, .int 0, .ref 7037, .ref 7038, .ref 7039, .ref 7040, .ref 7041, .int 0, .ref 7042, .ref 7043, .ref 7044, .int 0, .ref 7045, .ref 7046, .int 0, .ref 7047, .ref 7048, .ref 7049, .ref 7050, .ref 7051, .int 0, .ref 7052, .ref 7053, .ref 7054, .ref 7055, .ref 7056, .int 0, .int 0, .ref 7057, .ref 7058, .ref 7059, .ref 7060, .ref 7061, .ref 7062, .ref 7063, .ref 7064, .ref 7065, .ref 7066, .ref 7067, .ref 7068, .ref 7069, .ref 7070, .ref 7071, .ref 7072, .ref 7073, .ref 7074, .ref 7075, .ref 7076, .ref 7077, .ref 7078, .ref 7079, .long 0, .int 0, .ref 7080, .int 0, .int 0, .int (-1), .int 0, .int 714503744])) :: _) rfl ?_
  refine am_T.stp hN (pc' := 36) rfl ?_
  refine am_T.stp hN (pc' := 39) rfl ?_
  refine am_T.stp hN (pc' := 40) rfl ?_
  refine am_T.stp hN (pc' := 41) rfl ?_
  refine am_T.stp hN (pc' := 44) rfl ?_
  refine am_T.stp hN (pc' := 45) rfl ?_
  refine am_T.stp hN (pc' := 46) rfl ?_
  refine am_T.stp hN (pc' := 47) rfl ?_
  refine am_T.ret rfl ?_
  refine am_T.bck (pc' := 218) (st' := [.int 1]) rfl rfl ?_
  refine am_T.stp hN rfl ?_
  refine am_T.jt (by first | rfl | decide) ?_
  refine am_T.stp hN (pc' := 239) (lv' := [(12, .int 2), (13, .int 8), (11, .int 7), (10, .int 3), (0, .ref 6952), (1, .int 8), (2, .int 0), (3, .long 0), (5, .long 0), (7, .long 0), (9, .int 0)]) rfl ?_
  refine am_T.stp hN (pc' := 183) rfl ?_
  refine am_T.stp hN (pc' := 185) rfl ?_
  refine am_T.stp hN (pc' := 186) rfl ?_
  refine am_T.stp hN rfl ?_
  refine am_T.jf (by first | rfl | decide) ?_
  refine am_T.stp hN (pc' := 190) rfl ?_
  refine am_T.stp hN (pc' := 191) rfl ?_
  refine am_T.stp hN (pc' := 194) rfl ?_
  refine am_T.stp hN (pc' := 196) rfl ?_
  refine am_T.stp hN (pc' := 197) rfl ?_
  refine am_T.stp hN (pc' := 198) rfl ?_
  refine am_T.stp hN (pc' := 199) rfl ?_
  refine am_T.stp hN (pc' := 201) rfl ?_
  refine am_T.stp hN (pc' := 202) rfl ?_
  refine am_T.stp hN (pc' := 203) rfl ?_
  refine am_T.stp hN (pc' := 206) rfl ?_
  refine am_T.stp hN (pc' := 208) rfl ?_
  refine am_T.stp hN (pc' := 210) rfl ?_
  refine am_T.stp hN (pc' := 212) rfl ?_
  refine am_T.stp hN (pc' := 213) rfl ?_
  refine am_T.stp hN (pc' := 214) rfl ?_
  refine am_T.stp hN (pc' := 215) rfl ?_
  refine am_T.go hN (vs := [.ref 6952, .int 5, .int 2791030]) (r := []) rfl ?_
  refine am_T.lvq (lv' := [(0, .ref 6952), (1, .int 5), (2, .int 2791030)]) rfl ?_
  refine am_T.stp hN (pc' := 1) rfl ?_
  refine am_T.stp hN (pc' := 4) rfl ?_
  refine am_T.stp hN rfl ?_
  refine am_T.jt (by first | rfl | decide) ?_
  refine am_T.stp hN (pc' := 15) rfl ?_
  refine am_T.stp hN (pc' := 16) rfl ?_
  refine am_T.stp hN (pc' := 19) rfl ?_
  refine am_T.stp hN (pc' := 20) rfl ?_
  refine am_T.stp hN (pc' := 23) rfl ?_
  refine am_T.stp hN rfl ?_
  refine am_T.jt (by first | rfl | decide) ?_
  refine am_T.stp hN (pc' := 31) rfl ?_
  refine am_T.stp hN (pc' := 32) rfl ?_
  refine am_T.stp hN (pc' := 35) (ov' := (6952, .inr (12, [.int 0, .ref 6953, .int 0, .ref 6954, .int 0, .ref 6955, .int 0, .int 0, .int 0, .ref 6956, .ref 6957, .ref 6958, .ref 6959, .int 0, .int 0, .int 0, .int 0, .int 0, .long 0, .int (-1), .int (-1), .ref 6960, .ref 6961, .ref 6962, .ref 6963, .ref 6964, .ref 6965, .ref 6966, .ref 6967, .ref 6968, .ref 6969, .ref 6970, .ref 6971, .ref 6972, .ref 6973, .ref 6974, .int 0, .int 0, .int 0, .int 0, .int 0, .ref 6975, .ref 6976, .ref 6977, .ref 6978, .int 0, .int 0, .ref 6979, .ref 6980, .ref 6981, .ref 6982, .ref 6983, .ref 6984, .ref 6985, .ref 6986, .ref 6987, .ref 6988, .int 0, .ref 6989, .ref 6990, .int 0, .ref 6991, .int 0, .ref 6992, .ref 6993, .int 0, .ref 6994, .ref 6995, .ref 6996, .ref 6997, .ref 6998, .ref 6999, .ref 7000, .ref 7001, .ref 7002, .ref 7003, .ref 7004, .ref 7005, .ref 7006, .ref 7007, .ref 7008, .ref 7009, .ref 7010, .int 0, .long 0, .int 0, .ref 7011, .ref 7012, .ref 7013, .int 0, .ref 7014, .ref 7015, .ref 7016, .int 0, .ref 7017, .ref 7018, .int 0, .ref 7019, .ref 7020, .long 0, .long 0, .int 0, .int 0, .int 0, .int 0, .ref 7021, .ref 7022, .ref 7023, .ref 7024, .ref 7025, .int 0, .ref 7026, .ref 7027, .ref 7028, .ref 7029, .ref 7030, .int 0, .ref 7031, .ref 7032, .ref 7033, .ref 7034, .ref 7035, .int 0, .ref 7036, .int 0, .ref 7037, .ref 7038, .ref 7039, .ref 7040, .ref 7041, .int 0, .ref 7042, .ref 7043, .ref 7044, .int 0, .ref 7045, .ref 7046, .int 0, .ref 7047, .ref 7048, .ref 7049, .ref 7050, .ref 7051, .int 0, .ref 7052, .ref 7053, .ref 7054, .ref 7055, .ref 7056, .int 0, .int 0, .ref 7057, .ref 7058, .ref 7059, .ref 7060, .ref 7061, .ref 7062, .ref 7063, .ref 7064, .ref 7065, .ref 7066, .ref 7067, .ref 7068, .ref 7069, .ref 7070, .ref 7071, .ref 7072, .ref 7073, .ref 7074, .ref 7075, .ref 7076, .ref 7077, .ref 7078, .ref 7079, .long 0, .int 0, .ref 7080, .int 0, .int 0, .int (-1), .int 0, .int 714503744])) :: _) rfl ?_
  refine am_T.stp hN (pc' := 36) rfl ?_
  refine am_T.stp hN (pc' := 39) rfl ?_
  refine am_T.stp hN (pc' := 40) rfl ?_
  refine am_T.stp hN (pc' := 41) rfl ?_
  refine am_T.stp hN (pc' := 44) rfl ?_
  refine am_T.stp hN (pc' := 45) rfl ?_
  refine am_T.stp hN (pc' := 46) rfl ?_
  refine am_T.stp hN (pc' := 47) rfl ?_
  refine am_T.ret rfl ?_
  refine am_T.bck (pc' := 218) (st' := [.int 1]) rfl rfl ?_
  refine am_T.stp hN rfl ?_
  refine am_T.jt (by first | rfl | decide) ?_
  refine am_T.stp hN (pc' := 239) (lv' := [(12, .int 3), (13, .int 8), (11, .int 7), (10, .int 3), (0, .ref 6952), (1, .int 8), (2, .int 0), (3, .long 0), (5, .long 0), (7, .long 0), (9, .int 0)]) rfl ?_
  refine am_T.stp hN (pc' := 183) rfl ?_
  refine am_T.stp hN (pc' := 185) rfl ?_
  refine am_T.stp hN (pc' := 186) rfl ?_
  refine am_T.stp hN rfl ?_
  refine am_T.jf (by first | rfl | decide) ?_
  refine am_T.stp hN (pc' := 190) rfl ?_
  refine am_T.stp hN (pc' := 191) rfl ?_
  refine am_T.stp hN (pc' := 194) rfl ?_
  refine am_T.stp hN (pc' := 196) rfl ?_
  refine am_T.stp hN (pc' := 197) rfl ?_
  refine am_T.stp hN (pc' := 198) rfl ?_
  refine am_T.stp hN (pc' := 199) rfl ?_
  refine am_T.stp hN (pc' := 201) rfl ?_
  refine am_T.stp hN (pc' := 202) rfl ?_
  refine am_T.stp hN (pc' := 203) rfl ?_
  refine am_T.stp hN (pc' := 206) rfl ?_
  refine am_T.stp hN (pc' := 208) rfl ?_
  refine am_T.stp hN (pc' := 210) rfl ?_
  refine am_T.stp hN (pc' := 212) rfl ?_
  refine am_T.stp hN (pc' := 213) rfl ?_
  refine am_T.stp hN (pc' := 214) rfl ?_
  refine am_T.stp hN (pc' := 215) rfl ?_
  refine am_T.go hN (vs := [.ref 6952, .int 6, .int 714503744]) (r := []) rfl ?_
  refine am_T.lvq (lv' := [(0, .ref 6952), (1, .int 6), (2, .int 714503744)]) rfl ?_
  refine am_T.stp hN (pc' := 1) rfl ?_
  refine am_T.stp hN (pc' := 4) rfl ?_
  refine am_T.stp hN rfl ?_
  refine am_T.jt (by first | rfl | decide) ?_
  refine am_T.stp hN (pc' := 15) rfl ?_
  refine am_T.stp hN (pc' := 16) rfl ?_
  refine am_T.stp hN (pc' := 19) rfl ?_
  refine am_T.stp hN (pc' := 20) rfl ?_
  refine am_T.stp hN (pc' := 23) rfl ?_
  refine am_T.stp hN rfl ?_
  refine am_T.jt (by first | rfl | decide) ?_
  refine am_T.stp hN (pc' := 31) rfl ?_
  refine am_T.stp hN (pc' := 32) rfl ?_
  refine am_T.stp hN (pc' := 35) (ov' := (6952, .inr (12, [.int 0, .ref 6953, .int 0, .ref 6954, .int 0, .ref 6955, .int 0, .int 0, .int 0, .ref 6956, .ref 6957, .ref 6958, .ref 6959, .int 0, .int 0, .int 0, .int 0, .int 0, .long 0, .int (-1), .int (-1), .ref 6960, .ref 6961, .ref 6962, .ref 6963, .ref 6964, .ref 6965, .ref 6966, .ref 6967, .ref 6968, .ref 6969, .ref 6970, .ref 6971, .ref 6972, .ref 6973, .ref 6974, .int 0, .int 0, .int 0, .int 0, .int 0, .ref 6975, .ref 6976, .ref 6977, .ref 6978, .int 0, .int 0, .ref 6979, .ref 6980, .ref 6981, .ref 6982, .ref 6983, .ref 6984, .ref 6985, .ref 6986, .ref 6987, .ref 6988, .int 0, .ref 6989, .ref 6990, .int 0, .ref 6991, .int 0, .ref 6992, .ref 6993, .int 0, .ref 6994, .ref 6995, .ref 6996, .ref 6997, .ref 6998, .ref 6999, .ref 7000, .ref 7001, .ref 7002, .ref 7003, .ref 7004, .ref 7005, .ref 7006, .ref 7007, .ref 7008, .ref 7009, .ref 7010, .int 0, .long 0, .int 0, .ref 7011, .ref 7012, .ref 7013, .int 0, .ref 7014, .ref 7015, .ref 7016, .int 0, .ref 7017, .ref 7018, .int 0, .ref 7019, .ref 7020, .long 0, .long 0, .int 0, .int 0, .int 0, .int 0, .ref 7021, .ref 7022, .ref 7023, .ref 7024, .ref 7025, .int 0, .ref 7026, .ref 7027, .ref 7028, .ref 7029, .ref 7030, .int 0, .ref 7031, .ref 7032, .ref 7033, .ref 7034, .ref 7035, .int 0, .ref 7036, .int 0, .ref 7037, .ref 7038, .ref 7039, .ref 7040, .ref 7041, .int 0, .ref 7042, .ref 7043, .ref 7044, .int 0, .ref 7045, .ref 7046, .int 0, .ref 7047, .ref 7048, .ref 7049, .ref 7050, .ref 7051, .int 0, .ref 7052, .ref 7053, .ref 7054, .ref 7055, .ref 7056, .int 0, .int 0, .ref 7057, .ref 7058, .ref 7059, .ref 7060, .ref 7061, .ref 7062, .ref 7063, .ref 7064, .ref 7065, .ref 7066, .ref 7067, .ref 7068, .ref 7069, .ref 7070, .ref 7071, .ref 7072, .ref 7073, .ref 7074, .ref 7075, .ref 7076, .ref 7077, .ref 7078, .ref 7079, .long 0, .int 0, .ref 7080, .int 0, .int 0, .int (-1), .int 0, .int 714503744])) :: _) rfl ?_
  refine am_T.stp hN (pc' := 36) rfl ?_
  refine am_T.stp hN (pc' := 39) rfl ?_
  refine am_T.stp hN (pc' := 40) rfl ?_
  refine am_T.stp hN (pc' := 41) rfl ?_
  refine am_T.stp hN (pc' := 44) rfl ?_
  refine am_T.stp hN (pc' := 45) rfl ?_
  refine am_T.stp hN (pc' := 46) rfl ?_
  refine am_T.stp hN (pc' := 47) rfl ?_
  refine am_T.ret rfl ?_
  refine am_T.bck (pc' := 218) (st' := [.int 1]) rfl rfl ?_
  refine am_T.stp hN rfl ?_
  refine am_T.jt (by first | rfl | decide) ?_
  refine am_T.stp hN (pc' := 239) (lv' := [(12, .int 4), (13, .int 8), (11, .int 7), (10, .int 3), (0, .ref 6952), (1, .int 8), (2, .int 0), (3, .long 0), (5, .long 0), (7, .long 0), (9, .int 0)]) rfl ?_
  refine am_T.stp hN (pc' := 183) rfl ?_
  refine am_T.stp hN (pc' := 185) rfl ?_
  refine am_T.stp hN (pc' := 186) rfl ?_
  refine am_T.stp hN rfl ?_
  refine am_T.jt (by first | rfl | decide) ?_
  refine am_T.stp hN (pc' := 243) rfl ?_
  refine am_T.stp hN (pc' := 244) rfl ?_
  refine am_T.stp hN (pc' := 247) rfl ?_
  refine am_T.stp hN (pc' := 249) rfl ?_
  refine am_T.stp hN (pc' := 250) rfl ?_
  refine am_T.stp hN (pc' := 253) (ov' := (6952, .inr (12, [.int 0, .ref 6953, .int 0, .ref 6954, .int 0, .ref 6955, .int 0, .int 0, .int 0, .ref 6956, .ref 6957, .ref 6958, .ref 6959, .int 0, .int 0, .int 0, .int 0, .int 0, .long 0, .int (-1), .int (-1), .ref 6960, .ref 6961, .ref 6962, .ref 6963, .ref 6964, .ref 6965, .ref 6966, .ref 6967, .ref 6968, .ref 6969, .ref 6970, .ref 6971, .ref 6972, .ref 6973, .ref 6974, .int 0, .int 0, .int 0, .int 0, .int 0, .ref 6975, .ref 6976, .ref 6977, .ref 6978, .int 0, .int 0, .ref 6979, .ref 6980, .ref 6981, .ref 6982, .ref 6983, .ref 6984, .ref 6985, .ref 6986, .ref 6987, .ref 6988, .int 0, .ref 6989, .ref 6990, .int 0, .ref 6991, .int 0, .ref 6992, .ref 6993, .int 0, .ref 6994, .ref 6995, .ref 6996, .ref 6997, .ref 6998, .ref 6999, .ref 7000, .ref 7001, .ref 7002, .ref 7003, .ref 7004, .ref 7005, .ref 7006, .ref 7007, .ref 7008, .ref 7009, .ref 7010, .int 0, .long 0, .int 0, .ref 7011, .ref 7012, .ref 7013, .int 0, .ref 7014, .ref 7015, .ref 7016, .int 0, .ref 7017, .ref 7018, .int 0, .ref 7019, .ref 7020, .long 0, .long 0, .int 0, .int 0, .int 0, .int 0, .ref 7021, .ref 7022, .ref 7023, .ref 7024, .ref 7025, .int 0, .ref 7026, .ref 7027, .ref 7028, .ref 7029, .ref 7030, .int 0, .ref 7031, .ref 7032, .ref 7033, .ref 7034, .ref 7035, .int 0, .ref 7036, .int 0, .ref 7037, .ref 7038, .ref 7039, .ref 7040, .ref 7041, .int 0, .ref 7042, .ref 7043, .ref 7044, .int 0, .ref 7045, .ref 7046, .int 0, .ref 7047, .ref 7048, .ref 7049, .ref 7050, .ref 7051, .int 0, .ref 7052, .ref 7053, .ref 7054, .ref 7055, .ref 7056, .int 0, .int 0, .ref 7057, .ref 7058, .ref 7059, .ref 7060, .ref 7061, .ref 7062, .ref 7063, .ref 7064, .ref 7065, .ref 7066, .ref 7067, .ref 7068, .ref 7069, .ref 7070, .ref 7071, .ref 7072, .ref 7073, .ref 7074, .ref 7075, .ref 7076, .ref 7077, .ref 7078, .ref 7079, .long 0, .int 0, .ref 7080, .int 7, .int 0, .int (-1), .int 0, .int 714503744])) :: _) rfl ?_
  refine am_T.stp hN (pc' := 254) rfl ?_
  refine am_T.stp hN (pc' := 255) rfl ?_
  refine am_T.stp hN (pc' := 258) rfl ?_
  refine am_T.stp hN (pc' := 259) rfl ?_
  refine am_T.stp hN (pc' := 260) rfl ?_
  refine am_T.stp hN (pc' := 263) (ov' := (6952, .inr (12, [.int 0, .ref 6953, .int 0, .ref 6954, .int 0, .ref 6955, .int 0, .int 0, .int 0, .ref 6956, .ref 6957, .ref 6958, .ref 6959, .int 0, .int 0, .int 0, .int 0, .int 0, .long 0, .int (-1), .int (-1), .ref 6960, .ref 6961, .ref 6962, .ref 6963, .ref 6964, .ref 6965, .ref 6966, .ref 6967, .ref 6968, .ref 6969, .ref 6970, .ref 6971, .ref 6972, .ref 6973, .ref 6974, .int 0, .int 0, .int 0, .int 0, .int 0, .ref 6975, .ref 6976, .ref 6977, .ref 6978, .int 0, .int 0, .ref 6979, .ref 6980, .ref 6981, .ref 6982, .ref 6983, .ref 6984, .ref 6985, .ref 6986, .ref 6987, .ref 6988, .int 0, .ref 6989, .ref 6990, .int 0, .ref 6991, .int 0, .ref 6992, .ref 6993, .int 0, .ref 6994, .ref 6995, .ref 6996, .ref 6997, .ref 6998, .ref 6999, .ref 7000, .ref 7001, .ref 7002, .ref 7003, .ref 7004, .ref 7005, .ref 7006, .ref 7007, .ref 7008, .ref 7009, .ref 7010, .int 0, .long 0, .int 0, .ref 7011, .ref 7012, .ref 7013, .int 0, .ref 7014, .ref 7015, .ref 7016, .int 0, .ref 7017, .ref 7018, .int 0, .ref 7019, .ref 7020, .long 0, .long 0, .int 0, .int 0, .int 0, .int 0, .ref 7021, .ref 7022, .ref 7023, .ref 7024, .ref 7025, .int 0, .ref 7026, .ref 7027, .ref 7028, .ref 7029, .ref 7030, .int 0, .ref 7031, .ref 7032, .ref 7033, .ref 7034, .ref 7035, .int 0, .ref 7036, .int 0, .ref 7037, .ref 7038, .ref 7039, .ref 7040, .ref 7041, .int 0, .ref 7042, .ref 7043, .ref 7044, .int 0, .ref 7045, .ref 7046, .int 0, .ref 7047, .ref 7048, .ref 7049, .ref 7050, .ref 7051, .int 0, .ref 7052, .ref 7053, .ref 7054, .ref 7055, .ref 7056, .int 0, .int 0, .ref 7057, .ref 7058, .ref 7059, .ref 7060, .ref 7061, .ref 7062, .ref 7063, .ref 7064, .ref 7065, .ref 7066, .ref 7067, .ref 7068, .ref 7069, .ref 7070, .ref 7071, .ref 7072, .ref 7073, .ref 7074, .ref 7075, .ref 7076, .ref 7077, .ref 7078, .ref 7079, .long 0, .int 0, .ref 7080, .int 7, .int 1, .int (-1), .int 0, .int 714503744])) :: _) rfl ?_
  refine am_T.stp hN (pc' := 264) rfl ?_
  refine am_T.ret rfl ?_
  refine am_T.bck (pc' := 24) (st' := [.int 0]) rfl rfl ?_
  refine am_T.stp hN (pc' := 25) (lv' := [(1, .int 0), (0, .ref 6952)]) rfl ?_
  refine am_T.stp hN (pc' := 26) rfl ?_
  refine am_T.stp hN (pc' := 28) rfl ?_
  refine am_T.stp hN rfl ?_
  refine am_T.jt (by first | rfl | decide) ?_
  refine am_T.stp hN (pc' := 39) rfl ?_
  refine am_T.stp hN (pc' := 42) rfl ?_
  refine am_T.stp hN (pc' := 43) (lv' := [(2, .int 0), (1, .int 0), (0, .ref 6952)]) rfl ?_
  refine am_T.stp hN (pc' := 44) rfl ?_
  refine am_T.stp hN (pc' := 45) rfl ?_
  refine am_T.stp hN rfl ?_
  refine am_T.jt (by first | rfl | decide) ?_
  refine am_T.stp hN (pc' := 56) rfl ?_
  refine am_T.stp hN (pc' := 59) (ov' := (6952, .inr (12, [.int 0, .ref 6953, .int 0, .ref 6954, .int 0, .ref 6955, .int 0, .int 0, .int 0, .ref 6956, .ref 6957, .ref 6958, .ref 6959, .int 0, .int 0, .int 0, .int 0, .int 0, .long 0, .int (-1), .int (-1), .ref 6960, .ref 6961, .ref 6962, .ref 6963, .ref 6964, .ref 6965, .ref 6966, .ref 6967, .ref 6968, .ref 6969, .ref 6970, .ref 6971, .ref 6972, .ref 6973, .ref 6974, .int 0, .int 0, .int 0, .int 0, .int 0, .ref 6975, .ref 6976, .ref 6977, .ref 6978, .int 0, .int 0, .ref 6979, .ref 6980, .ref 6981, .ref 6982, .ref 6983, .ref 6984, .ref 6985, .ref 6986, .ref 6987, .ref 6988, .int 0, .ref 6989, .ref 6990, .int 0, .ref 6991, .int 0, .ref 6992, .ref 6993, .int 0, .ref 6994, .ref 6995, .ref 6996, .ref 6997, .ref 6998, .ref 6999, .ref 7000, .ref 7001, .ref 7002, .ref 7003, .ref 7004, .ref 7005, .ref 7006, .ref 7007, .ref 7008, .ref 7009, .ref 7010, .int 0, .long 0, .int 0, .ref 7011, .ref 7012, .ref 7013, .int 0, .ref 7014, .ref 7015, .ref 7016, .int 0, .ref 7017, .ref 7018, .int 0, .ref 7019, .ref 7020, .long 0, .long 0, .int 0, .int 0, .int 0, .int 0, .ref 7021, .ref 7022, .ref 7023, .ref 7024, .ref 7025, .int 0, .ref 7026, .ref 7027, .ref 7028, .ref 7029, .ref 7030, .int 0, .ref 7031, .ref 7032, .ref 7033, .ref 7034, .ref 7035, .int 0, .ref 7036, .int 0, .ref 7037, .ref 7038, .ref 7039, .ref 7040, .ref 7041, .int 0, .ref 7042, .ref 7043, .ref 7044, .int 0, .ref 7045, .ref 7046, .int 0, .ref 7047, .ref 7048, .ref 7049, .ref 7050, .ref 7051, .int 0, .ref 7052, .ref 7053, .ref 7054, .ref 7055, .ref 7056, .int 0, .int 0, .ref 7057, .ref 7058, .ref 7059, .ref 7060, .ref 7061, .ref 7062, .ref 7063, .ref 7064, .ref 7065, .ref 7066, .ref 7067, .ref 7068, .ref 7069, .ref 7070, .ref 7071, .ref 7072, .ref 7073, .ref 7074, .ref 7075, .ref 7076, .ref 7077, .ref 7078, .ref 7079, .long 0, .int 0, .ref 7080, .int 7, .int 1, .int (-1), .int 0, .int 714503744])) :: _) rfl ?_
  refine am_T.stp hN (pc' := 60) rfl ?_
  refine am_T.stp hN rfl ?_
  refine am_T.jt (by first | rfl | decide) ?_
  refine am_T.stp hN (pc' := 68) rfl ?_
  refine am_T.ret rfl ?_
  refine am_T.bck (pc' := 874) (st' := [.int 0]) rfl rfl ?_
  refine am_T.stp hN (pc' := 876) (lv' := [(6, .int 0), (5, .int 0), (4, .int 0), (3, .ref 7081), (2, .ref 6952), (1, .ref 0), (0, .float 200)]) rfl ?_
  refine am_T.stp hN (pc' := 877) rfl ?_
  refine am_T.go hN (vs := [.ref 6952]) (r := []) rfl ?_
  refine am_T.lvq (lv' := [(0, .ref 6952)]) rfl ?_
  refine am_T.stp hN (pc' := 1) rfl ?_
  refine am_T.stp hN (pc' := 4) rfl ?_
  refine am_T.ret rfl ?_
  refine am_T.bck (pc' := 880) (st' := [.int 0]) rfl rfl ?_
  refine am_T.stp hN (pc' := 882) rfl ?_
  refine am_T.stp hN rfl ?_
  refine am_T.jt (by first | rfl | decide) ?_
  refine am_T.stp hN (pc' := 889) rfl ?_
  refine am_T.stp hN rfl ?_
  refine am_T.jf (by first | rfl | decide) ?_
  refine am_T.stp hN (pc' := 893) rfl ?_
  refine am_T.stp hN (pc' := 894) rfl ?_
  refine am_T.stp hN (pc' := 895) (st' := .long 0 :: _) rfl ?_
  refine am_T.stp hN (pc' := 897) rfl ?_
  refine am_T.stp hN (pc' := 898) rfl ?_
  refine am_T.stp hN (pc' := 899) rfl ?_
  refine am_T.stp hN rfl ?_
  refine am_T.jt (by first | rfl | decide) ?_
  refine am_T.stp hN (pc' := 2616) rfl ?_
  refine am_T.stp hN (pc' := 2619) (lv' := [(4, .int 6), (6, .int 0), (5, .int 0), (3, .ref 7081), (2, .ref 6952), (1, .ref 0), (0, .float 200)]) rfl ?_
  refine am_T.stp hN (pc' := 23) rfl ?_
  refine am_T.stp hN (pc' := 25) rfl ?_
  refine am_T.stp hN (pc' := 26) rfl ?_
  refine am_T.stp hN (pc' := 27) rfl ?_
  refine am_T.stp hN (pc' := 29) rfl ?_
  refine am_T.stp hN (pc' := 30) rfl ?_
  refine am_T.stp hN rfl ?_
  refine am_T.jt (by first | rfl | decide) ?_
  refine am_T.stp hN (pc' := 2623) rfl ?_
  refine am_T.ret rfl ?_
  exact pu_fin rfl

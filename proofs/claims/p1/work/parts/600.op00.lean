set_option maxRecDepth 20000 in
set_option maxHeartbeats 40000000 in
theorem pu_op0 (xs : Nat → Int32) (d : Nat) (h : am_H) (hN : 7082 ≤ h.length) : am_T (pu_G xs 6) (d + 20) 452 196 [(4, .int 0), (3, .ref 7081), (2, .ref 6952), (1, .ref 0), (0, .float 200)] [] (am_ov pu_ov0 h) (pu_K h) := by
  refine am_T.stp hN (pc' := 197) rfl ?_
  refine am_T.stp hN (pc' := 198) rfl ?_
  refine am_T.stp hN (pc' := 200) rfl ?_
  refine am_T.stp hN (pc' := 201) rfl ?_
  refine am_T.stp hN (pc' := 202) rfl ?_
  refine am_T.stp hN (pc' := 203) (st' := .int (xs 1) :: _) rfl ?_
  refine am_T.stp hN (pc' := 204) rfl ?_
  refine am_T.stp hN (pc' := 206) rfl ?_
  refine am_T.stp hN (pc' := 207) rfl ?_
  refine am_T.stp hN (pc' := 208) rfl ?_
  refine am_T.stp hN (pc' := 209) (st' := .int (xs 2) :: _) rfl ?_
  refine am_T.stp hN (pc' := 210) rfl ?_
  refine am_T.stp hN (pc' := 212) rfl ?_
  refine am_T.stp hN (pc' := 213) rfl ?_
  refine am_T.stp hN (pc' := 214) rfl ?_
  refine am_T.stp hN (pc' := 215) (st' := .int (xs 3) :: _) rfl ?_
  refine am_T.stp hN (pc' := 216) rfl ?_
  refine am_T.stp hN (pc' := 218) rfl ?_
  refine am_T.stp hN (pc' := 219) rfl ?_
  refine am_T.stp hN (pc' := 220) rfl ?_
  refine am_T.stp hN (pc' := 221) (st' := .int (xs 4) :: _) rfl ?_
  refine am_T.stp hN (pc' := 222) rfl ?_
  refine am_T.stp hN (pc' := 224) rfl ?_
  refine am_T.stp hN (pc' := 225) rfl ?_
  refine am_T.stp hN (pc' := 226) rfl ?_
  refine am_T.stp hN (pc' := 227) (st' := .int (xs 5) :: _) rfl ?_
  refine am_T.stp hN (pc' := 228) rfl ?_
  refine am_T.go hN (vs := [.ref 0, _, _, _, _, _, .ref 7081]) (r := []) rfl ?_
  refine am_T.lvq (lv' := [(0, .ref 0), (1, _), (2, _), (3, _), (4, _), (5, _), (6, .ref 7081)]) rfl ?_
  refine am_T.stp hN (pc' := 2) rfl ?_
  refine am_T.stp hN (pc' := 3) rfl ?_
  refine am_T.stp hN (pc' := 4) rfl ?_
  refine am_T.stp hN (pc' := 5) rfl ?_
  refine am_T.stp hN (pc' := 6) rfl ?_
  refine am_T.stp hN (pc' := 7) rfl ?_
  refine am_T.stp hN (pc' := 9) rfl ?_
  refine am_T.stp hN (pc' := 11) rfl ?_
  refine am_T.go hN (vs := [.ref 0, _, _, _, _, _]) (r := [.int 0, .ref 7081]) rfl ?_
  refine am_T.lvq (lv' := [(0, .ref 0), (1, _), (2, _), (3, _), (4, _), (5, _)]) rfl ?_
  refine am_T.stp hN (pc' := 1) rfl ?_
  refine am_T.go hN (vs := [.ref 0]) (r := []) rfl ?_
  refine am_T.lvq (lv' := [(0, .ref 0)]) rfl ?_
  refine am_T.stp hN (pc' := 1) rfl ?_
  refine am_T.stp hN (pc' := 4) rfl ?_
  refine am_T.stp hN (pc' := 7) rfl ?_
  refine am_T.stp hN rfl ?_
  refine am_T.jt (by first | rfl | decide) ?_
  refine am_T.ret rfl ?_
  refine am_T.bck (pc' := 4) (st' := []) rfl rfl ?_
  refine am_T.stp hN (pc' := 5) rfl ?_
  refine am_T.stp hN (pc' := 8) rfl ?_
  refine am_T.stp hN (pc' := 10) rfl ?_
  refine am_T.stp hN (pc' := 11) rfl ?_
  refine am_T.stp hN (pc' := 14) rfl ?_
  refine am_T.stp hN rfl ?_
  refine am_T.jt (by first | rfl | decide) ?_
  refine am_T.stp hN (pc' := 28) rfl ?_
  refine am_T.stp hN (pc' := 29) rfl ?_
  refine am_T.go hN (vs := [.ref 0, _]) (r := []) rfl ?_
  refine am_T.lvq (lv' := [(0, .ref 0), (1, _)]) rfl ?_
  refine am_T.stp hN (pc' := 2) rfl ?_
  refine am_T.stp hN (pc' := 3) (lv' := [(2, .int 24), (0, .ref 0), (1, _)]) rfl ?_
  refine am_T.stp hN (pc' := 4) rfl ?_
  refine am_T.stp hN rfl ?_
  refine am_T.jf (by first | rfl | decide) ?_
  refine am_T.stp hN (pc' := 8) rfl ?_
  refine am_T.stp hN (pc' := 11) rfl ?_
  refine am_T.stp hN (pc' := 14) rfl ?_
  refine am_T.stp hN rfl ?_
  refine am_T.jf (by first | rfl | decide) ?_
  refine am_T.stp hN (pc' := 18) rfl ?_
  refine am_T.stp hN (pc' := 21) rfl ?_
  refine am_T.stp hN (pc' := 22) rfl ?_
  refine am_T.stp hN (pc' := 25) rfl ?_
  refine am_T.stp hN (pc' := 26) rfl ?_
  refine am_T.stp hN (pc' := 27) rfl ?_
  refine am_T.stp hN (pc' := 28) rfl ?_
  refine am_T.stp hN (pc' := 29) rfl ?_
  refine am_T.stp hN (pc' := 30) rfl ?_
  refine am_T.stp hN (pc' := 31) rfl ?_
  refine am_T.stp hN (pc' := 32) rfl ?_
  refine am_T.stp hN (pc' := 35) rfl ?_
  refine am_T.stp hN (pc' := 36) rfl ?_
  refine am_T.stp hN (pc' := 37) rfl ?_
  refine am_T.stp hN (pc' := 40) (ov' := (0, .inr (11, [.ref 1, .int 1, .ref 2, .ref 7, .ref 13, .ref 23, .ref 28, .ref 29, .ref 30, .ref 76, .ref 202, .ref 328, .ref 414, .ref 540, .ref 666, .ref 931, .ref 1793, .ref 2068, .ref 2070, .int 0])) :: _) rfl ?_
  refine am_T.stp hN (pc' := 43) (lv' := [(2, .int 16), (0, .ref 0), (1, _)]) rfl ?_
  refine am_T.stp hN (pc' := 3) rfl ?_
  refine am_T.stp hN (pc' := 4) rfl ?_
  refine am_T.stp hN rfl ?_
  refine am_T.jf (by first | rfl | decide) ?_
  refine am_T.stp hN (pc' := 8) rfl ?_
  refine am_T.stp hN (pc' := 11) rfl ?_
  refine am_T.stp hN (pc' := 14) rfl ?_
  refine am_T.stp hN rfl ?_
  refine am_T.jf (by first | rfl | decide) ?_
  refine am_T.stp hN (pc' := 18) rfl ?_
  refine am_T.stp hN (pc' := 21) rfl ?_
  refine am_T.stp hN (pc' := 22) rfl ?_
  refine am_T.stp hN (pc' := 25) rfl ?_
  refine am_T.stp hN (pc' := 26) rfl ?_
  refine am_T.stp hN (pc' := 27) rfl ?_
  refine am_T.stp hN (pc' := 28) rfl ?_
  refine am_T.stp hN (pc' := 29) rfl ?_
  refine am_T.stp hN (pc' := 30) rfl ?_
  refine am_T.stp hN (pc' := 31) rfl ?_
  refine am_T.stp hN (pc' := 32) rfl ?_
  refine am_T.stp hN (pc' := 35) rfl ?_
  refine am_T.stp hN (pc' := 36) rfl ?_
  refine am_T.stp hN (pc' := 37) rfl ?_
  refine am_T.stp hN (pc' := 40) (ov' := (0, .inr (11, [.ref 1, .int 2, .ref 2, .ref 7, .ref 13, .ref 23, .ref 28, .ref 29, .ref 30, .ref 76, .ref 202, .ref 328, .ref 414, .ref 540, .ref 666, .ref 931, .ref 1793, .ref 2068, .ref 2070, .int 0])) :: _) rfl ?_
  refine am_T.stp hN (pc' := 43) (lv' := [(2, .int 8), (0, .ref 0), (1, _)]) rfl ?_
  refine am_T.stp hN (pc' := 3) rfl ?_
  refine am_T.stp hN (pc' := 4) rfl ?_
  refine am_T.stp hN rfl ?_
  refine am_T.jf (by first | rfl | decide) ?_
  refine am_T.stp hN (pc' := 8) rfl ?_
  refine am_T.stp hN (pc' := 11) rfl ?_
  refine am_T.stp hN (pc' := 14) rfl ?_
  refine am_T.stp hN rfl ?_
  refine am_T.jf (by first | rfl | decide) ?_
  refine am_T.stp hN (pc' := 18) rfl ?_
  refine am_T.stp hN (pc' := 21) rfl ?_
  refine am_T.stp hN (pc' := 22) rfl ?_
  refine am_T.stp hN (pc' := 25) rfl ?_
  refine am_T.stp hN (pc' := 26) rfl ?_
  refine am_T.stp hN (pc' := 27) rfl ?_
  refine am_T.stp hN (pc' := 28) rfl ?_
  refine am_T.stp hN (pc' := 29) rfl ?_
  refine am_T.stp hN (pc' := 30) rfl ?_
  refine am_T.stp hN (pc' := 31) rfl ?_
  refine am_T.stp hN (pc' := 32) rfl ?_
  refine am_T.stp hN (pc' := 35) rfl ?_
  refine am_T.stp hN (pc' := 36) rfl ?_
  refine am_T.stp hN (pc' := 37) rfl ?_
  refine am_T.stp hN (pc' := 40) (ov' := (0, .inr (11, [.ref 1, .int 3, .ref 2, .ref 7, .ref 13, .ref 23, .ref 28, .ref 29, .ref 30, .ref 76, .ref 202, .ref 328, .ref 414, .ref 540, .ref 666, .ref 931, .ref 1793, .ref 2068, .ref 2070, .int 0])) :: _) rfl ?_
  refine am_T.stp hN (pc' := 43) (lv' := [(2, .int 0), (0, .ref 0), (1, _)]) rfl ?_
  refine am_T.stp hN (pc' := 3) rfl ?_
  refine am_T.stp hN (pc' := 4) rfl ?_
  refine am_T.stp hN rfl ?_
  refine am_T.jf (by first | rfl | decide) ?_
  refine am_T.stp hN (pc' := 8) rfl ?_
  refine am_T.stp hN (pc' := 11) rfl ?_
  refine am_T.stp hN (pc' := 14) rfl ?_
  refine am_T.stp hN rfl ?_
  refine am_T.jf (by first | rfl | decide) ?_
  refine am_T.stp hN (pc' := 18) rfl ?_
  refine am_T.stp hN (pc' := 21) rfl ?_
  refine am_T.stp hN (pc' := 22) rfl ?_
  refine am_T.stp hN (pc' := 25) rfl ?_
  refine am_T.stp hN (pc' := 26) rfl ?_
  refine am_T.stp hN (pc' := 27) rfl ?_
  refine am_T.stp hN (pc' := 28) rfl ?_
  refine am_T.stp hN (pc' := 29) rfl ?_
  refine am_T.stp hN (pc' := 30) rfl ?_
  refine am_T.stp hN (pc' := 31) rfl ?_
  refine am_T.stp hN (pc' := 32) rfl ?_
  refine am_T.stp hN (pc' := 35) rfl ?_
  refine am_T.stp hN (pc' := 36) rfl ?_
  refine am_T.stp hN (pc' := 37) rfl ?_
  refine am_T.stp hN (pc' := 40) (ov' := (0, .inr (11, [.ref 1, .int 4, .ref 2, .ref 7, .ref 13, .ref 23, .ref 28, .ref 29, .ref 30, .ref 76, .ref 202, .ref 328, .ref 414, .ref 540, .ref 666, .ref 931, .ref 1793, .ref 2068, .ref 2070, .int 0])) :: _) rfl ?_
  refine am_T.stp hN (pc' := 43) (lv' := [(2, .int (-8)), (0, .ref 0), (1, _)]) rfl ?_
  refine am_T.stp hN (pc' := 3) rfl ?_
  refine am_T.stp hN (pc' := 4) rfl ?_
  refine am_T.stp hN rfl ?_
  refine am_T.jt (by first | rfl | decide) ?_
  refine am_T.ret rfl ?_
  refine am_T.bck (pc' := 32) (st' := []) rfl rfl ?_
  refine am_T.stp hN (pc' := 33) rfl ?_
  refine am_T.stp hN (pc' := 34) rfl ?_
  refine am_T.go hN (vs := [.ref 0, _]) (r := []) rfl ?_
  refine am_T.lvq (lv' := [(0, .ref 0), (1, _)]) rfl ?_
  refine am_T.stp hN (pc' := 2) rfl ?_
  refine am_T.stp hN (pc' := 3) (lv' := [(2, .int 24), (0, .ref 0), (1, _)]) rfl ?_
  refine am_T.stp hN (pc' := 4) rfl ?_
  refine am_T.stp hN rfl ?_
  refine am_T.jf (by first | rfl | decide) ?_
  refine am_T.stp hN (pc' := 8) rfl ?_
  refine am_T.stp hN (pc' := 11) rfl ?_
  refine am_T.stp hN (pc' := 14) rfl ?_
  refine am_T.stp hN rfl ?_
  refine am_T.jf (by first | rfl | decide) ?_
  refine am_T.stp hN (pc' := 18) rfl ?_
  refine am_T.stp hN (pc' := 21) rfl ?_
  refine am_T.stp hN (pc' := 22) rfl ?_
  refine am_T.stp hN (pc' := 25) rfl ?_
  refine am_T.stp hN (pc' := 26) rfl ?_
  refine am_T.stp hN (pc' := 27) rfl ?_
  refine am_T.stp hN (pc' := 28) rfl ?_
  refine am_T.stp hN (pc' := 29) rfl ?_
  refine am_T.stp hN (pc' := 30) rfl ?_
  refine am_T.stp hN (pc' := 31) rfl ?_
  refine am_T.stp hN (pc' := 32) rfl ?_
  refine am_T.stp hN (pc' := 35) rfl ?_
  refine am_T.stp hN (pc' := 36) rfl ?_
  refine am_T.stp hN (pc' := 37) rfl ?_
  refine am_T.stp hN (pc' := 40) (ov' := (0, .inr (11, [.ref 1, .int 5, .ref 2, .ref 7, .ref 13, .ref 23, .ref 28, .ref 29, .ref 30, .ref 76, .ref 202, .ref 328, .ref 414, .ref 540, .ref 666, .ref 931, .ref 1793, .ref 2068, .ref 2070, .int 0])) :: _) rfl ?_
  refine am_T.stp hN (pc' := 43) (lv' := [(2, .int 16), (0, .ref 0), (1, _)]) rfl ?_
  refine am_T.stp hN (pc' := 3) rfl ?_
  refine am_T.stp hN (pc' := 4) rfl ?_
  refine am_T.stp hN rfl ?_
  refine am_T.jf (by first | rfl | decide) ?_
  refine am_T.stp hN (pc' := 8) rfl ?_
  refine am_T.stp hN (pc' := 11) rfl ?_
  refine am_T.stp hN (pc' := 14) rfl ?_
  refine am_T.stp hN rfl ?_
  refine am_T.jf (by first | rfl | decide) ?_
  refine am_T.stp hN (pc' := 18) rfl ?_
  refine am_T.stp hN (pc' := 21) rfl ?_
  refine am_T.stp hN (pc' := 22) rfl ?_
  refine am_T.stp hN (pc' := 25) rfl ?_
  refine am_T.stp hN (pc' := 26) rfl ?_
  refine am_T.stp hN (pc' := 27) rfl ?_
  refine am_T.stp hN (pc' := 28) rfl ?_
  refine am_T.stp hN (pc' := 29) rfl ?_
  refine am_T.stp hN (pc' := 30) rfl ?_
  refine am_T.stp hN (pc' := 31) rfl ?_
  refine am_T.stp hN (pc' := 32) rfl ?_
  refine am_T.stp hN (pc' := 35) rfl ?_
  refine am_T.stp hN (pc' := 36) rfl ?_
  refine am_T.stp hN (pc' := 37) rfl ?_
  refine am_T.stp hN (pc' := 40) (ov' := (0, .inr (11, [.ref 1, .int 6, .ref 2, .ref 7, .ref 13, .ref 23, .ref 28, .ref 29, .ref 30, .ref 76, .ref 202, .ref 328, .ref 414, .ref 540, .ref 666, .ref 931, .ref 1793, .ref 2068, .ref 2070, .int 0])) :: _) rfl ?_
  refine am_T.stp hN (pc' := 43) (lv' := [(2, .int 8), (0, .ref 0), (1, _)]) rfl ?_
  refine am_T.stp hN (pc' := 3) rfl ?_
  refine am_T.stp hN (pc' := 4) rfl ?_
  refine am_T.stp hN rfl ?_
  refine am_T.jf (by first | rfl | decide) ?_
  refine am_T.stp hN (pc' := 8) rfl ?_
  refine am_T.stp hN (pc' := 11) rfl ?_
  refine am_T.stp hN (pc' := 14) rfl ?_
  refine am_T.stp hN rfl ?_
  refine am_T.jf (by first | rfl | decide) ?_
  refine am_T.stp hN (pc' := 18) rfl ?_
  refine am_T.stp hN (pc' := 21) rfl ?_
  refine am_T.stp hN (pc' := 22) rfl ?_
  refine am_T.stp hN (pc' := 25) rfl ?_
  refine am_T.stp hN (pc' := 26) rfl ?_
  refine am_T.stp hN (pc' := 27) rfl ?_
  refine am_T.stp hN (pc' := 28) rfl ?_
  refine am_T.stp hN (pc' := 29) rfl ?_
  refine am_T.stp hN (pc' := 30) rfl ?_
  refine am_T.stp hN (pc' := 31) rfl ?_
  refine am_T.stp hN (pc' := 32) rfl ?_
  refine am_T.stp hN (pc' := 35) rfl ?_
  refine am_T.stp hN (pc' := 36) rfl ?_
  refine am_T.stp hN (pc' := 37) rfl ?_
  refine am_T.stp hN (pc' := 40) (ov' := (0, .inr (11, [.ref 1, .int 7, .ref 2, .ref 7, .ref 13, .ref 23, .ref 28, .ref 29, .ref 30, .ref 76, .ref 202, .ref 328, .ref 414, .ref 540, .ref 666, .ref 931, .ref 1793, .ref 2068, .ref 2070, .int 0])) :: _) rfl ?_
  refine am_T.stp hN (pc' := 43) (lv' := [(2, .int 0), (0, .ref 0), (1, _)]) rfl ?_
  refine am_T.stp hN (pc' := 3) rfl ?_
  refine am_T.stp hN (pc' := 4) rfl ?_
  refine am_T.stp hN rfl ?_
  refine am_T.jf (by first | rfl | decide) ?_
  refine am_T.stp hN (pc' := 8) rfl ?_
  refine am_T.stp hN (pc' := 11) rfl ?_
  refine am_T.stp hN (pc' := 14) rfl ?_
  refine am_T.stp hN rfl ?_
  refine am_T.jf (by first | rfl | decide) ?_
  refine am_T.stp hN (pc' := 18) rfl ?_
  refine am_T.stp hN (pc' := 21) rfl ?_
  refine am_T.stp hN (pc' := 22) rfl ?_
  refine am_T.stp hN (pc' := 25) rfl ?_
  refine am_T.stp hN (pc' := 26) rfl ?_
  refine am_T.stp hN (pc' := 27) rfl ?_
  refine am_T.stp hN (pc' := 28) rfl ?_
  refine am_T.stp hN (pc' := 29) rfl ?_
  refine am_T.stp hN (pc' := 30) rfl ?_
  refine am_T.stp hN (pc' := 31) rfl ?_
  refine am_T.stp hN (pc' := 32) rfl ?_
  refine am_T.stp hN (pc' := 35) rfl ?_
  refine am_T.stp hN (pc' := 36) rfl ?_
  refine am_T.stp hN (pc' := 37) rfl ?_
  refine am_T.stp hN (pc' := 40) (ov' := (0, .inr (11, [.ref 1, .int 8, .ref 2, .ref 7, .ref 13, .ref 23, .ref 28, .ref 29, .ref 30, .ref 76, .ref 202, .ref 328, .ref 414, .ref 540, .ref 666, .ref 931, .ref 1793, .ref 2068, .ref 2070, .int 0])) :: _) rfl ?_
  refine am_T.stp hN (pc' := 43) (lv' := [(2, .int (-8)), (0, .ref 0), (1, _)]) rfl ?_
  refine am_T.stp hN (pc' := 3) rfl ?_
  refine am_T.stp hN (pc' := 4) rfl ?_
  refine am_T.stp hN rfl ?_
  refine am_T.jt (by first | rfl | decide) ?_
  refine am_T.ret rfl ?_
  refine am_T.bck (pc' := 37) (st' := []) rfl rfl ?_
  refine am_T.stp hN (pc' := 38) rfl ?_
  refine am_T.stp hN (pc' := 39) rfl ?_
  refine am_T.go hN (vs := [.ref 0, _]) (r := []) rfl ?_
  refine am_T.lvq (lv' := [(0, .ref 0), (1, _)]) rfl ?_
  refine am_T.stp hN (pc' := 2) rfl ?_
  refine am_T.stp hN (pc' := 3) (lv' := [(2, .int 24), (0, .ref 0), (1, _)]) rfl ?_
  refine am_T.stp hN (pc' := 4) rfl ?_
  refine am_T.stp hN rfl ?_
  refine am_T.jf (by first | rfl | decide) ?_
  refine am_T.stp hN (pc' := 8) rfl ?_
  refine am_T.stp hN (pc' := 11) rfl ?_
  refine am_T.stp hN (pc' := 14) rfl ?_
  refine am_T.stp hN rfl ?_
  refine am_T.jf (by first | rfl | decide) ?_
  refine am_T.stp hN (pc' := 18) rfl ?_
  refine am_T.stp hN (pc' := 21) rfl ?_
  refine am_T.stp hN (pc' := 22) rfl ?_
  refine am_T.stp hN (pc' := 25) rfl ?_
  refine am_T.stp hN (pc' := 26) rfl ?_
  refine am_T.stp hN (pc' := 27) rfl ?_
  refine am_T.stp hN (pc' := 28) rfl ?_
  refine am_T.stp hN (pc' := 29) rfl ?_
  refine am_T.stp hN (pc' := 30) rfl ?_
  refine am_T.stp hN (pc' := 31) rfl ?_
  refine am_T.stp hN (pc' := 32) rfl ?_
  refine am_T.stp hN (pc' := 35) rfl ?_
  refine am_T.stp hN (pc' := 36) rfl ?_
  refine am_T.stp hN (pc' := 37) rfl ?_
  refine am_T.stp hN (pc' := 40) (ov' := (0, .inr (11, [.ref 1, .int 9, .ref 2, .ref 7, .ref 13, .ref 23, .ref 28, .ref 29, .ref 30, .ref 76, .ref 202, .ref 328, .ref 414, .ref 540, .ref 666, .ref 931, .ref 1793, .ref 2068, .ref 2070, .int 0])) :: _) rfl ?_
  refine am_T.stp hN (pc' := 43) (lv' := [(2, .int 16), (0, .ref 0), (1, _)]) rfl ?_
  refine am_T.stp hN (pc' := 3) rfl ?_
  refine am_T.stp hN (pc' := 4) rfl ?_
  refine am_T.stp hN rfl ?_
  refine am_T.jf (by first | rfl | decide) ?_
  refine am_T.stp hN (pc' := 8) rfl ?_
  refine am_T.stp hN (pc' := 11) rfl ?_
  refine am_T.stp hN (pc' := 14) rfl ?_
  refine am_T.stp hN rfl ?_
  refine am_T.jf (by first | rfl | decide) ?_
  refine am_T.stp hN (pc' := 18) rfl ?_
  refine am_T.stp hN (pc' := 21) rfl ?_
  refine am_T.stp hN (pc' := 22) rfl ?_
  refine am_T.stp hN (pc' := 25) rfl ?_
  refine am_T.stp hN (pc' := 26) rfl ?_
  refine am_T.stp hN (pc' := 27) rfl ?_
  refine am_T.stp hN (pc' := 28) rfl ?_
  refine am_T.stp hN (pc' := 29) rfl ?_
  refine am_T.stp hN (pc' := 30) rfl ?_
  refine am_T.stp hN (pc' := 31) rfl ?_
  refine am_T.stp hN (pc' := 32) rfl ?_
  refine am_T.stp hN (pc' := 35) rfl ?_
  refine am_T.stp hN (pc' := 36) rfl ?_
  refine am_T.stp hN (pc' := 37) rfl ?_
  refine am_T.stp hN (pc' := 40) (ov' := (0, .inr (11, [.ref 1, .int 10, .ref 2, .ref 7, .ref 13, .ref 23, .ref 28, .ref 29, .ref 30, .ref 76, .ref 202, .ref 328, .ref 414, .ref 540, .ref 666, .ref 931, .ref 1793, .ref 2068, .ref 2070, .int 0])) :: _) rfl ?_
  refine am_T.stp hN (pc' := 43) (lv' := [(2, .int 8), (0, .ref 0), (1, _)]) rfl ?_
  refine am_T.stp hN (pc' := 3) rfl ?_
  refine am_T.stp hN (pc' := 4) rfl ?_
  refine am_T.stp hN rfl ?_
  refine am_T.jf (by first | rfl | decide) ?_
  refine am_T.stp hN (pc' := 8) rfl ?_
  refine am_T.stp hN (pc' := 11) rfl ?_
  refine am_T.stp hN (pc' := 14) rfl ?_
  refine am_T.stp hN rfl ?_
  refine am_T.jf (by first | rfl | decide) ?_
  refine am_T.stp hN (pc' := 18) rfl ?_
  refine am_T.stp hN (pc' := 21) rfl ?_
  refine am_T.stp hN (pc' := 22) rfl ?_
  refine am_T.stp hN (pc' := 25) rfl ?_
  refine am_T.stp hN (pc' := 26) rfl ?_
  refine am_T.stp hN (pc' := 27) rfl ?_
  refine am_T.stp hN (pc' := 28) rfl ?_
  refine am_T.stp hN (pc' := 29) rfl ?_
  refine am_T.stp hN (pc' := 30) rfl ?_
  refine am_T.stp hN (pc' := 31) rfl ?_
  refine am_T.stp hN (pc' := 32) rfl ?_
  refine am_T.stp hN (pc' := 35) rfl ?_
  refine am_T.stp hN (pc' := 36) rfl ?_
  refine am_T.stp hN (pc' := 37) rfl ?_
  refine am_T.stp hN (pc' := 40) (ov' := (0, .inr (11, [.ref 1, .int 11, .ref 2, .ref 7, .ref 13, .ref 23, .ref 28, .ref 29, .ref 30, .ref 76, .ref 202, .ref 328, .ref 414, .ref 540, .ref 666, .ref 931, .ref 1793, .ref 2068, .ref 2070, .int 0])) :: _) rfl ?_
  refine am_T.stp hN (pc' := 43) (lv' := [(2, .int 0), (0, .ref 0), (1, _)]) rfl ?_
  refine am_T.stp hN (pc' := 3) rfl ?_
  refine am_T.stp hN (pc' := 4) rfl ?_
  refine am_T.stp hN rfl ?_
  refine am_T.jf (by first | rfl | decide) ?_
  refine am_T.stp hN (pc' := 8) rfl ?_
  refine am_T.stp hN (pc' := 11) rfl ?_
  refine am_T.stp hN (pc' := 14) rfl ?_
  refine am_T.stp hN rfl ?_
  refine am_T.jf (by first | rfl | decide) ?_
  refine am_T.stp hN (pc' := 18) rfl ?_
  refine am_T.stp hN (pc' := 21) rfl ?_
  refine am_T.stp hN (pc' := 22) rfl ?_
  refine am_T.stp hN (pc' := 25) rfl ?_
  refine am_T.stp hN (pc' := 26) rfl ?_
  refine am_T.stp hN (pc' := 27) rfl ?_
  refine am_T.stp hN (pc' := 28) rfl ?_
  refine am_T.stp hN (pc' := 29) rfl ?_
  refine am_T.stp hN (pc' := 30) rfl ?_
  refine am_T.stp hN (pc' := 31) rfl ?_
  refine am_T.stp hN (pc' := 32) rfl ?_
  refine am_T.stp hN (pc' := 35) rfl ?_
  refine am_T.stp hN (pc' := 36) rfl ?_
  refine am_T.stp hN (pc' := 37) rfl ?_
  refine am_T.stp hN (pc' := 40) (ov' := (0, .inr (11, [.ref 1, .int 12, .ref 2, .ref 7, .ref 13, .ref 23, .ref 28, .ref 29, .ref 30, .ref 76, .ref 202, .ref 328, .ref 414, .ref 540, .ref 666, .ref 931, .ref 1793, .ref 2068, .ref 2070, .int 0])) :: _) rfl ?_
  refine am_T.stp hN (pc' := 43) (lv' := [(2, .int (-8)), (0, .ref 0), (1, _)]) rfl ?_
  refine am_T.stp hN (pc' := 3) rfl ?_
  refine am_T.stp hN (pc' := 4) rfl ?_
  refine am_T.stp hN rfl ?_
  refine am_T.jt (by first | rfl | decide) ?_
  refine am_T.ret rfl ?_
  refine am_T.bck (pc' := 42) (st' := []) rfl rfl ?_
  refine am_T.stp hN (pc' := 43) rfl ?_
  refine am_T.stp hN (pc' := 45) rfl ?_
  refine am_T.go hN (vs := [.ref 0, _]) (r := []) rfl ?_
  refine am_T.lvq (lv' := [(0, .ref 0), (1, _)]) rfl ?_
  refine am_T.stp hN (pc' := 2) rfl ?_
  refine am_T.stp hN (pc' := 3) (lv' := [(2, .int 24), (0, .ref 0), (1, _)]) rfl ?_
  refine am_T.stp hN (pc' := 4) rfl ?_
  refine am_T.stp hN rfl ?_
  refine am_T.jf (by first | rfl | decide) ?_
  refine am_T.stp hN (pc' := 8) rfl ?_
  refine am_T.stp hN (pc' := 11) rfl ?_
  refine am_T.stp hN (pc' := 14) rfl ?_
  refine am_T.stp hN rfl ?_
  refine am_T.jf (by first | rfl | decide) ?_
  refine am_T.stp hN (pc' := 18) rfl ?_
  refine am_T.stp hN (pc' := 21) rfl ?_
  refine am_T.stp hN (pc' := 22) rfl ?_
  refine am_T.stp hN (pc' := 25) rfl ?_
  refine am_T.stp hN (pc' := 26) rfl ?_
  refine am_T.stp hN (pc' := 27) rfl ?_
  refine am_T.stp hN (pc' := 28) rfl ?_
  refine am_T.stp hN (pc' := 29) rfl ?_
  refine am_T.stp hN (pc' := 30) rfl ?_
  refine am_T.stp hN (pc' := 31) rfl ?_
  refine am_T.stp hN (pc' := 32) rfl ?_
  refine am_T.stp hN (pc' := 35) rfl ?_
  refine am_T.stp hN (pc' := 36) rfl ?_
  refine am_T.stp hN (pc' := 37) rfl ?_
  refine am_T.stp hN (pc' := 40) (ov' := (0, .inr (11, [.ref 1, .int 13, .ref 2, .ref 7, .ref 13, .ref 23, .ref 28, .ref 29, .ref 30, .ref 76, .ref 202, .ref 328, .ref 414, .ref 540, .ref 666, .ref 931, .ref 1793, .ref 2068, .ref 2070, .int 0])) :: _) rfl ?_
  refine am_T.stp hN (pc' := 43) (lv' := [(2, .int 16), (0, .ref 0), (1, _)]) rfl ?_
  refine am_T.stp hN (pc' := 3) rfl ?_
  refine am_T.stp hN (pc' := 4) rfl ?_
  refine am_T.stp hN rfl ?_
  refine am_T.jf (by first | rfl | decide) ?_
  refine am_T.stp hN (pc' := 8) rfl ?_
  refine am_T.stp hN (pc' := 11) rfl ?_
  refine am_T.stp hN (pc' := 14) rfl ?_
  refine am_T.stp hN rfl ?_
  refine am_T.jf (by first | rfl | decide) ?_
  refine am_T.stp hN (pc' := 18) rfl ?_
  refine am_T.stp hN (pc' := 21) rfl ?_
  refine am_T.stp hN (pc' := 22) rfl ?_
  refine am_T.stp hN (pc' := 25) rfl ?_
  refine am_T.stp hN (pc' := 26) rfl ?_
  refine am_T.stp hN (pc' := 27) rfl ?_
  refine am_T.stp hN (pc' := 28) rfl ?_
  refine am_T.stp hN (pc' := 29) rfl ?_
  refine am_T.stp hN (pc' := 30) rfl ?_
  refine am_T.stp hN (pc' := 31) rfl ?_
  refine am_T.stp hN (pc' := 32) rfl ?_
  refine am_T.stp hN (pc' := 35) rfl ?_
  refine am_T.stp hN (pc' := 36) rfl ?_
  refine am_T.stp hN (pc' := 37) rfl ?_
  refine am_T.stp hN (pc' := 40) (ov' := (0, .inr (11, [.ref 1, .int 14, .ref 2, .ref 7, .ref 13, .ref 23, .ref 28, .ref 29, .ref 30, .ref 76, .ref 202, .ref 328, .ref 414, .ref 540, .ref 666, .ref 931, .ref 1793, .ref 2068, .ref 2070, .int 0])) :: _) rfl ?_
  refine am_T.stp hN (pc' := 43) (lv' := [(2, .int 8), (0, .ref 0), (1, _)]) rfl ?_
  refine am_T.stp hN (pc' := 3) rfl ?_
  refine am_T.stp hN (pc' := 4) rfl ?_
  refine am_T.stp hN rfl ?_
  refine am_T.jf (by first | rfl | decide) ?_
  refine am_T.stp hN (pc' := 8) rfl ?_
  refine am_T.stp hN (pc' := 11) rfl ?_
  refine am_T.stp hN (pc' := 14) rfl ?_
  refine am_T.stp hN rfl ?_
  refine am_T.jf (by first | rfl | decide) ?_
  refine am_T.stp hN (pc' := 18) rfl ?_
  refine am_T.stp hN (pc' := 21) rfl ?_
  refine am_T.stp hN (pc' := 22) rfl ?_
  refine am_T.stp hN (pc' := 25) rfl ?_
  refine am_T.stp hN (pc' := 26) rfl ?_
  refine am_T.stp hN (pc' := 27) rfl ?_
  refine am_T.stp hN (pc' := 28) rfl ?_
  refine am_T.stp hN (pc' := 29) rfl ?_
  refine am_T.stp hN (pc' := 30) rfl ?_
  refine am_T.stp hN (pc' := 31) rfl ?_
  refine am_T.stp hN (pc' := 32) rfl ?_
  refine am_T.stp hN (pc' := 35) rfl ?_
  refine am_T.stp hN (pc' := 36) rfl ?_
  refine am_T.stp hN (pc' := 37) rfl ?_
  refine am_T.stp hN (pc' := 40) (ov' := (0, .inr (11, [.ref 1, .int 15, .ref 2, .ref 7, .ref 13, .ref 23, .ref 28, .ref 29, .ref 30, .ref 76, .ref 202, .ref 328, .ref 414, .ref 540, .ref 666, .ref 931, .ref 1793, .ref 2068, .ref 2070, .int 0])) :: _) rfl ?_
  refine am_T.stp hN (pc' := 43) (lv' := [(2, .int 0), (0, .ref 0), (1, _)]) rfl ?_
  refine am_T.stp hN (pc' := 3) rfl ?_
  refine am_T.stp hN (pc' := 4) rfl ?_
  refine am_T.stp hN rfl ?_
  refine am_T.jf (by first | rfl | decide) ?_
  refine am_T.stp hN (pc' := 8) rfl ?_
  refine am_T.stp hN (pc' := 11) rfl ?_
  refine am_T.stp hN (pc' := 14) rfl ?_
  refine am_T.stp hN rfl ?_
  refine am_T.jf (by first | rfl | decide) ?_
  refine am_T.stp hN (pc' := 18) rfl ?_
  refine am_T.stp hN (pc' := 21) rfl ?_
  refine am_T.stp hN (pc' := 22) rfl ?_
  refine am_T.stp hN (pc' := 25) rfl ?_
  refine am_T.stp hN (pc' := 26) rfl ?_
  refine am_T.stp hN (pc' := 27) rfl ?_
  refine am_T.stp hN (pc' := 28) rfl ?_
  refine am_T.stp hN (pc' := 29) rfl ?_
  refine am_T.stp hN (pc' := 30) rfl ?_
  refine am_T.stp hN (pc' := 31) rfl ?_
  refine am_T.stp hN (pc' := 32) rfl ?_
  refine am_T.stp hN (pc' := 35) rfl ?_
  refine am_T.stp hN (pc' := 36) rfl ?_
  refine am_T.stp hN (pc' := 37) rfl ?_
  refine am_T.stp hN (pc' := 40) (ov' := (0, .inr (11, [.ref 1, .int 16, .ref 2, .ref 7, .ref 13, .ref 23, .ref 28, .ref 29, .ref 30, .ref 76, .ref 202, .ref 328, .ref 414, .ref 540, .ref 666, .ref 931, .ref 1793, .ref 2068, .ref 2070, .int 0])) :: _) rfl ?_
  refine am_T.stp hN (pc' := 43) (lv' := [(2, .int (-8)), (0, .ref 0), (1, _)]) rfl ?_
  refine am_T.stp hN (pc' := 3) rfl ?_
  refine am_T.stp hN (pc' := 4) rfl ?_
  refine am_T.stp hN rfl ?_
  refine am_T.jt (by first | rfl | decide) ?_
  refine am_T.ret rfl ?_
  refine am_T.bck (pc' := 48) (st' := []) rfl rfl ?_
  refine am_T.stp hN (pc' := 49) rfl ?_
  refine am_T.stp hN (pc' := 51) rfl ?_
  refine am_T.go hN (vs := [.ref 0, _]) (r := []) rfl ?_
  refine am_T.lvq (lv' := [(0, .ref 0), (1, _)]) rfl ?_
  refine am_T.stp hN (pc' := 2) rfl ?_
  refine am_T.stp hN (pc' := 3) (lv' := [(2, .int 24), (0, .ref 0), (1, _)]) rfl ?_
  refine am_T.stp hN (pc' := 4) rfl ?_
  refine am_T.stp hN rfl ?_
  refine am_T.jf (by first | rfl | decide) ?_
  refine am_T.stp hN (pc' := 8) rfl ?_
  refine am_T.stp hN (pc' := 11) rfl ?_
  refine am_T.stp hN (pc' := 14) rfl ?_
  refine am_T.stp hN rfl ?_
  refine am_T.jf (by first | rfl | decide) ?_
  refine am_T.stp hN (pc' := 18) rfl ?_
  refine am_T.stp hN (pc' := 21) rfl ?_
  refine am_T.stp hN (pc' := 22) rfl ?_
  refine am_T.stp hN (pc' := 25) rfl ?_
  refine am_T.stp hN (pc' := 26) rfl ?_
  refine am_T.stp hN (pc' := 27) rfl ?_
  refine am_T.stp hN (pc' := 28) rfl ?_
  refine am_T.stp hN (pc' := 29) rfl ?_
  refine am_T.stp hN (pc' := 30) rfl ?_
  refine am_T.stp hN (pc' := 31) rfl ?_
  refine am_T.stp hN (pc' := 32) rfl ?_
  refine am_T.stp hN (pc' := 35) rfl ?_
  refine am_T.stp hN (pc' := 36) rfl ?_
  refine am_T.stp hN (pc' := 37) rfl ?_
  refine am_T.stp hN (pc' := 40) (ov' := (0, .inr (11, [.ref 1, .int 17, .ref 2, .ref 7, .ref 13, .ref 23, .ref 28, .ref 29, .ref 30, .ref 76, .ref 202, .ref 328, .ref 414, .ref 540, .ref 666, .ref 931, .ref 1793, .ref 2068, .ref 2070, .int 0])) :: _) rfl ?_
  refine am_T.stp hN (pc' := 43) (lv' := [(2, .int 16), (0, .ref 0), (1, _)]) rfl ?_
  refine am_T.stp hN (pc' := 3) rfl ?_
  refine am_T.stp hN (pc' := 4) rfl ?_
  refine am_T.stp hN rfl ?_
  refine am_T.jf (by first | rfl | decide) ?_
  refine am_T.stp hN (pc' := 8) rfl ?_
  refine am_T.stp hN (pc' := 11) rfl ?_
  refine am_T.stp hN (pc' := 14) rfl ?_
  refine am_T.stp hN rfl ?_
  refine am_T.jf (by first | rfl | decide) ?_
  refine am_T.stp hN (pc' := 18) rfl ?_
  refine am_T.stp hN (pc' := 21) rfl ?_
  refine am_T.stp hN (pc' := 22) rfl ?_
  refine am_T.stp hN (pc' := 25) rfl ?_
  refine am_T.stp hN (pc' := 26) rfl ?_
  refine am_T.stp hN (pc' := 27) rfl ?_
  refine am_T.stp hN (pc' := 28) rfl ?_
  refine am_T.stp hN (pc' := 29) rfl ?_
  refine am_T.stp hN (pc' := 30) rfl ?_
  refine am_T.stp hN (pc' := 31) rfl ?_
  refine am_T.stp hN (pc' := 32) rfl ?_
  refine am_T.stp hN (pc' := 35) rfl ?_
  refine am_T.stp hN (pc' := 36) rfl ?_
  refine am_T.stp hN (pc' := 37) rfl ?_
  refine am_T.stp hN (pc' := 40) (ov' := (0, .inr (11, [.ref 1, .int 18, .ref 2, .ref 7, .ref 13, .ref 23, .ref 28, .ref 29, .ref 30, .ref 76, .ref 202, .ref 328, .ref 414, .ref 540, .ref 666, .ref 931, .ref 1793, .ref 2068, .ref 2070, .int 0])) :: _) rfl ?_
  refine am_T.stp hN (pc' := 43) (lv' := [(2, .int 8), (0, .ref 0), (1, _)]) rfl ?_
  refine am_T.stp hN (pc' := 3) rfl ?_
  refine am_T.stp hN (pc' := 4) rfl ?_
  refine am_T.stp hN rfl ?_
  refine am_T.jf (by first | rfl | decide) ?_
  refine am_T.stp hN (pc' := 8) rfl ?_
  refine am_T.stp hN (pc' := 11) rfl ?_
  refine am_T.stp hN (pc' := 14) rfl ?_
  refine am_T.stp hN rfl ?_
  refine am_T.jf (by first | rfl | decide) ?_
  refine am_T.stp hN (pc' := 18) rfl ?_
  refine am_T.stp hN (pc' := 21) rfl ?_
  refine am_T.stp hN (pc' := 22) rfl ?_
  refine am_T.stp hN (pc' := 25) rfl ?_
  refine am_T.stp hN (pc' := 26) rfl ?_
  refine am_T.stp hN (pc' := 27) rfl ?_
  refine am_T.stp hN (pc' := 28) rfl ?_
  refine am_T.stp hN (pc' := 29) rfl ?_
  refine am_T.stp hN (pc' := 30) rfl ?_
  refine am_T.stp hN (pc' := 31) rfl ?_
  refine am_T.stp hN (pc' := 32) rfl ?_
  refine am_T.stp hN (pc' := 35) rfl ?_
  refine am_T.stp hN (pc' := 36) rfl ?_
  refine am_T.stp hN (pc' := 37) rfl ?_
  refine am_T.stp hN (pc' := 40) (ov' := (0, .inr (11, [.ref 1, .int 19, .ref 2, .ref 7, .ref 13, .ref 23, .ref 28, .ref 29, .ref 30, .ref 76, .ref 202, .ref 328, .ref 414, .ref 540, .ref 666, .ref 931, .ref 1793, .ref 2068, .ref 2070, .int 0])) :: _) rfl ?_
  refine am_T.stp hN (pc' := 43) (lv' := [(2, .int 0), (0, .ref 0), (1, _)]) rfl ?_
  refine am_T.stp hN (pc' := 3) rfl ?_
  refine am_T.stp hN (pc' := 4) rfl ?_
  refine am_T.stp hN rfl ?_
  refine am_T.jf (by first | rfl | decide) ?_
  refine am_T.stp hN (pc' := 8) rfl ?_
  refine am_T.stp hN (pc' := 11) rfl ?_
  refine am_T.stp hN (pc' := 14) rfl ?_
  refine am_T.stp hN rfl ?_
  refine am_T.jf (by first | rfl | decide) ?_
  refine am_T.stp hN (pc' := 18) rfl ?_
  refine am_T.stp hN (pc' := 21) rfl ?_
  refine am_T.stp hN (pc' := 22) rfl ?_
  refine am_T.stp hN (pc' := 25) rfl ?_
  refine am_T.stp hN (pc' := 26) rfl ?_
  refine am_T.stp hN (pc' := 27) rfl ?_
  refine am_T.stp hN (pc' := 28) rfl ?_
  refine am_T.stp hN (pc' := 29) rfl ?_
  refine am_T.stp hN (pc' := 30) rfl ?_
  refine am_T.stp hN (pc' := 31) rfl ?_
  refine am_T.stp hN (pc' := 32) rfl ?_
  refine am_T.stp hN (pc' := 35) rfl ?_
  refine am_T.stp hN (pc' := 36) rfl ?_
  refine am_T.stp hN (pc' := 37) rfl ?_
  refine am_T.stp hN (pc' := 40) (ov' := (0, .inr (11, [.ref 1, .int 20, .ref 2, .ref 7, .ref 13, .ref 23, .ref 28, .ref 29, .ref 30, .ref 76, .ref 202, .ref 328, .ref 414, .ref 540, .ref 666, .ref 931, .ref 1793, .ref 2068, .ref 2070, .int 0])) :: _) rfl ?_
  refine am_T.stp hN (pc' := 43) (lv' := [(2, .int (-8)), (0, .ref 0), (1, _)]) rfl ?_
  refine am_T.stp hN (pc' := 3) rfl ?_
  refine am_T.stp hN (pc' := 4) rfl ?_
  refine am_T.stp hN rfl ?_
  refine am_T.jt (by first | rfl | decide) ?_
  refine am_T.ret rfl ?_
  refine am_T.bck (pc' := 54) (st' := []) rfl rfl ?_
  refine am_T.stp hN (pc' := 55) rfl ?_
  refine am_T.stp hN (pc' := 58) rfl ?_
  refine am_T.ret rfl ?_
  refine am_T.bck (pc' := 14) (st' := [.int 20, .int 0, .ref 7081]) rfl rfl ?_
  refine am_T.stp hN (pc' := 15) rfl ?_
  refine am_T.stp hN (pc' := 16) rfl ?_
  refine am_T.stp hN (pc' := 27) rfl ?_
  refine am_T.stp hN (pc' := 28) rfl ?_
  refine am_T.ret rfl ?_
  refine am_T.bck (pc' := 231) (st' := [.int 0]) rfl rfl ?_
  refine am_T.stp hN (pc' := 233) (lv' := [(5, .int 0), (4, .int 0), (3, .ref 7081), (2, .ref 6952), (1, .ref 0), (0, .float 200)]) rfl ?_
  refine am_T.stp hN (pc' := 234) rfl ?_
  refine am_T.stp hN (pc' := 235) rfl ?_
  refine am_T.stp hN (pc' := 237) rfl ?_
  refine am_T.stp hN (pc' := 238) rfl ?_
  refine am_T.stp hN (pc' := 239) rfl ?_
  refine am_T.stp hN (pc' := 240) (st' := .int (xs 1) :: _) rfl ?_
  refine am_T.stp hN (pc' := 241) rfl ?_
  refine am_T.stp hN (pc' := 243) rfl ?_
  refine am_T.stp hN (pc' := 244) rfl ?_
  refine am_T.stp hN (pc' := 245) rfl ?_
  refine am_T.stp hN (pc' := 246) (st' := .int (xs 2) :: _) rfl ?_
  refine am_T.stp hN (pc' := 247) rfl ?_
  refine am_T.stp hN (pc' := 249) rfl ?_
  refine am_T.stp hN (pc' := 250) rfl ?_
  refine am_T.stp hN (pc' := 251) rfl ?_
  refine am_T.stp hN (pc' := 252) (st' := .int (xs 3) :: _) rfl ?_
  refine am_T.stp hN (pc' := 253) rfl ?_
  refine am_T.stp hN (pc' := 255) rfl ?_
  refine am_T.stp hN (pc' := 256) rfl ?_
  refine am_T.stp hN (pc' := 257) rfl ?_
  refine am_T.stp hN (pc' := 258) (st' := .int (xs 4) :: _) rfl ?_
  refine am_T.stp hN (pc' := 259) rfl ?_
  refine am_T.stp hN (pc' := 261) rfl ?_
  refine am_T.stp hN (pc' := 262) rfl ?_
  refine am_T.stp hN (pc' := 263) rfl ?_
  refine am_T.stp hN (pc' := 264) (st' := .int (xs 5) :: _) rfl ?_
  refine am_T.go hN (vs := [.ref 6952, _, _, _, _, _]) (r := []) rfl ?_
  refine am_T.lvq (lv' := [(0, .ref 6952), (1, _), (2, _), (3, _), (4, _), (5, _)]) rfl ?_
  refine am_T.stp hN (pc' := 1) rfl ?_
  refine am_T.stp hN (pc' := 2) rfl ?_
  refine am_T.stp hN (pc' := 3) rfl ?_
  refine am_T.stp hN (pc' := 4) rfl ?_
  refine am_T.stp hN (pc' := 7) rfl ?_
  refine am_T.stp hN (pc' := 9) rfl ?_
  refine am_T.stp hN (pc' := 10) rfl ?_
  refine am_T.stp hN (pc' := 13) rfl ?_
  refine am_T.stp hN rfl ?_
  refine am_T.jf (by first | rfl | decide) ?_
  refine am_T.stp hN (pc' := 17) rfl ?_
  refine am_T.stp hN (pc' := 21) rfl ?_
  refine am_T.stp hN (pc' := 22) rfl ?_
  refine am_T.go hN (vs := [.ref 6952, .int 1, .int 1, .int 1, .int 1]) (r := []) rfl ?_
  refine am_T.lvq (lv' := [(0, .ref 6952), (1, .int 1), (2, .int 1), (3, .int 1), (4, .int 1)]) rfl ?_
  refine am_T.stp hN (pc' := 1) rfl ?_
  refine am_T.stp hN (pc' := 2) rfl ?_
  refine am_T.stp hN (pc' := 5) rfl ?_
  refine am_T.stp hN rfl ?_
  refine am_T.jt (by first | rfl | decide) ?_
  refine am_T.stp hN (pc' := 13) rfl ?_
  refine am_T.stp hN rfl ?_
  refine am_T.jt (by first | rfl | decide) ?_
  refine am_T.stp hN (pc' := 21) rfl ?_
  refine am_T.stp hN rfl ?_
  refine am_T.jt (by first | rfl | decide) ?_
  refine am_T.stp hN (pc' := 30) rfl ?_
  refine am_T.stp hN rfl ?_
  refine am_T.jt (by first | rfl | decide) ?_
  refine am_T.stp hN (pc' := 38) rfl ?_
  refine am_T.stp hN (pc' := 41) (ov' := (6952, .inr (12, [.int 0, .ref 6953, .int 0, .ref 6954, .int 0, .ref 6955, .int 0, .int 0, .int 0, .ref 6956, .ref 6957, .ref 6958, .ref 6959, .int 0, .int 0, .int 0, .int 0, .int 0, .long 0, .int (-1), .int (-1), .ref 6960, .ref 6961, .ref 6962, .ref 6963, .ref 6964, .ref 6965, .ref 6966, .ref 6967, .ref 6968, .ref 6969, .ref 6970, .ref 6971, .ref 6972, .ref 6973, .ref 6974, .int 0, .int 0, .int 0, .int 0, .int 0, .ref 6975, .ref 6976, .ref 6977, .ref 6978, .int 0, .int 0, .ref 6979, .ref 6980, .ref 6981, .ref 6982, .ref 6983, .ref 6984, .ref 6985, .ref 6986, .ref 6987, .ref 6988, .int 0, .ref 6989, .ref 6990, .int 0, .ref 6991, .int 0, .ref 6992, .ref 6993, .int 0, .ref 6994, .ref 6995, .ref 6996, .ref 6997, .ref 6998, .ref 6999, .ref 7000, .ref 7001, .ref 7002, .ref 7003, .ref 7004, .ref 7005, .ref 7006, .ref 7007, .ref 7008, .ref 7009, .ref 7010, .int 0, .long 0, .int 0, .ref 7011, .ref 7012, .ref 7013, .int 0, .ref 7014, .ref 7015, .ref 7016, .int 0, .ref 7017, .ref 7018, .int 0, .ref 7019, .ref 7020, .long 0, .long 0, .int 0, .int 0, .int 0, .int 0, .ref 7021, .ref 7022, .ref 7023, .ref 7024, .ref 7025, .int 0, .ref 7026, .ref 7027, .ref 7028, .ref 7029, .ref 7030, .int 0, .ref 7031, .ref 7032, .ref 7033, .ref 7034, .ref 7035, .int 0, .ref 7036, .int 0, .ref 7037, .ref 7038, .ref 7039, .ref 7040, .ref 7041, .int 0, .ref 7042, .ref 7043, .ref 7044, .int 0, .ref 7045, .ref 7046, .int 0, .ref 7047, .ref 7048, .ref 7049, .ref 7050, .ref 7051, .int 0, .ref 7052, .ref 7053, .ref 7054, .ref 7055, .ref 7056, .int 0, .int 0, .ref 7057, .ref 7058, .ref 7059, .ref 7060, .ref 7061, .ref 7062, .ref 7063, .ref 7064, .ref 7065, .ref 7066, .ref 7067, .ref 7068, .ref 7069, .ref 7070, .ref 7071, .ref 7072, .ref 7073, .ref 7074, .ref 7075, .ref 7076, .ref 7077, .ref 7078, .ref 7079, .long 0, .int 0, .ref 7080, .int 0, .int 0, .int (-1), .int 0, .int 0])) :: _) rfl ?_
  refine am_T.stp hN (pc' := 42) rfl ?_
  refine am_T.stp hN (pc' := 45) rfl ?_
  refine am_T.stp hN rfl ?_
  refine am_T.jf (by first | rfl | decide) ?_
  refine am_T.stp hN (pc' := 49) rfl ?_
  refine am_T.stp hN (pc' := 53) rfl ?_
  refine am_T.ret rfl ?_
  refine am_T.bck (pc' := 25) (st' := [.int 1]) rfl rfl ?_
  refine am_T.stp hN rfl ?_
  refine am_T.jt (by first | rfl | decide) ?_
  refine am_T.stp hN (pc' := 31) rfl ?_
  refine am_T.stp hN (pc' := 33) (lv' := [(6, .int 0), (0, .ref 6952), (1, _), (2, _), (3, _), (4, _), (5, _)]) rfl ?_
  refine am_T.stp hN (pc' := 35) rfl ?_
  refine am_T.stp hN (pc' := 37) rfl ?_
  refine am_T.stp hN rfl ?_
  refine am_T.jf (by first | rfl | decide) ?_
  refine am_T.stp hN (pc' := 42) rfl ?_
  refine am_T.stp hN (pc' := 43) rfl ?_
  refine am_T.stp hN rfl ?_
  refine am_T.jf (by first | rfl | decide) ?_
  refine am_T.stp hN (pc' := 47) rfl ?_
  refine am_T.stp hN (pc' := 86) rfl ?_
  refine am_T.stp hN (pc' := 88) (lv' := [(7, _), (6, .int 0), (0, .ref 6952), (1, _), (2, _), (3, _), (4, _), (5, _)]) rfl ?_
  refine am_T.stp hN (pc' := 89) rfl ?_
  refine am_T.stp hN (pc' := 92) rfl ?_
  refine am_T.stp hN (pc' := 93) rfl ?_
  refine am_T.stp hN (pc' := 96) rfl ?_
  refine am_T.stp hN (pc' := 98) rfl ?_
  refine am_T.stp hN (pc' := 100) rfl ?_
  refine am_T.stp hN (pc' := 102) rfl ?_
  refine am_T.stp hN (pc' := 104) rfl ?_
  refine am_T.stp hN (pc' := 105) rfl ?_
  refine am_T.stp hN (pc' := 106) rfl ?_
  refine am_T.stp hN (pc' := 107) rfl ?_
  refine am_T.stp hN (pc' := 108) rfl ?_
  refine am_T.stp hN (pc' := 109) rfl ?_
  refine am_T.stp hN (pc' := 112) rfl ?_
  refine am_T.stp hN (pc' := 113) rfl ?_
  refine am_T.stp hN (pc' := 114) rfl ?_
  refine am_T.stp hN (pc' := 115) rfl ?_
  refine am_T.stp hN (pc' := 116) rfl ?_
  refine am_T.stp hN (pc' := 119) rfl ?_
  refine am_T.stp hN (pc' := 120) rfl ?_
  refine am_T.stp hN (pc' := 121) rfl ?_
  refine am_T.stp hN (pc' := 124) (ov' := (6952, .inr (12, [.int 0, .ref 6953, .int 1, .ref 6954, .int 0, .ref 6955, .int 0, .int 0, .int 0, .ref 6956, .ref 6957, .ref 6958, .ref 6959, .int 0, .int 0, .int 0, .int 0, .int 0, .long 0, .int (-1), .int (-1), .ref 6960, .ref 6961, .ref 6962, .ref 6963, .ref 6964, .ref 6965, .ref 6966, .ref 6967, .ref 6968, .ref 6969, .ref 6970, .ref 6971, .ref 6972, .ref 6973, .ref 6974, .int 0, .int 0, .int 0, .int 0, .int 0, .ref 6975, .ref 6976, .ref 6977, .ref 6978, .int 0, .int 0, .ref 6979, .ref 6980, .ref 6981, .ref 6982, .ref 6983, .ref 6984, .ref 6985, .ref 6986, .ref 6987, .ref 6988, .int 0, .ref 6989, .ref 6990, .int 0, .ref 6991, .int 0, .ref 6992, .ref 6993, .int 0, .ref 6994, .ref 6995, .ref 6996, .ref 6997, .ref 6998, .ref 6999, .ref 7000, .ref 7001, .ref 7002, .ref 7003, .ref 7004, .ref 7005, .ref 7006, .ref 7007, .ref 7008, .ref 7009, .ref 7010, .int 0, .long 0, .int 0, .ref 7011, .ref 7012, .ref 7013, .int 0, .ref 7014, .ref 7015, .ref 7016, .int 0, .ref 7017, .ref 7018, .int 0, .ref 7019, .ref 7020, .long 0, .long 0, .int 0, .int 0, .int 0, .int 0, .ref 7021, .ref 7022, .ref 7023, .ref 7024, .ref 7025, .int 0, .ref 7026, .ref 7027, .ref 7028, .ref 7029, .ref 7030, .int 0, .ref 7031, .ref 7032, .ref 7033, .ref 7034, .ref 7035, .int 0, .ref 7036, .int 0, .ref 7037, .ref 7038, .ref 7039, .ref 7040, .ref 7041, .int 0, .ref 7042, .ref 7043, .ref 7044, .int 0, .ref 7045, .ref 7046, .int 0, .ref 7047, .ref 7048, .ref 7049, .ref 7050, .ref 7051, .int 0, .ref 7052, .ref 7053, .ref 7054, .ref 7055, .ref 7056, .int 0, .int 0, .ref 7057, .ref 7058, .ref 7059, .ref 7060, .ref 7061, .ref 7062, .ref 7063, .ref 7064, .ref 7065, .ref 7066, .ref 7067, .ref 7068, .ref 7069, .ref 7070, .ref 7071, .ref 7072, .ref 7073, .ref 7074, .ref 7075, .ref 7076, .ref 7077, .ref 7078, .ref 7079, .long 0, .int 0, .ref 7080, .int 0, .int 0, .int (-1), .int 0, .int 0])) :: _) rfl ?_
  refine am_T.stp hN (pc' := 127) (lv' := [(6, .int 1), (7, _), (0, .ref 6952), (1, _), (2, _), (3, _), (4, _), (5, _)]) rfl ?_
  refine am_T.stp hN (pc' := 33) rfl ?_
  refine am_T.stp hN (pc' := 35) rfl ?_
  refine am_T.stp hN (pc' := 37) rfl ?_
  refine am_T.stp hN rfl ?_
  refine am_T.jf (by first | rfl | decide) ?_
  refine am_T.stp hN (pc' := 42) rfl ?_
  refine am_T.stp hN (pc' := 43) rfl ?_
  refine am_T.stp hN rfl ?_
  refine am_T.jf (by first | rfl | decide) ?_
  refine am_T.stp hN (pc' := 47) rfl ?_
  refine am_T.stp hN (pc' := 86) rfl ?_
  refine am_T.stp hN (pc' := 88) (lv' := [(7, _), (6, .int 1), (0, .ref 6952), (1, _), (2, _), (3, _), (4, _), (5, _)]) rfl ?_
  refine am_T.stp hN (pc' := 89) rfl ?_
  refine am_T.stp hN (pc' := 92) rfl ?_
  refine am_T.stp hN (pc' := 93) rfl ?_
  refine am_T.stp hN (pc' := 96) rfl ?_
  refine am_T.stp hN (pc' := 98) rfl ?_
  refine am_T.stp hN (pc' := 100) rfl ?_
  refine am_T.stp hN (pc' := 102) rfl ?_
  refine am_T.stp hN (pc' := 104) rfl ?_
  refine am_T.stp hN (pc' := 105) rfl ?_
  refine am_T.stp hN (pc' := 106) rfl ?_
  refine am_T.stp hN (pc' := 107) rfl ?_
  refine am_T.stp hN (pc' := 108) rfl ?_
  refine am_T.stp hN (pc' := 109) rfl ?_
  refine am_T.stp hN (pc' := 112) rfl ?_
  refine am_T.stp hN (pc' := 113) rfl ?_
  refine am_T.stp hN (pc' := 114) rfl ?_
  refine am_T.stp hN (pc' := 115) rfl ?_
  refine am_T.stp hN (pc' := 116) rfl ?_
  refine am_T.stp hN (pc' := 119) rfl ?_
  refine am_T.stp hN (pc' := 120) rfl ?_
  refine am_T.stp hN (pc' := 121) rfl ?_
  refine am_T.stp hN (pc' := 124) (ov' := (6952, .inr (12, [.int 0, .ref 6953, .int 2, .ref 6954, .int 0, .ref 6955, .int 0, .int 0, .int 0, .ref 6956, .ref 6957, .ref 6958, .ref 6959, .int 0, .int 0, .int 0, .int 0, .int 0, .long 0, .int (-1), .int (-1), .ref 6960, .ref 6961, .ref 6962, .ref 6963, .ref 6964, .ref 6965, .ref 6966, .ref 6967, .ref 6968, .ref 6969, .ref 6970, .ref 6971, .ref 6972, .ref 6973, .ref 6974, .int 0, .int 0, .int 0, .int 0, .int 0, .ref 6975, .ref 6976, .ref 6977, .ref 6978, .int 0, .int 0, .ref 6979, .ref 6980, .ref 6981, .ref 6982, .ref 6983, .ref 6984, .ref 6985, .ref 6986, .ref 6987, .ref 6988, .int 0, .ref 6989, .ref 6990, .int 0, .ref 6991, .int 0, .ref 6992, .ref 6993, .int 0, .ref 6994, .ref 6995, .ref 6996, .ref 6997, .ref 6998, .ref 6999, .ref 7000, .ref 7001, .ref 7002, .ref 7003, .ref 7004, .ref 7005, .ref 7006, .ref 7007, .ref 7008, .ref 7009, .ref 7010, .int 0, .long 0, .int 0, .ref 7011, .ref 7012, .ref 7013, .int 0, .ref 7014, .ref 7015, .ref 7016, .int 0, .ref 7017, .ref 7018, .int 0, .ref 7019, .ref 7020, .long 0, .long 0, .int 0, .int 0, .int 0, .int 0, .ref 7021, .ref 7022, .ref 7023, .ref 7024, .ref 7025, .int 0, .ref 7026, .ref 7027, .ref 7028, .ref 7029, .ref 7030, .int 0, .ref 7031, .ref 7032, .ref 7033, .ref 7034, .ref 7035, .int 0, .ref 7036, .int 0, .ref 7037, .ref 7038, .ref 7039, .ref 7040, .ref 7041, .int 0, .ref 7042, .ref 7043, .ref 7044, .int 0, .ref 7045, .ref 7046, .int 0, .ref 7047, .ref 7048, .ref 7049, .ref 7050, .ref 7051, .int 0, .ref 7052, .ref 7053, .ref 7054, .ref 7055, .ref 7056, .int 0, .int 0, .ref 7057, .ref 7058, .ref 7059, .ref 7060, .ref 7061, .ref 7062, .ref 7063, .ref 7064, .ref 7065, .ref 7066, .ref 7067, .ref 7068, .ref 7069, .ref 7070, .ref 7071, .ref 7072, .ref 7073, .ref 7074, .ref 7075, .ref 7076, .ref 7077, .ref 7078, .ref 7079, .long 0, .int 0, .ref 7080, .int 0, .int 0, .int (-1), .int 0, .int 0])) :: _) rfl ?_
  refine am_T.stp hN (pc' := 127) (lv' := [(6, .int 2), (7, _), (0, .ref 6952), (1, _), (2, _), (3, _), (4, _), (5, _)]) rfl ?_
  refine am_T.stp hN (pc' := 33) rfl ?_
  refine am_T.stp hN (pc' := 35) rfl ?_
  refine am_T.stp hN (pc' := 37) rfl ?_
  refine am_T.stp hN rfl ?_
  refine am_T.jf (by first | rfl | decide) ?_
  refine am_T.stp hN (pc' := 42) rfl ?_
  refine am_T.stp hN (pc' := 43) rfl ?_
  refine am_T.stp hN rfl ?_
  refine am_T.jf (by first | rfl | decide) ?_
  refine am_T.stp hN (pc' := 47) rfl ?_
  refine am_T.stp hN (pc' := 86) rfl ?_
  refine am_T.stp hN (pc' := 88) (lv' := [(7, _), (6, .int 2), (0, .ref 6952), (1, _), (2, _), (3, _), (4, _), (5, _)]) rfl ?_
  refine am_T.stp hN (pc' := 89) rfl ?_
  refine am_T.stp hN (pc' := 92) rfl ?_
  refine am_T.stp hN (pc' := 93) rfl ?_
  refine am_T.stp hN (pc' := 96) rfl ?_
  refine am_T.stp hN (pc' := 98) rfl ?_
  refine am_T.stp hN (pc' := 100) rfl ?_
  refine am_T.stp hN (pc' := 102) rfl ?_
  refine am_T.stp hN (pc' := 104) rfl ?_
  refine am_T.stp hN (pc' := 105) rfl ?_
  refine am_T.stp hN (pc' := 106) rfl ?_
  refine am_T.stp hN (pc' := 107) rfl ?_
  refine am_T.stp hN (pc' := 108) rfl ?_
  refine am_T.stp hN (pc' := 109) rfl ?_
  refine am_T.stp hN (pc' := 112) rfl ?_
  refine am_T.stp hN (pc' := 113) rfl ?_
  refine am_T.stp hN (pc' := 114) rfl ?_
  refine am_T.stp hN (pc' := 115) rfl ?_
  refine am_T.stp hN (pc' := 116) rfl ?_
  refine am_T.stp hN (pc' := 119) rfl ?_
  refine am_T.stp hN (pc' := 120) rfl ?_
  refine am_T.stp hN (pc' := 121) rfl ?_
  refine am_T.stp hN (pc' := 124) (ov' := (6952, .inr (12, [.int 0, .ref 6953, .int 3, .ref 6954, .int 0, .ref 6955, .int 0, .int 0, .int 0, .ref 6956, .ref 6957, .ref 6958, .ref 6959, .int 0, .int 0, .int 0, .int 0, .int 0, .long 0, .int (-1), .int (-1), .ref 6960, .ref 6961, .ref 6962, .ref 6963, .ref 6964, .ref 6965, .ref 6966, .ref 6967, .ref 6968, .ref 6969, .ref 6970, .ref 6971, .ref 6972, .ref 6973, .ref 6974, .int 0, .int 0, .int 0, .int 0, .int 0, .ref 6975, .ref 6976, .ref 6977, .ref 6978, .int 0, .int 0, .ref 6979, .ref 6980, .ref 6981, .ref 6982, .ref 6983, .ref 6984, .ref 6985, .ref 6986, .ref 6987, .ref 6988, .int 0, .ref 6989, .ref 6990, .int 0, .ref 6991, .int 0, .ref 6992, .ref 6993, .int 0, .ref 6994, .ref 6995, .ref 6996, .ref 6997, .ref 6998, .ref 6999, .ref 7000, .ref 7001, .ref 7002, .ref 7003, .ref 7004, .ref 7005, .ref 7006, .ref 7007, .ref 7008, .ref 7009, .ref 7010, .int 0, .long 0, .int 0, .ref 7011, .ref 7012, .ref 7013, .int 0, .ref 7014, .ref 7015, .ref 7016, .int 0, .ref 7017, .ref 7018, .int 0, .ref 7019, .ref 7020, .long 0, .long 0, .int 0, .int 0, .int 0, .int 0, .ref 7021, .ref 7022, .ref 7023, .ref 7024, .ref 7025, .int 0, .ref 7026, .ref 7027, .ref 7028, .ref 7029, .ref 7030, .int 0, .ref 7031, .ref 7032, .ref 7033, .ref 7034, .ref 7035, .int 0, .ref 7036, .int 0, .ref 7037, .ref 7038, .ref 7039, .ref 7040, .ref 7041, .int 0, .ref 7042, .ref 7043, .ref 7044, .int 0, .ref 7045, .ref 7046, .int 0, .ref 7047, .ref 7048, .ref 7049, .ref 7050, .ref 7051, .int 0, .ref 7052, .ref 7053, .ref 7054, .ref 7055, .ref 7056, .int 0, .int 0, .ref 7057, .ref 7058, .ref 7059, .ref 7060, .ref 7061, .ref 7062, .ref 7063, .ref 7064, .ref 7065, .ref 7066, .ref 7067, .ref 7068, .ref 7069, .ref 7070, .ref 7071, .ref 7072, .ref 7073, .ref 7074, .ref 7075, .ref 7076, .ref 7077, .ref 7078, .ref 7079, .long 0, .int 0, .ref 7080, .int 0, .int 0, .int (-1), .int 0, .int 0])) :: _) rfl ?_
  refine am_T.stp hN (pc' := 127) (lv' := [(6, .int 3), (7, _), (0, .ref 6952), (1, _), (2, _), (3, _), (4, _), (5, _)]) rfl ?_
  refine am_T.stp hN (pc' := 33) rfl ?_
  refine am_T.stp hN (pc' := 35) rfl ?_
  refine am_T.stp hN (pc' := 37) rfl ?_
  refine am_T.stp hN rfl ?_
  refine am_T.jf (by first | rfl | decide) ?_
  refine am_T.stp hN (pc' := 42) rfl ?_
  refine am_T.stp hN (pc' := 43) rfl ?_
  refine am_T.stp hN rfl ?_
  refine am_T.jf (by first | rfl | decide) ?_
  refine am_T.stp hN (pc' := 47) rfl ?_
  refine am_T.stp hN (pc' := 86) rfl ?_
  refine am_T.stp hN (pc' := 88) (lv' := [(7, _), (6, .int 3), (0, .ref 6952), (1, _), (2, _), (3, _), (4, _), (5, _)]) rfl ?_
  refine am_T.stp hN (pc' := 89) rfl ?_
  refine am_T.stp hN (pc' := 92) rfl ?_
  refine am_T.stp hN (pc' := 93) rfl ?_
  refine am_T.stp hN (pc' := 96) rfl ?_
  refine am_T.stp hN (pc' := 98) rfl ?_
  refine am_T.stp hN (pc' := 100) rfl ?_
  refine am_T.stp hN (pc' := 102) rfl ?_
  refine am_T.stp hN (pc' := 104) rfl ?_
  refine am_T.stp hN (pc' := 105) rfl ?_
  refine am_T.stp hN (pc' := 106) rfl ?_
  refine am_T.stp hN (pc' := 107) rfl ?_
  refine am_T.stp hN (pc' := 108) rfl ?_
  refine am_T.stp hN (pc' := 109) rfl ?_
  refine am_T.stp hN (pc' := 112) rfl ?_
  refine am_T.stp hN (pc' := 113) rfl ?_
  refine am_T.stp hN (pc' := 114) rfl ?_
  refine am_T.stp hN (pc' := 115) rfl ?_
  refine am_T.stp hN (pc' := 116) rfl ?_
  refine am_T.stp hN (pc' := 119) rfl ?_
  refine am_T.stp hN (pc' := 120) rfl ?_
  refine am_T.stp hN (pc' := 121) rfl ?_
  refine am_T.stp hN (pc' := 124) (ov' := (6952, .inr (12, [.int 0, .ref 6953, .int 4, .ref 6954, .int 0, .ref 6955, .int 0, .int 0, .int 0, .ref 6956, .ref 6957, .ref 6958, .ref 6959, .int 0, .int 0, .int 0, .int 0, .int 0, .long 0, .int (-1), .int (-1), .ref 6960, .ref 6961, .ref 6962, .ref 6963, .ref 6964, .ref 6965, .ref 6966, .ref 6967, .ref 6968, .ref 6969, .ref 6970, .ref 6971, .ref 6972, .ref 6973, .ref 6974, .int 0, .int 0, .int 0, .int 0, .int 0, .ref 6975, .ref 6976, .ref 6977, .ref 6978, .int 0, .int 0, .ref 6979, .ref 6980, .ref 6981, .ref 6982, .ref 6983, .ref 6984, .ref 6985, .ref 6986, .ref 6987, .ref 6988, .int 0, .ref 6989, .ref 6990, .int 0, .ref 6991, .int 0, .ref 6992, .ref 6993, .int 0, .ref 6994, .ref 6995, .ref 6996, .ref 6997, .ref 6998, .ref 6999, .ref 7000, .ref 7001, .ref 7002, .ref 7003, .ref 7004, .ref 7005, .ref 7006, .ref 7007, .ref 7008, .ref 7009, .ref 7010, .int 0, .long 0, .int 0, .ref 7011, .ref 7012, .ref 7013, .int 0, .ref 7014, .ref 7015, .ref 7016, .int 0, .ref 7017, .ref 7018, .int 0, .ref 7019, .ref 7020, .long 0, .long 0, .int 0, .int 0, .int 0, .int 0, .ref 7021, .ref 7022, .ref 7023, .ref 7024, .ref 7025, .int 0, .ref 7026, .ref 7027, .ref 7028, .ref 7029, .ref 7030, .int 0, .ref 7031, .ref 7032, .ref 7033, .ref 7034, .ref 7035, .int 0, .ref 7036, .int 0, .ref 7037, .ref 7038, .ref 7039, .ref 7040, .ref 7041, .int 0, .ref 7042, .ref 7043, .ref 7044, .int 0, .ref 7045, .ref 7046, .int 0, .ref 7047, .ref 7048, .ref 7049, .ref 7050, .ref 7051, .int 0, .ref 7052, .ref 7053, .ref 7054, .ref 7055, .ref 7056, .int 0, .int 0, .ref 7057, .ref 7058, .ref 7059, .ref 7060, .ref 7061, .ref 7062, .ref 7063, .ref 7064, .ref 7065, .ref 7066, .ref 7067, .ref 7068, .ref 7069, .ref 7070, .ref 7071, .ref 7072, .ref 7073, .ref 7074, .ref 7075, .ref 7076, .ref 7077, .ref 7078, .ref 7079, .long 0, .int 0, .ref 7080, .int 0, .int 0, .int (-1), .int 0, .int 0])) :: _) rfl ?_
  refine am_T.stp hN (pc' := 127) (lv' := [(6, .int 4), (7, _), (0, .ref 6952), (1, _), (2, _), (3, _), (4, _), (5, _)]) rfl ?_
  refine am_T.stp hN (pc' := 33) rfl ?_
  refine am_T.stp hN (pc' := 35) rfl ?_
  refine am_T.stp hN (pc' := 37) rfl ?_
  refine am_T.stp hN rfl ?_
  refine am_T.jf (by first | rfl | decide) ?_
  refine am_T.stp hN (pc' := 42) rfl ?_
  refine am_T.stp hN (pc' := 43) rfl ?_
  refine am_T.stp hN rfl ?_
  refine am_T.jt (by first | rfl | decide) ?_
  refine am_T.stp hN (pc' := 52) rfl ?_
  refine am_T.stp hN (pc' := 54) rfl ?_
  refine am_T.stp hN rfl ?_
  refine am_T.jf (by first | rfl | decide) ?_
  refine am_T.stp hN (pc' := 58) rfl ?_
  refine am_T.stp hN (pc' := 86) rfl ?_
  refine am_T.stp hN (pc' := 88) (lv' := [(7, _), (6, .int 4), (0, .ref 6952), (1, _), (2, _), (3, _), (4, _), (5, _)]) rfl ?_
  refine am_T.stp hN (pc' := 89) rfl ?_
  refine am_T.stp hN (pc' := 92) rfl ?_
  refine am_T.stp hN (pc' := 93) rfl ?_
  refine am_T.stp hN (pc' := 96) rfl ?_
  refine am_T.stp hN (pc' := 98) rfl ?_
  refine am_T.stp hN (pc' := 100) rfl ?_
  refine am_T.stp hN (pc' := 102) rfl ?_
  refine am_T.stp hN (pc' := 104) rfl ?_
  refine am_T.stp hN (pc' := 105) rfl ?_
  refine am_T.stp hN (pc' := 106) rfl ?_
  refine am_T.stp hN (pc' := 107) rfl ?_
  refine am_T.stp hN (pc' := 108) rfl ?_
  refine am_T.stp hN (pc' := 109) rfl ?_
  refine am_T.stp hN (pc' := 112) rfl ?_
  refine am_T.stp hN (pc' := 113) rfl ?_
  refine am_T.stp hN (pc' := 114) rfl ?_
  refine am_T.stp hN (pc' := 115) rfl ?_
  refine am_T.stp hN (pc' := 116) rfl ?_
  refine am_T.stp hN (pc' := 119) rfl ?_
  refine am_T.stp hN (pc' := 120) rfl ?_
  refine am_T.stp hN (pc' := 121) rfl ?_
  refine am_T.stp hN (pc' := 124) (ov' := (6952, .inr (12, [.int 0, .ref 6953, .int 5, .ref 6954, .int 0, .ref 6955, .int 0, .int 0, .int 0, .ref 6956, .ref 6957, .ref 6958, .ref 6959, .int 0, .int 0, .int 0, .int 0, .int 0, .long 0, .int (-1), .int (-1), .ref 6960, .ref 6961, .ref 6962, .ref 6963, .ref 6964, .ref 6965, .ref 6966, .ref 6967, .ref 6968, .ref 6969, .ref 6970, .ref 6971, .ref 6972, .ref 6973, .ref 6974, .int 0, .int 0, .int 0, .int 0, .int 0, .ref 6975, .ref 6976, .ref 6977, .ref 6978, .int 0, .int 0, .ref 6979, .ref 6980, .ref 6981, .ref 6982, .ref 6983, .ref 6984, .ref 6985, .ref 6986, .ref 6987, .ref 6988, .int 0, .ref 6989, .ref 6990, .int 0, .ref 6991, .int 0, .ref 6992, .ref 6993, .int 0, .ref 6994, .ref 6995, .ref 6996, .ref 6997, .ref 6998, .ref 6999, .ref 7000, .ref 7001, .ref 7002, .ref 7003, .ref 7004, .ref 7005, .ref 7006, .ref 7007, .ref 7008, .ref 7009, .ref 7010, .int 0, .long 0, .int 0, .ref 7011, .ref 7012, .ref 7013, .int 0, .ref 7014, .ref 7015, .ref 7016, .int 0, .ref 7017, .ref 7018, .int 0, .ref 7019, .ref 7020, .long 0, .long 0, .int 0, .int 0, .int 0, .int 0, .ref 7021, .ref 7022, .ref 7023, .ref 7024, .ref 7025, .int 0, .ref 7026, .ref 7027, .ref 7028, .ref 7029, .ref 7030, .int 0, .ref 7031, .ref 7032, .ref 7033, .ref 7034, .ref 7035, .int 0, .ref 7036, .int 0, .ref 7037, .ref 7038, .ref 7039, .ref 7040, .ref 7041, .int 0, .ref 7042, .ref 7043, .ref 7044, .int 0, .ref 7045, .ref 7046, .int 0, .ref 7047, .ref 7048, .ref 7049, .ref 7050, .ref 7051, .int 0, .ref 7052, .ref 7053, .ref 7054, .ref 7055, .ref 7056, .int 0, .int 0, .ref 7057, .ref 7058, .ref 7059, .ref 7060, .ref 7061, .ref 7062, .ref 7063, .ref 7064, .ref 7065, .ref 7066, .ref 7067, .ref 7068, .ref 7069, .ref 7070, .ref 7071, .ref 7072, .ref 7073, .ref 7074, .ref 7075, .ref 7076, .ref 7077, .ref 7078, .ref 7079, .long 0, .int 0, .ref 7080, .int 0, .int 0, .int (-1), .int 0, .int 0])) :: _) rfl ?_
  refine am_T.stp hN (pc' := 127) (lv' := [(6, .int 5), (7, _), (0, .ref 6952), (1, _), (2, _), (3, _), (4, _), (5, _)]) rfl ?_
  refine am_T.stp hN (pc' := 33) rfl ?_
  refine am_T.stp hN (pc' := 35) rfl ?_
  refine am_T.stp hN (pc' := 37) rfl ?_
  refine am_T.stp hN rfl ?_
  refine am_T.jf (by first | rfl | decide) ?_
  refine am_T.stp hN (pc' := 42) rfl ?_
  refine am_T.stp hN (pc' := 43) rfl ?_
  refine am_T.stp hN rfl ?_
  refine am_T.jt (by first | rfl | decide) ?_
  refine am_T.stp hN (pc' := 52) rfl ?_
  refine am_T.stp hN (pc' := 54) rfl ?_
  refine am_T.stp hN rfl ?_
  refine am_T.jf (by first | rfl | decide) ?_
  refine am_T.stp hN (pc' := 58) rfl ?_
  refine am_T.stp hN (pc' := 86) rfl ?_
  refine am_T.stp hN (pc' := 88) (lv' := [(7, _), (6, .int 5), (0, .ref 6952), (1, _), (2, _), (3, _), (4, _), (5, _)]) rfl ?_
  refine am_T.stp hN (pc' := 89) rfl ?_
  refine am_T.stp hN (pc' := 92) rfl ?_
  refine am_T.stp hN (pc' := 93) rfl ?_
  refine am_T.stp hN (pc' := 96) rfl ?_
  refine am_T.stp hN (pc' := 98) rfl ?_
  refine am_T.stp hN (pc' := 100) rfl ?_
  refine am_T.stp hN (pc' := 102) rfl ?_
  refine am_T.stp hN (pc' := 104) rfl ?_
  refine am_T.stp hN (pc' := 105) rfl ?_
  refine am_T.stp hN (pc' := 106) rfl ?_
  refine am_T.stp hN (pc' := 107) rfl ?_
  refine am_T.stp hN (pc' := 108) rfl ?_
  refine am_T.stp hN (pc' := 109) rfl ?_
  refine am_T.stp hN (pc' := 112) rfl ?_
  refine am_T.stp hN (pc' := 113) rfl ?_
  refine am_T.stp hN (pc' := 114) rfl ?_
  refine am_T.stp hN (pc' := 115) rfl ?_
  refine am_T.stp hN (pc' := 116) rfl ?_
  refine am_T.stp hN (pc' := 119) rfl ?_
  refine am_T.stp hN (pc' := 120) rfl ?_
  refine am_T.stp hN (pc' := 121) rfl ?_
  refine am_T.stp hN (pc' := 124) (ov' := (6952, .inr (12, [.int 0, .ref 6953, .int 6, .ref 6954, .int 0, .ref 6955, .int 0, .int 0, .int 0, .ref 6956, .ref 6957, .ref 6958, .ref 6959, .int 0, .int 0, .int 0, .int 0, .int 0, .long 0, .int (-1), .int (-1), .ref 6960, .ref 6961, .ref 6962, .ref 6963, .ref 6964, .ref 6965, .ref 6966, .ref 6967, .ref 6968, .ref 6969, .ref 6970, .ref 6971, .ref 6972, .ref 6973, .ref 6974, .int 0, .int 0, .int 0, .int 0, .int 0, .ref 6975, .ref 6976, .ref 6977, .ref 6978, .int 0, .int 0, .ref 6979, .ref 6980, .ref 6981, .ref 6982, .ref 6983, .ref 6984, .ref 6985, .ref 6986, .ref 6987, .ref 6988, .int 0, .ref 6989, .ref 6990, .int 0, .ref 6991, .int 0, .ref 6992, .ref 6993, .int 0, .ref 6994, .ref 6995, .ref 6996, .ref 6997, .ref 6998, .ref 6999, .ref 7000, .ref 7001, .ref 7002, .ref 7003, .ref 7004, .ref 7005, .ref 7006, .ref 7007, .ref 7008, .ref 7009, .ref 7010, .int 0, .long 0, .int 0, .ref 7011, .ref 7012, .ref 7013, .int 0, .ref 7014, .ref 7015, .ref 7016, .int 0, .ref 7017, .ref 7018, .int 0, .ref 7019, .ref 7020, .long 0, .long 0, .int 0, .int 0, .int 0, .int 0, .ref 7021, .ref 7022, .ref 7023, .ref 7024, .ref 7025, .int 0, .ref 7026, .ref 7027, .ref 7028, .ref 7029, .ref 7030, .int 0, .ref 7031, .ref 7032, .ref 7033, .ref 7034, .ref 7035, .int 0, .ref 7036, .int 0, .ref 7037, .ref 7038, .ref 7039, .ref 7040, .ref 7041, .int 0, .ref 7042, .ref 7043, .ref 7044, .int 0, .ref 7045, .ref 7046, .int 0, .ref 7047, .ref 7048, .ref 7049, .ref 7050, .ref 7051, .int 0, .ref 7052, .ref 7053, .ref 7054, .ref 7055, .ref 7056, .int 0, .int 0, .ref 7057, .ref 7058, .ref 7059, .ref 7060, .ref 7061, .ref 7062, .ref 7063, .ref 7064, .ref 7065, .ref 7066, .ref 7067, .ref 7068, .ref 7069, .ref 7070, .ref 7071, .ref 7072, .ref 7073, .ref 7074, .ref 7075, .ref 7076, .ref 7077, .ref 7078, .ref 7079, .long 0, .int 0, .ref 7080, .int 0, .int 0, .int (-1), .int 0, .int 0])) :: _) rfl ?_
  refine am_T.stp hN (pc' := 127) (lv' := [(6, .int 6), (7, _), (0, .ref 6952), (1, _), (2, _), (3, _), (4, _), (5, _)]) rfl ?_
  refine am_T.stp hN (pc' := 33) rfl ?_
  refine am_T.stp hN (pc' := 35) rfl ?_
  refine am_T.stp hN (pc' := 37) rfl ?_
  refine am_T.stp hN rfl ?_
  refine am_T.jf (by first | rfl | decide) ?_
  refine am_T.stp hN (pc' := 42) rfl ?_
  refine am_T.stp hN (pc' := 43) rfl ?_
  refine am_T.stp hN rfl ?_
  refine am_T.jt (by first | rfl | decide) ?_
  refine am_T.stp hN (pc' := 52) rfl ?_
  refine am_T.stp hN (pc' := 54) rfl ?_
  refine am_T.stp hN rfl ?_
  refine am_T.jf (by first | rfl | decide) ?_
  refine am_T.stp hN (pc' := 58) rfl ?_
  refine am_T.stp hN (pc' := 86) rfl ?_
  refine am_T.stp hN (pc' := 88) (lv' := [(7, _), (6, .int 6), (0, .ref 6952), (1, _), (2, _), (3, _), (4, _), (5, _)]) rfl ?_
  refine am_T.stp hN (pc' := 89) rfl ?_
  refine am_T.stp hN (pc' := 92) rfl ?_
  refine am_T.stp hN (pc' := 93) rfl ?_
  refine am_T.stp hN (pc' := 96) rfl ?_
  refine am_T.stp hN (pc' := 98) rfl ?_
  refine am_T.stp hN (pc' := 100) rfl ?_
  refine am_T.stp hN (pc' := 102) rfl ?_
  refine am_T.stp hN (pc' := 104) rfl ?_
  refine am_T.stp hN (pc' := 105) rfl ?_
  refine am_T.stp hN (pc' := 106) rfl ?_
  refine am_T.stp hN (pc' := 107) rfl ?_
  refine am_T.stp hN (pc' := 108) rfl ?_
  refine am_T.stp hN (pc' := 109) rfl ?_
  refine am_T.stp hN (pc' := 112) rfl ?_
  refine am_T.stp hN (pc' := 113) rfl ?_
  refine am_T.stp hN (pc' := 114) rfl ?_
  refine am_T.stp hN (pc' := 115) rfl ?_
  refine am_T.stp hN (pc' := 116) rfl ?_
  refine am_T.stp hN (pc' := 119) rfl ?_
  refine am_T.stp hN (pc' := 120) rfl ?_
  refine am_T.stp hN (pc' := 121) rfl ?_
  refine am_T.stp hN (pc' := 124) (ov' := (6952, .inr (12, [.int 0, .ref 6953, .int 7, .ref 6954, .int 0, .ref 6955, .int 0, .int 0, .int 0, .ref 6956, .ref 6957, .ref 6958, .ref 6959, .int 0, .int 0, .int 0, .int 0, .int 0, .long 0, .int (-1), .int (-1), .ref 6960, .ref 6961, .ref 6962, .ref 6963, .ref 6964, .ref 6965, .ref 6966, .ref 6967, .ref 6968, .ref 6969, .ref 6970, .ref 6971, .ref 6972, .ref 6973, .ref 6974, .int 0, .int 0, .int 0, .int 0, .int 0, .ref 6975, .ref 6976, .ref 6977, .ref 6978, .int 0, .int 0, .ref 6979, .ref 6980, .ref 6981, .ref 6982, .ref 6983, .ref 6984, .ref 6985, .ref 6986, .ref 6987, .ref 6988, .int 0, .ref 6989, .ref 6990, .int 0, .ref 6991, .int 0, .ref 6992, .ref 6993, .int 0, .ref 6994, .ref 6995, .ref 6996, .ref 6997, .ref 6998, .ref 6999, .ref 7000, .ref 7001, .ref 7002, .ref 7003, .ref 7004, .ref 7005, .ref 7006, .ref 7007, .ref 7008, .ref 7009, .ref 7010, .int 0, .long 0, .int 0, .ref 7011, .ref 7012, .ref 7013, .int 0, .ref 7014, .ref 7015, .ref 7016, .int 0, .ref 7017, .ref 7018, .int 0, .ref 7019, .ref 7020, .long 0, .long 0, .int 0, .int 0, .int 0, .int 0, .ref 7021, .ref 7022, .ref 7023, .ref 7024, .ref 7025, .int 0, .ref 7026, .ref 7027, .ref 7028, .ref 7029, .ref 7030, .int 0, .ref 7031, .ref 7032, .ref 7033, .ref 7034, .ref 7035, .int 0, .ref 7036, .int 0, .ref 7037, .ref 7038, .ref 7039, .ref 7040, .ref 7041, .int 0, .ref 7042, .ref 7043, .ref 7044, .int 0, .ref 7045, .ref 7046, .int 0, .ref 7047, .ref 7048, .ref 7049, .ref 7050, .ref 7051, .int 0, .ref 7052, .ref 7053, .ref 7054, .ref 7055, .ref 7056, .int 0, .int 0, .ref 7057, .ref 7058, .ref 7059, .ref 7060, .ref 7061, .ref 7062, .ref 7063, .ref 7064, .ref 7065, .ref 7066, .ref 7067, .ref 7068, .ref 7069, .ref 7070, .ref 7071, .ref 7072, .ref 7073, .ref 7074, .ref 7075, .ref 7076, .ref 7077, .ref 7078, .ref 7079, .long 0, .int 0, .ref 7080, .int 0, .int 0, .int (-1), .int 0, .int 0])) :: _) rfl ?_
  refine am_T.stp hN (pc' := 127) (lv' := [(6, .int 7), (7, _), (0, .ref 6952), (1, _), (2, _), (3, _), (4, _), (5, _)]) rfl ?_
  refine am_T.stp hN (pc' := 33) rfl ?_
  refine am_T.stp hN (pc' := 35) rfl ?_
  refine am_T.stp hN (pc' := 37) rfl ?_
  refine am_T.stp hN rfl ?_
  refine am_T.jf (by first | rfl | decide) ?_
  refine am_T.stp hN (pc' := 42) rfl ?_
  refine am_T.stp hN (pc' := 43) rfl ?_
  refine am_T.stp hN rfl ?_
  refine am_T.jt (by first | rfl | decide) ?_
  refine am_T.stp hN (pc' := 52) rfl ?_
  refine am_T.stp hN (pc' := 54) rfl ?_
  refine am_T.stp hN rfl ?_
  refine am_T.jf (by first | rfl | decide) ?_
  refine am_T.stp hN (pc' := 58) rfl ?_
  refine am_T.stp hN (pc' := 86) rfl ?_
  refine am_T.stp hN (pc' := 88) (lv' := [(7, _), (6, .int 7), (0, .ref 6952), (1, _), (2, _), (3, _), (4, _), (5, _)]) rfl ?_
  refine am_T.stp hN (pc' := 89) rfl ?_
  refine am_T.stp hN (pc' := 92) rfl ?_
  refine am_T.stp hN (pc' := 93) rfl ?_
  refine am_T.stp hN (pc' := 96) rfl ?_
  refine am_T.stp hN (pc' := 98) rfl ?_
  refine am_T.stp hN (pc' := 100) rfl ?_
  refine am_T.stp hN (pc' := 102) rfl ?_
  refine am_T.stp hN (pc' := 104) rfl ?_
  refine am_T.stp hN (pc' := 105) rfl ?_
  refine am_T.stp hN (pc' := 106) rfl ?_
  refine am_T.stp hN (pc' := 107) rfl ?_
  refine am_T.stp hN (pc' := 108) rfl ?_
  refine am_T.stp hN (pc' := 109) rfl ?_
  refine am_T.stp hN (pc' := 112) rfl ?_
  refine am_T.stp hN (pc' := 113) rfl ?_
  refine am_T.stp hN (pc' := 114) rfl ?_
  refine am_T.stp hN (pc' := 115) rfl ?_
  refine am_T.stp hN (pc' := 116) rfl ?_
  refine am_T.stp hN (pc' := 119) rfl ?_
  refine am_T.stp hN (pc' := 120) rfl ?_
  refine am_T.stp hN (pc' := 121) rfl ?_
  refine am_T.stp hN (pc' := 124) (ov' := (6952, .inr (12, [.int 0, .ref 6953, .int 8, .ref 6954, .int 0, .ref 6955, .int 0, .int 0, .int 0, .ref 6956, .ref 6957, .ref 6958, .ref 6959, .int 0, .int 0, .int 0, .int 0, .int 0, .long 0, .int (-1), .int (-1), .ref 6960, .ref 6961, .ref 6962, .ref 6963, .ref 6964, .ref 6965, .ref 6966, .ref 6967, .ref 6968, .ref 6969, .ref 6970, .ref 6971, .ref 6972, .ref 6973, .ref 6974, .int 0, .int 0, .int 0, .int 0, .int 0, .ref 6975, .ref 6976, .ref 6977, .ref 6978, .int 0, .int 0, .ref 6979, .ref 6980, .ref 6981, .ref 6982, .ref 6983, .ref 6984, .ref 6985, .ref 6986, .ref 6987, .ref 6988, .int 0, .ref 6989, .ref 6990, .int 0, .ref 6991, .int 0, .ref 6992, .ref 6993, .int 0, .ref 6994, .ref 6995, .ref 6996, .ref 6997, .ref 6998, .ref 6999, .ref 7000, .ref 7001, .ref 7002, .ref 7003, .ref 7004, .ref 7005, .ref 7006, .ref 7007, .ref 7008, .ref 7009, .ref 7010, .int 0, .long 0, .int 0, .ref 7011, .ref 7012, .ref 7013, .int 0, .ref 7014, .ref 7015, .ref 7016, .int 0, .ref 7017, .ref 7018, .int 0, .ref 7019, .ref 7020, .long 0, .long 0, .int 0, .int 0, .int 0, .int 0, .ref 7021, .ref 7022, .ref 7023, .ref 7024, .ref 7025, .int 0, .ref 7026, .ref 7027, .ref 7028, .ref 7029, .ref 7030, .int 0, .ref 7031, .ref 7032, .ref 7033, .ref 7034, .ref 7035, .int 0, .ref 7036, .int 0, .ref 7037, .ref 7038, .ref 7039, .ref 7040, .ref 7041, .int 0, .ref 7042, .ref 7043, .ref 7044, .int 0, .ref 7045, .ref 7046, .int 0, .ref 7047, .ref 7048, .ref 7049, .ref 7050, .ref 7051, .int 0, .ref 7052, .ref 7053, .ref 7054, .ref 7055, .ref 7056, .int 0, .int 0, .ref 7057, .ref 7058, .ref 7059, .ref 7060, .ref 7061, .ref 7062, .ref 7063, .ref 7064, .ref 7065, .ref 7066, .ref 7067, .ref 7068, .ref 7069, .ref 7070, .ref 7071, .ref 7072, .ref 7073, .ref 7074, .ref 7075, .ref 7076, .ref 7077, .ref 7078, .ref 7079, .long 0, .int 0, .ref 7080, .int 0, .int 0, .int (-1), .int 0, .int 0])) :: _) rfl ?_
  refine am_T.stp hN (pc' := 127) (lv' := [(6, .int 8), (7, _), (0, .ref 6952), (1, _), (2, _), (3, _), (4, _), (5, _)]) rfl ?_
  refine am_T.stp hN (pc' := 33) rfl ?_
  refine am_T.stp hN (pc' := 35) rfl ?_
  refine am_T.stp hN (pc' := 37) rfl ?_
  refine am_T.stp hN rfl ?_
  refine am_T.jf (by first | rfl | decide) ?_
  refine am_T.stp hN (pc' := 42) rfl ?_
  refine am_T.stp hN (pc' := 43) rfl ?_
  refine am_T.stp hN rfl ?_
  refine am_T.jt (by first | rfl | decide) ?_
  refine am_T.stp hN (pc' := 52) rfl ?_
  refine am_T.stp hN (pc' := 54) rfl ?_
  refine am_T.stp hN rfl ?_
  refine am_T.jt (by first | rfl | decide) ?_
  refine am_T.stp hN (pc' := 63) rfl ?_
  refine am_T.stp hN (pc' := 65) rfl ?_
  refine am_T.stp hN rfl ?_
  refine am_T.jf (by first | rfl | decide) ?_
  refine am_T.stp hN (pc' := 69) rfl ?_
  refine am_T.stp hN (pc' := 86) rfl ?_
  refine am_T.stp hN (pc' := 88) (lv' := [(7, _), (6, .int 8), (0, .ref 6952), (1, _), (2, _), (3, _), (4, _), (5, _)]) rfl ?_
  refine am_T.stp hN (pc' := 89) rfl ?_
  refine am_T.stp hN (pc' := 92) rfl ?_
  refine am_T.stp hN (pc' := 93) rfl ?_
  refine am_T.stp hN (pc' := 96) rfl ?_
  refine am_T.stp hN (pc' := 98) rfl ?_
  refine am_T.stp hN (pc' := 100) rfl ?_
  refine am_T.stp hN (pc' := 102) rfl ?_
  refine am_T.stp hN (pc' := 104) rfl ?_
  refine am_T.stp hN (pc' := 105) rfl ?_
  refine am_T.stp hN (pc' := 106) rfl ?_
  refine am_T.stp hN (pc' := 107) rfl ?_
  refine am_T.stp hN (pc' := 108) rfl ?_
  refine am_T.stp hN (pc' := 109) rfl ?_
  refine am_T.stp hN (pc' := 112) rfl ?_
  refine am_T.stp hN (pc' := 113) rfl ?_
  refine am_T.stp hN (pc' := 114) rfl ?_
  refine am_T.stp hN (pc' := 115) rfl ?_
  refine am_T.stp hN (pc' := 116) rfl ?_
  refine am_T.stp hN (pc' := 119) rfl ?_
  refine am_T.stp hN (pc' := 120) rfl ?_
  refine am_T.stp hN (pc' := 121) rfl ?_
  refine am_T.stp hN (pc' := 124) (ov' := (6952, .inr (12, [.int 0, .ref 6953, .int 9, .ref 6954, .int 0, .ref 6955, .int 0, .int 0, .int 0, .ref 6956, .ref 6957, .ref 6958, .ref 6959, .int 0, .int 0, .int 0, .int 0, .int 0, .long 0, .int (-1), .int (-1), .ref 6960, .ref 6961, .ref 6962, .ref 6963, .ref 6964, .ref 6965, .ref 6966, .ref 6967, .ref 6968, .ref 6969, .ref 6970, .ref 6971, .ref 6972, .ref 6973, .ref 6974, .int 0, .int 0, .int 0, .int 0, .int 0, .ref 6975, .ref 6976, .ref 6977, .ref 6978, .int 0, .int 0, .ref 6979, .ref 6980, .ref 6981, .ref 6982, .ref 6983, .ref 6984, .ref 6985, .ref 6986, .ref 6987, .ref 6988, .int 0, .ref 6989, .ref 6990, .int 0, .ref 6991, .int 0, .ref 6992, .ref 6993, .int 0, .ref 6994, .ref 6995, .ref 6996, .ref 6997, .ref 6998, .ref 6999, .ref 7000, .ref 7001, .ref 7002, .ref 7003, .ref 7004, .ref 7005, .ref 7006, .ref 7007, .ref 7008, .ref 7009, .ref 7010, .int 0, .long 0, .int 0, .ref 7011, .ref 7012, .ref 7013, .int 0, .ref 7014, .ref 7015, .ref 7016, .int 0, .ref 7017, .ref 7018, .int 0, .ref 7019, .ref 7020, .long 0, .long 0, .int 0, .int 0, .int 0, .int 0, .ref 7021, .ref 7022, .ref 7023, .ref 7024, .ref 7025, .int 0, .ref 7026, .ref 7027, .ref 7028, .ref 7029, .ref 7030, .int 0, .ref 7031, .ref 7032, .ref 7033, .ref 7034, .ref 7035, .int 0, .ref 7036, .int 0, .ref 7037, .ref 7038, .ref 7039, .ref 7040, .ref 7041, .int 0, .ref 7042, .ref 7043, .ref 7044, .int 0, .ref 7045, .ref 7046, .int 0, .ref 7047, .ref 7048, .ref 7049, .ref 7050, .ref 7051, .int 0, .ref 7052, .ref 7053, .ref 7054, .ref 7055, .ref 7056, .int 0, .int 0, .ref 7057, .ref 7058, .ref 7059, .ref 7060, .ref 7061, .ref 7062, .ref 7063, .ref 7064, .ref 7065, .ref 7066, .ref 7067, .ref 7068, .ref 7069, .ref 7070, .ref 7071, .ref 7072, .ref 7073, .ref 7074, .ref 7075, .ref 7076, .ref 7077, .ref 7078, .ref 7079, .long 0, .int 0, .ref 7080, .int 0, .int 0, .int (-1), .int 0, .int 0])) :: _) rfl ?_
  refine am_T.stp hN (pc' := 127) (lv' := [(6, .int 9), (7, _), (0, .ref 6952), (1, _), (2, _), (3, _), (4, _), (5, _)]) rfl ?_
  refine am_T.stp hN (pc' := 33) rfl ?_
  refine am_T.stp hN (pc' := 35) rfl ?_
  refine am_T.stp hN (pc' := 37) rfl ?_
  refine am_T.stp hN rfl ?_
  refine am_T.jf (by first | rfl | decide) ?_
  refine am_T.stp hN (pc' := 42) rfl ?_
  refine am_T.stp hN (pc' := 43) rfl ?_
  refine am_T.stp hN rfl ?_
  refine am_T.jt (by first | rfl | decide) ?_
  refine am_T.stp hN (pc' := 52) rfl ?_
  refine am_T.stp hN (pc' := 54) rfl ?_
  refine am_T.stp hN rfl ?_
  refine am_T.jt (by first | rfl | decide) ?_
  refine am_T.stp hN (pc' := 63) rfl ?_
  refine am_T.stp hN (pc' := 65) rfl ?_
  refine am_T.stp hN rfl ?_
  refine am_T.jf (by first | rfl | decide) ?_
  refine am_T.stp hN (pc' := 69) rfl ?_
  refine am_T.stp hN (pc' := 86) rfl ?_
  refine am_T.stp hN (pc' := 88) (lv' := [(7, _), (6, .int 9), (0, .ref 6952), (1, _), (2, _), (3, _), (4, _), (5, _)]) rfl ?_
  refine am_T.stp hN (pc' := 89) rfl ?_
  refine am_T.stp hN (pc' := 92) rfl ?_
  refine am_T.stp hN (pc' := 93) rfl ?_
  refine am_T.stp hN (pc' := 96) rfl ?_
  refine am_T.stp hN (pc' := 98) rfl ?_
  refine am_T.stp hN (pc' := 100) rfl ?_
  refine am_T.stp hN (pc' := 102) rfl ?_
  refine am_T.stp hN (pc' := 104) rfl ?_
  refine am_T.stp hN (pc' := 105) rfl ?_
  refine am_T.stp hN (pc' := 106) rfl ?_
  refine am_T.stp hN (pc' := 107) rfl ?_
  refine am_T.stp hN (pc' := 108) rfl ?_
  refine am_T.stp hN (pc' := 109) rfl ?_
  refine am_T.stp hN (pc' := 112) rfl ?_
  refine am_T.stp hN (pc' := 113) rfl ?_
  refine am_T.stp hN (pc' := 114) rfl ?_
  refine am_T.stp hN (pc' := 115) rfl ?_
  refine am_T.stp hN (pc' := 116) rfl ?_
  refine am_T.stp hN (pc' := 119) rfl ?_
  refine am_T.stp hN (pc' := 120) rfl ?_
  refine am_T.stp hN (pc' := 121) rfl ?_
  refine am_T.stp hN (pc' := 124) (ov' := (6952, .inr (12, [.int 0, .ref 6953, .int 10, .ref 6954, .int 0, .ref 6955, .int 0, .int 0, .int 0, .ref 6956, .ref 6957, .ref 6958, .ref 6959, .int 0, .int 0, .int 0, .int 0, .int 0, .long 0, .int (-1), .int (-1), .ref 6960, .ref 6961, .ref 6962, .ref 6963, .ref 6964, .ref 6965, .ref 6966, .ref 6967, .ref 6968, .ref 6969, .ref 6970, .ref 6971, .ref 6972, .ref 6973, .ref 6974, .int 0, .int 0, .int 0, .int 0, .int 0, .ref 6975, .ref 6976, .ref 6977, .ref 6978, .int 0, .int 0, .ref 6979, .ref 6980, .ref 6981, .ref 6982, .ref 6983, .ref 6984, .ref 6985, .ref 6986, .ref 6987, .ref 6988, .int 0, .ref 6989, .ref 6990, .int 0, .ref 6991, .int 0, .ref 6992, .ref 6993, .int 0, .ref 6994, .ref 6995, .ref 6996, .ref 6997, .ref 6998, .ref 6999, .ref 7000, .ref 7001, .ref 7002, .ref 7003, .ref 7004, .ref 7005, .ref 7006, .ref 7007, .ref 7008, .ref 7009, .ref 7010, .int 0, .long 0, .int 0, .ref 7011, .ref 7012, .ref 7013, .int 0, .ref 7014, .ref 7015, .ref 7016, .int 0, .ref 7017, .ref 7018, .int 0, .ref 7019, .ref 7020, .long 0, .long 0, .int 0, .int 0, .int 0, .int 0, .ref 7021, .ref 7022, .ref 7023, .ref 7024, .ref 7025, .int 0, .ref 7026, .ref 7027, .ref 7028, .ref 7029, .ref 7030, .int 0, .ref 7031, .ref 7032, .ref 7033, .ref 7034, .ref 7035, .int 0, .ref 7036, .int 0, .ref 7037, .ref 7038, .ref 7039, .ref 7040, .ref 7041, .int 0, .ref 7042, .ref 7043, .ref 7044, .int 0, .ref 7045, .ref 7046, .int 0, .ref 7047, .ref 7048, .ref 7049, .ref 7050, .ref 7051, .int 0, .ref 7052, .ref 7053, .ref 7054, .ref 7055, .ref 7056, .int 0, .int 0, .ref 7057, .ref 7058, .ref 7059, .ref 7060, .ref 7061, .ref 7062, .ref 7063, .ref 7064, .ref 7065, .ref 7066, .ref 7067, .ref 7068, .ref 7069, .ref 7070, .ref 7071, .ref 7072, .ref 7073, .ref 7074, .ref 7075, .ref 7076, .ref 7077, .ref 7078, .ref 7079, .long 0, .int 0, .ref 7080, .int 0, .int 0, .int (-1), .int 0, .int 0])) :: _) rfl ?_
  refine am_T.stp hN (pc' := 127) (lv' := [(6, .int 10), (7, _), (0, .ref 6952), (1, _), (2, _), (3, _), (4, _), (5, _)]) rfl ?_
  refine am_T.stp hN (pc' := 33) rfl ?_
  refine am_T.stp hN (pc' := 35) rfl ?_
  refine am_T.stp hN (pc' := 37) rfl ?_
  refine am_T.stp hN rfl ?_
  refine am_T.jf (by first | rfl | decide) ?_
  refine am_T.stp hN (pc' := 42) rfl ?_
  refine am_T.stp hN (pc' := 43) rfl ?_
  refine am_T.stp hN rfl ?_
  refine am_T.jt (by first | rfl | decide) ?_
  refine am_T.stp hN (pc' := 52) rfl ?_
  refine am_T.stp hN (pc' := 54) rfl ?_
  refine am_T.stp hN rfl ?_
  refine am_T.jt (by first | rfl | decide) ?_
  refine am_T.stp hN (pc' := 63) rfl ?_
  refine am_T.stp hN (pc' := 65) rfl ?_
  refine am_T.stp hN rfl ?_
  refine am_T.jf (by first | rfl | decide) ?_
  refine am_T.stp hN (pc' := 69) rfl ?_
  refine am_T.stp hN (pc' := 86) rfl ?_
  refine am_T.stp hN (pc' := 88) (lv' := [(7, _), (6, .int 10), (0, .ref 6952), (1, _), (2, _), (3, _), (4, _), (5, _)]) rfl ?_
  refine am_T.stp hN (pc' := 89) rfl ?_
  refine am_T.stp hN (pc' := 92) rfl ?_
  refine am_T.stp hN (pc' := 93) rfl ?_
  refine am_T.stp hN (pc' := 96) rfl ?_
  refine am_T.stp hN (pc' := 98) rfl ?_
  refine am_T.stp hN (pc' := 100) rfl ?_
  refine am_T.stp hN (pc' := 102) rfl ?_
  refine am_T.stp hN (pc' := 104) rfl ?_
  refine am_T.stp hN (pc' := 105) rfl ?_
  refine am_T.stp hN (pc' := 106) rfl ?_
  refine am_T.stp hN (pc' := 107) rfl ?_
  refine am_T.stp hN (pc' := 108) rfl ?_
  refine am_T.stp hN (pc' := 109) rfl ?_
  refine am_T.stp hN (pc' := 112) rfl ?_
  refine am_T.stp hN (pc' := 113) rfl ?_
  refine am_T.stp hN (pc' := 114) rfl ?_
  refine am_T.stp hN (pc' := 115) rfl ?_
  refine am_T.stp hN (pc' := 116) rfl ?_
  refine am_T.stp hN (pc' := 119) rfl ?_
  refine am_T.stp hN (pc' := 120) rfl ?_
  refine am_T.stp hN (pc' := 121) rfl ?_
  refine am_T.stp hN (pc' := 124) (ov' := (6952, .inr (12, [.int 0, .ref 6953, .int 11, .ref 6954, .int 0, .ref 6955, .int 0, .int 0, .int 0, .ref 6956, .ref 6957, .ref 6958, .ref 6959, .int 0, .int 0, .int 0, .int 0, .int 0, .long 0, .int (-1), .int (-1), .ref 6960, .ref 6961, .ref 6962, .ref 6963, .ref 6964, .ref 6965, .ref 6966, .ref 6967, .ref 6968, .ref 6969, .ref 6970, .ref 6971, .ref 6972, .ref 6973, .ref 6974, .int 0, .int 0, .int 0, .int 0, .int 0, .ref 6975, .ref 6976, .ref 6977, .ref 6978, .int 0, .int 0, .ref 6979, .ref 6980, .ref 6981, .ref 6982, .ref 6983, .ref 6984, .ref 6985, .ref 6986, .ref 6987, .ref 6988, .int 0, .ref 6989, .ref 6990, .int 0, .ref 6991, .int 0, .ref 6992, .ref 6993, .int 0, .ref 6994, .ref 6995, .ref 6996, .ref 6997, .ref 6998, .ref 6999, .ref 7000, .ref 7001, .ref 7002, .ref 7003, .ref 7004, .ref 7005, .ref 7006, .ref 7007, .ref 7008, .ref 7009, .ref 7010, .int 0, .long 0, .int 0, .ref 7011, .ref 7012, .ref 7013, .int 0, .ref 7014, .ref 7015, .ref 7016, .int 0, .ref 7017, .ref 7018, .int 0, .ref 7019, .ref 7020, .long 0, .long 0, .int 0, .int 0, .int 0, .int 0, .ref 7021, .ref 7022, .ref 7023, .ref 7024, .ref 7025, .int 0, .ref 7026, .ref 7027, .ref 7028, .ref 7029, .ref 7030, .int 0, .ref 7031, .ref 7032, .ref 7033, .ref 7034, .ref 7035, .int 0, .ref 7036, .int 0, .ref 7037, .ref 7038, .ref 7039, .ref 7040, .ref 7041, .int 0, .ref 7042, .ref 7043, .ref 7044, .int 0, .ref 7045, .ref 7046, .int 0, .ref 7047, .ref 7048, .ref 7049, .ref 7050, .ref 7051, .int 0, .ref 7052, .ref 7053, .ref 7054, .ref 7055, .ref 7056, .int 0, .int 0, .ref 7057, .ref 7058, .ref 7059, .ref 7060, .ref 7061, .ref 7062, .ref 7063, .ref 7064, .ref 7065, .ref 7066, .ref 7067, .ref 7068, .ref 7069, .ref 7070, .ref 7071, .ref 7072, .ref 7073, .ref 7074, .ref 7075, .ref 7076, .ref 7077, .ref 7078, .ref 7079, .long 0, .int 0, .ref 7080, .int 0, .int 0, .int (-1), .int 0, .int 0])) :: _) rfl ?_
  refine am_T.stp hN (pc' := 127) (lv' := [(6, .int 11), (7, _), (0, .ref 6952), (1, _), (2, _), (3, _), (4, _), (5, _)]) rfl ?_
  refine am_T.stp hN (pc' := 33) rfl ?_
  refine am_T.stp hN (pc' := 35) rfl ?_
  refine am_T.stp hN (pc' := 37) rfl ?_
  refine am_T.stp hN rfl ?_
  refine am_T.jf (by first | rfl | decide) ?_
  refine am_T.stp hN (pc' := 42) rfl ?_
  refine am_T.stp hN (pc' := 43) rfl ?_
  refine am_T.stp hN rfl ?_
  refine am_T.jt (by first | rfl | decide) ?_
  refine am_T.stp hN (pc' := 52) rfl ?_
  refine am_T.stp hN (pc' := 54) rfl ?_
  refine am_T.stp hN rfl ?_
  refine am_T.jt (by first | rfl | decide) ?_
  refine am_T.stp hN (pc' := 63) rfl ?_
  refine am_T.stp hN (pc' := 65) rfl ?_
  refine am_T.stp hN rfl ?_
  refine am_T.jf (by first | rfl | decide) ?_
  refine am_T.stp hN (pc' := 69) rfl ?_
  refine am_T.stp hN (pc' := 86) rfl ?_
  refine am_T.stp hN (pc' := 88) (lv' := [(7, _), (6, .int 11), (0, .ref 6952), (1, _), (2, _), (3, _), (4, _), (5, _)]) rfl ?_
  refine am_T.stp hN (pc' := 89) rfl ?_
  refine am_T.stp hN (pc' := 92) rfl ?_
  refine am_T.stp hN (pc' := 93) rfl ?_
  refine am_T.stp hN (pc' := 96) rfl ?_
  refine am_T.stp hN (pc' := 98) rfl ?_
  refine am_T.stp hN (pc' := 100) rfl ?_
  refine am_T.stp hN (pc' := 102) rfl ?_
  refine am_T.stp hN (pc' := 104) rfl ?_
  refine am_T.stp hN (pc' := 105) rfl ?_
  refine am_T.stp hN (pc' := 106) rfl ?_
  refine am_T.stp hN (pc' := 107) rfl ?_
  refine am_T.stp hN (pc' := 108) rfl ?_
  refine am_T.stp hN (pc' := 109) rfl ?_
  refine am_T.stp hN (pc' := 112) rfl ?_
  refine am_T.stp hN (pc' := 113) rfl ?_
  refine am_T.stp hN (pc' := 114) rfl ?_
  refine am_T.stp hN (pc' := 115) rfl ?_
  refine am_T.stp hN (pc' := 116) rfl ?_
  refine am_T.stp hN (pc' := 119) rfl ?_
  refine am_T.stp hN (pc' := 120) rfl ?_
  refine am_T.stp hN (pc' := 121) rfl ?_
  refine am_T.stp hN (pc' := 124) (ov' := (6952, .inr (12, [.int 0, .ref 6953, .int 12, .ref 6954, .int 0, .ref 6955, .int 0, .int 0, .int 0, .ref 6956, .ref 6957, .ref 6958, .ref 6959, .int 0, .int 0, .int 0, .int 0, .int 0, .long 0, .int (-1), .int (-1), .ref 6960, .ref 6961, .ref 6962, .ref 6963, .ref 6964, .ref 6965, .ref 6966, .ref 6967, .ref 6968, .ref 6969, .ref 6970, .ref 6971, .ref 6972, .ref 6973, .ref 6974, .int 0, .int 0, .int 0, .int 0, .int 0, .ref 6975, .ref 6976, .ref 6977, .ref 6978, .int 0, .int 0, .ref 6979, .ref 6980, .ref 6981, .ref 6982, .ref 6983, .ref 6984, .ref 6985, .ref 6986, .ref 6987, .ref 6988, .int 0, .ref 6989, .ref 6990, .int 0, .ref 6991, .int 0, .ref 6992, .ref 6993, .int 0, .ref 6994, .ref 6995, .ref 6996, .ref 6997, .ref 6998, .ref 6999, .ref 7000, .ref 7001, .ref 7002, .ref 7003, .ref 7004, .ref 7005, .ref 7006, .ref 7007, .ref 7008, .ref 7009, .ref 7010, .int 0, .long 0, .int 0, .ref 7011, .ref 7012, .ref 7013, .int 0, .ref 7014, .ref 7015, .ref 7016, .int 0, .ref 7017, .ref 7018, .int 0, .ref 7019, .ref 7020, .long 0, .long 0, .int 0, .int 0, .int 0, .int 0, .ref 7021, .ref 7022, .ref 7023, .ref 7024, .ref 7025, .int 0, .ref 7026, .ref 7027, .ref 7028, .ref 7029, .ref 7030, .int 0, .ref 7031, .ref 7032, .ref 7033, .ref 7034, .ref 7035, .int 0, .ref 7036, .int 0, .ref 7037, .ref 7038, .ref 7039, .ref 7040, .ref 7041, .int 0, .ref 7042, .ref 7043, .ref 7044, .int 0, .ref 7045, .ref 7046, .int 0, .ref 7047, .ref 7048, .ref 7049, .ref 7050, .ref 7051, .int 0, .ref 7052, .ref 7053, .ref 7054, .ref 7055, .ref 7056, .int 0, .int 0, .ref 7057, .ref 7058, .ref 7059, .ref 7060, .ref 7061, .ref 7062, .ref 7063, .ref 7064, .ref 7065, .ref 7066, .ref 7067, .ref 7068, .ref 7069, .ref 7070, .ref 7071, .ref 7072, .ref 7073, .ref 7074, .ref 7075, .ref 7076, .ref 7077, .ref 7078, .ref 7079, .long 0, .int 0, .ref 7080, .int 0, .int 0, .int (-1), .int 0, .int 0])) :: _) rfl ?_
  refine am_T.stp hN (pc' := 127) (lv' := [(6, .int 12), (7, _), (0, .ref 6952), (1, _), (2, _), (3, _), (4, _), (5, _)]) rfl ?_
  refine am_T.stp hN (pc' := 33) rfl ?_
  refine am_T.stp hN (pc' := 35) rfl ?_
  refine am_T.stp hN (pc' := 37) rfl ?_
  refine am_T.stp hN rfl ?_
  refine am_T.jf (by first | rfl | decide) ?_
  refine am_T.stp hN (pc' := 42) rfl ?_
  refine am_T.stp hN (pc' := 43) rfl ?_
  refine am_T.stp hN rfl ?_
  refine am_T.jt (by first | rfl | decide) ?_
  refine am_T.stp hN (pc' := 52) rfl ?_
  refine am_T.stp hN (pc' := 54) rfl ?_
  refine am_T.stp hN rfl ?_
  refine am_T.jt (by first | rfl | decide) ?_
  refine am_T.stp hN (pc' := 63) rfl ?_
  refine am_T.stp hN (pc' := 65) rfl ?_
  refine am_T.stp hN rfl ?_
  refine am_T.jt (by first | rfl | decide) ?_
  refine am_T.stp hN (pc' := 74) rfl ?_
  refine am_T.stp hN (pc' := 76) rfl ?_
  refine am_T.stp hN rfl ?_
  refine am_T.jf (by first | rfl | decide) ?_
  refine am_T.stp hN (pc' := 81) rfl ?_
  refine am_T.stp hN (pc' := 86) rfl ?_
  refine am_T.stp hN (pc' := 88) (lv' := [(7, _), (6, .int 12), (0, .ref 6952), (1, _), (2, _), (3, _), (4, _), (5, _)]) rfl ?_
  refine am_T.stp hN (pc' := 89) rfl ?_
  refine am_T.stp hN (pc' := 92) rfl ?_
  refine am_T.stp hN (pc' := 93) rfl ?_
  refine am_T.stp hN (pc' := 96) rfl ?_
  refine am_T.stp hN (pc' := 98) rfl ?_
  refine am_T.stp hN (pc' := 100) rfl ?_
  refine am_T.stp hN (pc' := 102) rfl ?_
  refine am_T.stp hN (pc' := 104) rfl ?_
  refine am_T.stp hN (pc' := 105) rfl ?_
  refine am_T.stp hN (pc' := 106) rfl ?_
  refine am_T.stp hN (pc' := 107) rfl ?_
  refine am_T.stp hN (pc' := 108) rfl ?_
  refine am_T.stp hN (pc' := 109) rfl ?_
  refine am_T.stp hN (pc' := 112) rfl ?_
  refine am_T.stp hN (pc' := 113) rfl ?_
  refine am_T.stp hN (pc' := 114) rfl ?_
  refine am_T.stp hN (pc' := 115) rfl ?_
  refine am_T.stp hN (pc' := 116) rfl ?_
  refine am_T.stp hN (pc' := 119) rfl ?_
  refine am_T.stp hN (pc' := 120) rfl ?_
  refine am_T.stp hN (pc' := 121) rfl ?_
  refine am_T.stp hN (pc' := 124) (ov' := (6952, .inr (12, [.int 0, .ref 6953, .int 13, .ref 6954, .int 0, .ref 6955, .int 0, .int 0, .int 0, .ref 6956, .ref 6957, .ref 6958, .ref 6959, .int 0, .int 0, .int 0, .int 0, .int 0, .long 0, .int (-1), .int (-1), .ref 6960, .ref 6961, .ref 6962, .ref 6963, .ref 6964, .ref 6965, .ref 6966, .ref 6967, .ref 6968, .ref 6969, .ref 6970, .ref 6971, .ref 6972, .ref 6973, .ref 6974, .int 0, .int 0, .int 0, .int 0, .int 0, .ref 6975, .ref 6976, .ref 6977, .ref 6978, .int 0, .int 0, .ref 6979, .ref 6980, .ref 6981, .ref 6982, .ref 6983, .ref 6984, .ref 6985, .ref 6986, .ref 6987, .ref 6988, .int 0, .ref 6989, .ref 6990, .int 0, .ref 6991, .int 0, .ref 6992, .ref 6993, .int 0, .ref 6994, .ref 6995, .ref 6996, .ref 6997, .ref 6998, .ref 6999, .ref 7000, .ref 7001, .ref 7002, .ref 7003, .ref 7004, .ref 7005, .ref 7006, .ref 7007, .ref 7008, .ref 7009, .ref 7010, .int 0, .long 0, .int 0, .ref 7011, .ref 7012, .ref 7013, .int 0, .ref 7014, .ref 7015, .ref 7016, .int 0, .ref 7017, .ref 7018, .int 0, .ref 7019, .ref 7020, .long 0, .long 0, .int 0, .int 0, .int 0, .int 0, .ref 7021, .ref 7022, .ref 7023, .ref 7024, .ref 7025, .int 0, .ref 7026, .ref 7027, .ref 7028, .ref 7029, .ref 7030, .int 0, .ref 7031, .ref 7032, .ref 7033, .ref 7034, .ref 7035, .int 0, .ref 7036, .int 0, .ref 7037, .ref 7038, .ref 7039, .ref 7040, .ref 7041, .int 0, .ref 7042, .ref 7043, .ref 7044, .int 0, .ref 7045, .ref 7046, .int 0, .ref 7047, .ref 7048, .ref 7049, .ref 7050, .ref 7051, .int 0, .ref 7052, .ref 7053, .ref 7054, .ref 7055, .ref 7056, .int 0, .int 0, .ref 7057, .ref 7058, .ref 7059, .ref 7060, .ref 7061, .ref 7062, .ref 7063, .ref 7064, .ref 7065, .ref 7066, .ref 7067, .ref 7068, .ref 7069, .ref 7070, .ref 7071, .ref 7072, .ref 7073, .ref 7074, .ref 7075, .ref 7076, .ref 7077, .ref 7078, .ref 7079, .long 0, .int 0, .ref 7080, .int 0, .int 0, .int (-1), .int 0, .int 0])) :: _) rfl ?_
  refine am_T.stp hN (pc' := 127) (lv' := [(6, .int 13), (7, _), (0, .ref 6952), (1, _), (2, _), (3, _), (4, _), (5, _)]) rfl ?_
  refine am_T.stp hN (pc' := 33) rfl ?_
  refine am_T.stp hN (pc' := 35) rfl ?_
  refine am_T.stp hN (pc' := 37) rfl ?_
  refine am_T.stp hN rfl ?_
  refine am_T.jf (by first | rfl | decide) ?_
  refine am_T.stp hN (pc' := 42) rfl ?_
  refine am_T.stp hN (pc' := 43) rfl ?_
  refine am_T.stp hN rfl ?_
  refine am_T.jt (by first | rfl | decide) ?_
  refine am_T.stp hN (pc' := 52) rfl ?_
  refine am_T.stp hN (pc' := 54) rfl ?_
  refine am_T.stp hN rfl ?_
  refine am_T.jt (by first | rfl | decide) ?_
  refine am_T.stp hN (pc' := 63) rfl ?_
  refine am_T.stp hN (pc' := 65) rfl ?_
  refine am_T.stp hN rfl ?_
  refine am_T.jt (by first | rfl | decide) ?_
  refine am_T.stp hN (pc' := 74) rfl ?_
  refine am_T.stp hN (pc' := 76) rfl ?_
  refine am_T.stp hN rfl ?_
  refine am_T.jf (by first | rfl | decide) ?_
  refine am_T.stp hN (pc' := 81) rfl ?_
  refine am_T.stp hN (pc' := 86) rfl ?_
  refine am_T.stp hN (pc' := 88) (lv' := [(7, _), (6, .int 13), (0, .ref 6952), (1, _), (2, _), (3, _), (4, _), (5, _)]) rfl ?_
  refine am_T.stp hN (pc' := 89) rfl ?_
  refine am_T.stp hN (pc' := 92) rfl ?_
  refine am_T.stp hN (pc' := 93) rfl ?_
  refine am_T.stp hN (pc' := 96) rfl ?_
  refine am_T.stp hN (pc' := 98) rfl ?_
  refine am_T.stp hN (pc' := 100) rfl ?_
  refine am_T.stp hN (pc' := 102) rfl ?_
  refine am_T.stp hN (pc' := 104) rfl ?_
  refine am_T.stp hN (pc' := 105) rfl ?_
  refine am_T.stp hN (pc' := 106) rfl ?_
  refine am_T.stp hN (pc' := 107) rfl ?_
  refine am_T.stp hN (pc' := 108) rfl ?_
  refine am_T.stp hN (pc' := 109) rfl ?_
  refine am_T.stp hN (pc' := 112) rfl ?_
  refine am_T.stp hN (pc' := 113) rfl ?_
  refine am_T.stp hN (pc' := 114) rfl ?_
  refine am_T.stp hN (pc' := 115) rfl ?_
  refine am_T.stp hN (pc' := 116) rfl ?_
  refine am_T.stp hN (pc' := 119) rfl ?_
  refine am_T.stp hN (pc' := 120) rfl ?_
  refine am_T.stp hN (pc' := 121) rfl ?_
  refine am_T.stp hN (pc' := 124) (ov' := (6952, .inr (12, [.int 0, .ref 6953, .int 14, .ref 6954, .int 0, .ref 6955, .int 0, .int 0, .int 0, .ref 6956, .ref 6957, .ref 6958, .ref 6959, .int 0, .int 0, .int 0, .int 0, .int 0, .long 0, .int (-1), .int (-1), .ref 6960, .ref 6961, .ref 6962, .ref 6963, .ref 6964, .ref 6965, .ref 6966, .ref 6967, .ref 6968, .ref 6969, .ref 6970, .ref 6971, .ref 6972, .ref 6973, .ref 6974, .int 0, .int 0, .int 0, .int 0, .int 0, .ref 6975, .ref 6976, .ref 6977, .ref 6978, .int 0, .int 0, .ref 6979, .ref 6980, .ref 6981, .ref 6982, .ref 6983, .ref 6984, .ref 6985, .ref 6986, .ref 6987, .ref 6988, .int 0, .ref 6989, .ref 6990, .int 0, .ref 6991, .int 0, .ref 6992, .ref 6993, .int 0, .ref 6994, .ref 6995, .ref 6996, .ref 6997, .ref 6998, .ref 6999, .ref 7000, .ref 7001, .ref 7002, .ref 7003, .ref 7004, .ref 7005, .ref 7006, .ref 7007, .ref 7008, .ref 7009, .ref 7010, .int 0, .long 0, .int 0, .ref 7011, .ref 7012, .ref 7013, .int 0, .ref 7014, .ref 7015, .ref 7016, .int 0, .ref 7017, .ref 7018, .int 0, .ref 7019, .ref 7020, .long 0, .long 0, .int 0, .int 0, .int 0, .int 0, .ref 7021, .ref 7022, .ref 7023, .ref 7024, .ref 7025, .int 0, .ref 7026, .ref 7027, .ref 7028, .ref 7029, .ref 7030, .int 0, .ref 7031, .ref 7032, .ref 7033, .ref 7034, .ref 7035, .int 0, .ref 7036, .int 0, .ref 7037, .ref 7038, .ref 7039, .ref 7040, .ref 7041, .int 0, .ref 7042, .ref 7043, .ref 7044, .int 0, .ref 7045, .ref 7046, .int 0, .ref 7047, .ref 7048, .ref 7049, .ref 7050, .ref 7051, .int 0, .ref 7052, .ref 7053, .ref 7054, .ref 7055, .ref 7056, .int 0, .int 0, .ref 7057, .ref 7058, .ref 7059, .ref 7060, .ref 7061, .ref 7062, .ref 7063, .ref 7064, .ref 7065, .ref 7066, .ref 7067, .ref 7068, .ref 7069, .ref 7070, .ref 7071, .ref 7072, .ref 7073, .ref 7074, .ref 7075, .ref 7076, .ref 7077, .ref 7078, .ref 7079, .long 0, .int 0, .ref 7080, .int 0, .int 0, .int (-1), .int 0, .int 0])) :: _) rfl ?_
  refine am_T.stp hN (pc' := 127) (lv' := [(6, .int 14), (7, _), (0, .ref 6952), (1, _), (2, _), (3, _), (4, _), (5, _)]) rfl ?_
  refine am_T.stp hN (pc' := 33) rfl ?_
  refine am_T.stp hN (pc' := 35) rfl ?_
  refine am_T.stp hN (pc' := 37) rfl ?_
  refine am_T.stp hN rfl ?_
  refine am_T.jf (by first | rfl | decide) ?_
  refine am_T.stp hN (pc' := 42) rfl ?_
  refine am_T.stp hN (pc' := 43) rfl ?_
  refine am_T.stp hN rfl ?_
  refine am_T.jt (by first | rfl | decide) ?_
  refine am_T.stp hN (pc' := 52) rfl ?_
  refine am_T.stp hN (pc' := 54) rfl ?_
  refine am_T.stp hN rfl ?_
  refine am_T.jt (by first | rfl | decide) ?_
  refine am_T.stp hN (pc' := 63) rfl ?_
  refine am_T.stp hN (pc' := 65) rfl ?_
  refine am_T.stp hN rfl ?_
  refine am_T.jt (by first | rfl | decide) ?_
  refine am_T.stp hN (pc' := 74) rfl ?_
  refine am_T.stp hN (pc' := 76) rfl ?_
  refine am_T.stp hN rfl ?_
  refine am_T.jf (by first | rfl | decide) ?_
  refine am_T.stp hN (pc' := 81) rfl ?_
  refine am_T.stp hN (pc' := 86) rfl ?_
  refine am_T.stp hN (pc' := 88) (lv' := [(7, _), (6, .int 14), (0, .ref 6952), (1, _), (2, _), (3, _), (4, _), (5, _)]) rfl ?_
  refine am_T.stp hN (pc' := 89) rfl ?_
  refine am_T.stp hN (pc' := 92) rfl ?_
  refine am_T.stp hN (pc' := 93) rfl ?_
  refine am_T.stp hN (pc' := 96) rfl ?_
  refine am_T.stp hN (pc' := 98) rfl ?_
  refine am_T.stp hN (pc' := 100) rfl ?_
  refine am_T.stp hN (pc' := 102) rfl ?_
  refine am_T.stp hN (pc' := 104) rfl ?_
  refine am_T.stp hN (pc' := 105) rfl ?_
  refine am_T.stp hN (pc' := 106) rfl ?_
  refine am_T.stp hN (pc' := 107) rfl ?_
  refine am_T.stp hN (pc' := 108) rfl ?_
  refine am_T.stp hN (pc' := 109) rfl ?_
  refine am_T.stp hN (pc' := 112) rfl ?_
  refine am_T.stp hN (pc' := 113) rfl ?_
  refine am_T.stp hN (pc' := 114) rfl ?_
  refine am_T.stp hN (pc' := 115) rfl ?_
  refine am_T.stp hN (pc' := 116) rfl ?_
  refine am_T.stp hN (pc' := 119) rfl ?_
  refine am_T.stp hN (pc' := 120) rfl ?_
  refine am_T.stp hN (pc' := 121) rfl ?_
  refine am_T.stp hN (pc' := 124) (ov' := (6952, .inr (12, [.int 0, .ref 6953, .int 15, .ref 6954, .int 0, .ref 6955, .int 0, .int 0, .int 0, .ref 6956, .ref 6957, .ref 6958, .ref 6959, .int 0, .int 0, .int 0, .int 0, .int 0, .long 0, .int (-1), .int (-1), .ref 6960, .ref 6961, .ref 6962, .ref 6963, .ref 6964, .ref 6965, .ref 6966, .ref 6967, .ref 6968, .ref 6969, .ref 6970, .ref 6971, .ref 6972, .ref 6973, .ref 6974, .int 0, .int 0, .int 0, .int 0, .int 0, .ref 6975, .ref 6976, .ref 6977, .ref 6978, .int 0, .int 0, .ref 6979, .ref 6980, .ref 6981, .ref 6982, .ref 6983, .ref 6984, .ref 6985, .ref 6986, .ref 6987, .ref 6988, .int 0, .ref 6989, .ref 6990, .int 0, .ref 6991, .int 0, .ref 6992, .ref 6993, .int 0, .ref 6994, .ref 6995, .ref 6996, .ref 6997, .ref 6998, .ref 6999, .ref 7000, .ref 7001, .ref 7002, .ref 7003, .ref 7004, .ref 7005, .ref 7006, .ref 7007, .ref 7008, .ref 7009, .ref 7010, .int 0, .long 0, .int 0, .ref 7011, .ref 7012, .ref 7013, .int 0, .ref 7014, .ref 7015, .ref 7016, .int 0, .ref 7017, .ref 7018, .int 0, .ref 7019, .ref 7020, .long 0, .long 0, .int 0, .int 0, .int 0, .int 0, .ref 7021, .ref 7022, .ref 7023, .ref 7024, .ref 7025, .int 0, .ref 7026, .ref 7027, .ref 7028, .ref 7029, .ref 7030, .int 0, .ref 7031, .ref 7032, .ref 7033, .ref 7034, .ref 7035, .int 0, .ref 7036, .int 0, .ref 7037, .ref 7038, .ref 7039, .ref 7040, .ref 7041, .int 0, .ref 7042, .ref 7043, .ref 7044, .int 0, .ref 7045, .ref 7046, .int 0, .ref 7047, .ref 7048, .ref 7049, .ref 7050, .ref 7051, .int 0, .ref 7052, .ref 7053, .ref 7054, .ref 7055, .ref 7056, .int 0, .int 0, .ref 7057, .ref 7058, .ref 7059, .ref 7060, .ref 7061, .ref 7062, .ref 7063, .ref 7064, .ref 7065, .ref 7066, .ref 7067, .ref 7068, .ref 7069, .ref 7070, .ref 7071, .ref 7072, .ref 7073, .ref 7074, .ref 7075, .ref 7076, .ref 7077, .ref 7078, .ref 7079, .long 0, .int 0, .ref 7080, .int 0, .int 0, .int (-1), .int 0, .int 0])) :: _) rfl ?_
  refine am_T.stp hN (pc' := 127) (lv' := [(6, .int 15), (7, _), (0, .ref 6952), (1, _), (2, _), (3, _), (4, _), (5, _)]) rfl ?_
  refine am_T.stp hN (pc' := 33) rfl ?_
  refine am_T.stp hN (pc' := 35) rfl ?_
  refine am_T.stp hN (pc' := 37) rfl ?_
  refine am_T.stp hN rfl ?_
  refine am_T.jf (by first | rfl | decide) ?_
  refine am_T.stp hN (pc' := 42) rfl ?_
  refine am_T.stp hN (pc' := 43) rfl ?_
  refine am_T.stp hN rfl ?_
  refine am_T.jt (by first | rfl | decide) ?_
  refine am_T.stp hN (pc' := 52) rfl ?_
  refine am_T.stp hN (pc' := 54) rfl ?_
  refine am_T.stp hN rfl ?_
  refine am_T.jt (by first | rfl | decide) ?_
  refine am_T.stp hN (pc' := 63) rfl ?_
  refine am_T.stp hN (pc' := 65) rfl ?_
  refine am_T.stp hN rfl ?_
  refine am_T.jt (by first | rfl | decide) ?_
  refine am_T.stp hN (pc' := 74) rfl ?_
  refine am_T.stp hN (pc' := 76) rfl ?_
  refine am_T.stp hN rfl ?_
  refine am_T.jf (by first | rfl | decide) ?_
  refine am_T.stp hN (pc' := 81) rfl ?_
  refine am_T.stp hN (pc' := 86) rfl ?_
  refine am_T.stp hN (pc' := 88) (lv' := [(7, _), (6, .int 15), (0, .ref 6952), (1, _), (2, _), (3, _), (4, _), (5, _)]) rfl ?_
  refine am_T.stp hN (pc' := 89) rfl ?_
  refine am_T.stp hN (pc' := 92) rfl ?_
  refine am_T.stp hN (pc' := 93) rfl ?_
  refine am_T.stp hN (pc' := 96) rfl ?_
  refine am_T.stp hN (pc' := 98) rfl ?_
  refine am_T.stp hN (pc' := 100) rfl ?_
  refine am_T.stp hN (pc' := 102) rfl ?_
  refine am_T.stp hN (pc' := 104) rfl ?_
  refine am_T.stp hN (pc' := 105) rfl ?_
  refine am_T.stp hN (pc' := 106) rfl ?_
  refine am_T.stp hN (pc' := 107) rfl ?_
  refine am_T.stp hN (pc' := 108) rfl ?_
  refine am_T.stp hN (pc' := 109) rfl ?_
  refine am_T.stp hN (pc' := 112) rfl ?_
  refine am_T.stp hN (pc' := 113) rfl ?_
  refine am_T.stp hN (pc' := 114) rfl ?_
  refine am_T.stp hN (pc' := 115) rfl ?_
  refine am_T.stp hN (pc' := 116) rfl ?_
  refine am_T.stp hN (pc' := 119) rfl ?_
  refine am_T.stp hN (pc' := 120) rfl ?_
  refine am_T.stp hN (pc' := 121) rfl ?_
  refine am_T.stp hN (pc' := 124) (ov' := (6952, .inr (12, [.int 0, .ref 6953, .int 16, .ref 6954, .int 0, .ref 6955, .int 0, .int 0, .int 0, .ref 6956, .ref 6957, .ref 6958, .ref 6959, .int 0, .int 0, .int 0, .int 0, .int 0, .long 0, .int (-1), .int (-1), .ref 6960, .ref 6961, .ref 6962, .ref 6963, .ref 6964, .ref 6965, .ref 6966, .ref 6967, .ref 6968, .ref 6969, .ref 6970, .ref 6971, .ref 6972, .ref 6973, .ref 6974, .int 0, .int 0, .int 0, .int 0, .int 0, .ref 6975, .ref 6976, .ref 6977, .ref 6978, .int 0, .int 0, .ref 6979, .ref 6980, .ref 6981, .ref 6982, .ref 6983, .ref 6984, .ref 6985, .ref 6986, .ref 6987, .ref 6988, .int 0, .ref 6989, .ref 6990, .int 0, .ref 6991, .int 0, .ref 6992, .ref 6993, .int 0, .ref 6994, .ref 6995, .ref 6996, .ref 6997, .ref 6998, .ref 6999, .ref 7000, .ref 7001, .ref 7002, .ref 7003, .ref 7004, .ref 7005, .ref 7006, .ref 7007, .ref 7008, .ref 7009, .ref 7010, .int 0, .long 0, .int 0, .ref 7011, .ref 7012, .ref 7013, .int 0, .ref 7014, .ref 7015, .ref 7016, .int 0, .ref 7017, .ref 7018, .int 0, .ref 7019, .ref 7020, .long 0, .long 0, .int 0, .int 0, .int 0, .int 0, .ref 7021, .ref 7022, .ref 7023, .ref 7024, .ref 7025, .int 0, .ref 7026, .ref 7027, .ref 7028, .ref 7029, .ref 7030, .int 0, .ref 7031, .ref 7032, .ref 7033, .ref 7034, .ref 7035, .int 0, .ref 7036, .int 0, .ref 7037, .ref 7038, .ref 7039, .ref 7040, .ref 7041, .int 0, .ref 7042, .ref 7043, .ref 7044, .int 0, .ref 7045, .ref 7046, .int 0, .ref 7047, .ref 7048, .ref 7049, .ref 7050, .ref 7051, .int 0, .ref 7052, .ref 7053, .ref 7054, .ref 7055, .ref 7056, .int 0, .int 0, .ref 7057, .ref 7058, .ref 7059, .ref 7060, .ref 7061, .ref 7062, .ref 7063, .ref 7064, .ref 7065, .ref 7066, .ref 7067, .ref 7068, .ref 7069, .ref 7070, .ref 7071, .ref 7072, .ref 7073, .ref 7074, .ref 7075, .ref 7076, .ref 7077, .ref 7078, .ref 7079, .long 0, .int 0, .ref 7080, .int 0, .int 0, .int (-1), .int 0, .int 0])) :: _) rfl ?_
  refine am_T.stp hN (pc' := 127) (lv' := [(6, .int 16), (7, _), (0, .ref 6952), (1, _), (2, _), (3, _), (4, _), (5, _)]) rfl ?_
  refine am_T.stp hN (pc' := 33) rfl ?_
  refine am_T.stp hN (pc' := 35) rfl ?_
  refine am_T.stp hN (pc' := 37) rfl ?_
  refine am_T.stp hN rfl ?_
  refine am_T.jf (by first | rfl | decide) ?_
  refine am_T.stp hN (pc' := 42) rfl ?_
  refine am_T.stp hN (pc' := 43) rfl ?_
  refine am_T.stp hN rfl ?_
  refine am_T.jt (by first | rfl | decide) ?_
  refine am_T.stp hN (pc' := 52) rfl ?_
  refine am_T.stp hN (pc' := 54) rfl ?_
  refine am_T.stp hN rfl ?_
  refine am_T.jt (by first | rfl | decide) ?_
  refine am_T.stp hN (pc' := 63) rfl ?_
  refine am_T.stp hN (pc' := 65) rfl ?_
  refine am_T.stp hN rfl ?_
  refine am_T.jt (by first | rfl | decide) ?_
  refine am_T.stp hN (pc' := 74) rfl ?_
  refine am_T.stp hN (pc' := 76) rfl ?_
  refine am_T.stp hN rfl ?_
  refine am_T.jt (by first | rfl | decide) ?_
  refine am_T.stp hN (pc' := 86) rfl ?_
  refine am_T.stp hN (pc' := 88) (lv' := [(7, _), (6, .int 16), (0, .ref 6952), (1, _), (2, _), (3, _), (4, _), (5, _)]) rfl ?_
  refine am_T.stp hN (pc' := 89) rfl ?_
  refine am_T.stp hN (pc' := 92) rfl ?_
  refine am_T.stp hN (pc' := 93) rfl ?_
  refine am_T.stp hN (pc' := 96) rfl ?_
  refine am_T.stp hN (pc' := 98) rfl ?_
  refine am_T.stp hN (pc' := 100) rfl ?_
  refine am_T.stp hN (pc' := 102) rfl ?_
  refine am_T.stp hN (pc' := 104) rfl ?_
  refine am_T.stp hN (pc' := 105) rfl ?_
  refine am_T.stp hN (pc' := 106) rfl ?_
  refine am_T.stp hN (pc' := 107) rfl ?_
  refine am_T.stp hN (pc' := 108) rfl ?_
  refine am_T.stp hN (pc' := 109) rfl ?_
  refine am_T.stp hN (pc' := 112) rfl ?_
  refine am_T.stp hN (pc' := 113) rfl ?_
  refine am_T.stp hN (pc' := 114) rfl ?_
  refine am_T.stp hN (pc' := 115) rfl ?_
  refine am_T.stp hN (pc' := 116) rfl ?_
  refine am_T.stp hN (pc' := 119) rfl ?_
  refine am_T.stp hN (pc' := 120) rfl ?_
  refine am_T.stp hN (pc' := 121) rfl ?_
  refine am_T.stp hN (pc' := 124) (ov' := (6952, .inr (12, [.int 0, .ref 6953, .int 17, .ref 6954, .int 0, .ref 6955, .int 0, .int 0, .int 0, .ref 6956, .ref 6957, .ref 6958, .ref 6959, .int 0, .int 0, .int 0, .int 0, .int 0, .long 0, .int (-1), .int (-1), .ref 6960, .ref 6961, .ref 6962, .ref 6963, .ref 6964, .ref 6965, .ref 6966, .ref 6967, .ref 6968, .ref 6969, .ref 6970, .ref 6971, .ref 6972, .ref 6973, .ref 6974, .int 0, .int 0, .int 0, .int 0, .int 0, .ref 6975, .ref 6976, .ref 6977, .ref 6978, .int 0, .int 0, .ref 6979, .ref 6980, .ref 6981, .ref 6982, .ref 6983, .ref 6984, .ref 6985, .ref 6986, .ref 6987, .ref 6988, .int 0, .ref 6989, .ref 6990, .int 0, .ref 6991, .int 0, .ref 6992, .ref 6993, .int 0, .ref 6994, .ref 6995, .ref 6996, .ref 6997, .ref 6998, .ref 6999, .ref 7000, .ref 7001, .ref 7002, .ref 7003, .ref 7004, .ref 7005, .ref 7006, .ref 7007, .ref 7008, .ref 7009, .ref 7010, .int 0, .long 0, .int 0, .ref 7011, .ref 7012, .ref 7013, .int 0, .ref 7014, .ref 7015, .ref 7016, .int 0, .ref 7017, .ref 7018, .int 0, .ref 7019, .ref 7020, .long 0, .long 0, .int 0, .int 0, .int 0, .int 0, .ref 7021, .ref 7022, .ref 7023, .ref 7024, .ref 7025, .int 0, .ref 7026, .ref 7027, .ref 7028, .ref 7029, .ref 7030, .int 0, .ref 7031, .ref 7032, .ref 7033, .ref 7034, .ref 7035, .int 0, .ref 7036, .int 0, .ref 7037, .ref 7038, .ref 7039, .ref 7040, .ref 7041, .int 0, .ref 7042, .ref 7043, .ref 7044, .int 0, .ref 7045, .ref 7046, .int 0, .ref 7047, .ref 7048, .ref 7049, .ref 7050, .ref 7051, .int 0, .ref 7052, .ref 7053, .ref 7054, .ref 7055, .ref 7056, .int 0, .int 0, .ref 7057, .ref 7058, .ref 7059, .ref 7060, .ref 7061, .ref 7062, .ref 7063, .ref 7064, .ref 7065, .ref 7066, .ref 7067, .ref 7068, .ref 7069, .ref 7070, .ref 7071, .ref 7072, .ref 7073, .ref 7074, .ref 7075, .ref 7076, .ref 7077, .ref 7078, .ref 7079, .long 0, .int 0, .ref 7080, .int 0, .int 0, .int (-1), .int 0, .int 0])) :: _) rfl ?_
  refine am_T.stp hN (pc' := 127) (lv' := [(6, .int 17), (7, _), (0, .ref 6952), (1, _), (2, _), (3, _), (4, _), (5, _)]) rfl ?_
  refine am_T.stp hN (pc' := 33) rfl ?_
  refine am_T.stp hN (pc' := 35) rfl ?_
  refine am_T.stp hN (pc' := 37) rfl ?_
  refine am_T.stp hN rfl ?_
  refine am_T.jf (by first | rfl | decide) ?_
  refine am_T.stp hN (pc' := 42) rfl ?_
  refine am_T.stp hN (pc' := 43) rfl ?_
  refine am_T.stp hN rfl ?_
  refine am_T.jt (by first | rfl | decide) ?_
  refine am_T.stp hN (pc' := 52) rfl ?_
  refine am_T.stp hN (pc' := 54) rfl ?_
  refine am_T.stp hN rfl ?_
  refine am_T.jt (by first | rfl | decide) ?_
  refine am_T.stp hN (pc' := 63) rfl ?_
  refine am_T.stp hN (pc' := 65) rfl ?_
  refine am_T.stp hN rfl ?_
  refine am_T.jt (by first | rfl | decide) ?_
  refine am_T.stp hN (pc' := 74) rfl ?_
  refine am_T.stp hN (pc' := 76) rfl ?_
  refine am_T.stp hN rfl ?_
  refine am_T.jt (by first | rfl | decide) ?_
  refine am_T.stp hN (pc' := 86) rfl ?_
  refine am_T.stp hN (pc' := 88) (lv' := [(7, _), (6, .int 17), (0, .ref 6952), (1, _), (2, _), (3, _), (4, _), (5, _)]) rfl ?_
  refine am_T.stp hN (pc' := 89) rfl ?_
  refine am_T.stp hN (pc' := 92) rfl ?_
  refine am_T.stp hN (pc' := 93) rfl ?_
  refine am_T.stp hN (pc' := 96) rfl ?_
  refine am_T.stp hN (pc' := 98) rfl ?_
  refine am_T.stp hN (pc' := 100) rfl ?_
  refine am_T.stp hN (pc' := 102) rfl ?_
  refine am_T.stp hN (pc' := 104) rfl ?_
  refine am_T.stp hN (pc' := 105) rfl ?_
  refine am_T.stp hN (pc' := 106) rfl ?_
  refine am_T.stp hN (pc' := 107) rfl ?_
  refine am_T.stp hN (pc' := 108) rfl ?_
  refine am_T.stp hN (pc' := 109) rfl ?_
  refine am_T.stp hN (pc' := 112) rfl ?_
  refine am_T.stp hN (pc' := 113) rfl ?_
  refine am_T.stp hN (pc' := 114) rfl ?_
  refine am_T.stp hN (pc' := 115) rfl ?_
  refine am_T.stp hN (pc' := 116) rfl ?_
  refine am_T.stp hN (pc' := 119) rfl ?_
  refine am_T.stp hN (pc' := 120) rfl ?_
  refine am_T.stp hN (pc' := 121) rfl ?_
  refine am_T.stp hN (pc' := 124) (ov' := (6952, .inr (12, [.int 0, .ref 6953, .int 18, .ref 6954, .int 0, .ref 6955, .int 0, .int 0, .int 0, .ref 6956, .ref 6957, .ref 6958, .ref 6959, .int 0, .int 0, .int 0, .int 0, .int 0, .long 0, .int (-1), .int (-1), .ref 6960, .ref 6961, .ref 6962, .ref 6963, .ref 6964, .ref 6965, .ref 6966, .ref 6967, .ref 6968, .ref 6969, .ref 6970, .ref 6971, .ref 6972, .ref 6973, .ref 6974, .int 0, .int 0, .int 0, .int 0, .int 0, .ref 6975, .ref 6976, .ref 6977, .ref 6978, .int 0, .int 0, .ref 6979, .ref 6980, .ref 6981, .ref 6982, .ref 6983, .ref 6984, .ref 6985, .ref 6986, .ref 6987, .ref 6988, .int 0, .ref 6989, .ref 6990, .int 0, .ref 6991, .int 0, .ref 6992, .ref 6993, .int 0, .ref 6994, .ref 6995, .ref 6996, .ref 6997, .ref 6998, .ref 6999, .ref 7000, .ref 7001, .ref 7002, .ref 7003, .ref 7004, .ref 7005, .ref 7006, .ref 7007, .ref 7008, .ref 7009, .ref 7010, .int 0, .long 0, .int 0, .ref 7011, .ref 7012, .ref 7013, .int 0, .ref 7014, .ref 7015, .ref 7016, .int 0, .ref 7017, .ref 7018, .int 0, .ref 7019, .ref 7020, .long 0, .long 0, .int 0, .int 0, .int 0, .int 0, .ref 7021, .ref 7022, .ref 7023, .ref 7024, .ref 7025, .int 0, .ref 7026, .ref 7027, .ref 7028, .ref 7029, .ref 7030, .int 0, .ref 7031, .ref 7032, .ref 7033, .ref 7034, .ref 7035, .int 0, .ref 7036, .int 0, .ref 7037, .ref 7038, .ref 7039, .ref 7040, .ref 7041, .int 0, .ref 7042, .ref 7043, .ref 7044, .int 0, .ref 7045, .ref 7046, .int 0, .ref 7047, .ref 7048, .ref 7049, .ref 7050, .ref 7051, .int 0, .ref 7052, .ref 7053, .ref 7054, .ref 7055, .ref 7056, .int 0, .int 0, .ref 7057, .ref 7058, .ref 7059, .ref 7060, .ref 7061, .ref 7062, .ref 7063, .ref 7064, .ref 7065, .ref 7066, .ref 7067, .ref 7068, .ref 7069, .ref 7070, .ref 7071, .ref 7072, .ref 7073, .ref 7074, .ref 7075, .ref 7076, .ref 7077, .ref 7078, .ref 7079, .long 0, .int 0, .ref 7080, .int 0, .int 0, .int (-1), .int 0, .int 0])) :: _) rfl ?_
  refine am_T.stp hN (pc' := 127) (lv' := [(6, .int 18), (7, _), (0, .ref 6952), (1, _), (2, _), (3, _), (4, _), (5, _)]) rfl ?_
  refine am_T.stp hN (pc' := 33) rfl ?_
  refine am_T.stp hN (pc' := 35) rfl ?_
  refine am_T.stp hN (pc' := 37) rfl ?_
  refine am_T.stp hN rfl ?_
  refine am_T.jf (by first | rfl | decide) ?_
  refine am_T.stp hN (pc' := 42) rfl ?_
  refine am_T.stp hN (pc' := 43) rfl ?_
  refine am_T.stp hN rfl ?_
  refine am_T.jt (by first | rfl | decide) ?_
  refine am_T.stp hN (pc' := 52) rfl ?_
  refine am_T.stp hN (pc' := 54) rfl ?_
  refine am_T.stp hN rfl ?_
  refine am_T.jt (by first | rfl | decide) ?_
  refine am_T.stp hN (pc' := 63) rfl ?_
  refine am_T.stp hN (pc' := 65) rfl ?_
  refine am_T.stp hN rfl ?_
  refine am_T.jt (by first | rfl | decide) ?_
  refine am_T.stp hN (pc' := 74) rfl ?_
  refine am_T.stp hN (pc' := 76) rfl ?_
  refine am_T.stp hN rfl ?_
  refine am_T.jt (by first | rfl | decide) ?_
  refine am_T.stp hN (pc' := 86) rfl ?_
  refine am_T.stp hN (pc' := 88) (lv' := [(7, _), (6, .int 18), (0, .ref 6952), (1, _), (2, _), (3, _), (4, _), (5, _)]) rfl ?_
  refine am_T.stp hN (pc' := 89) rfl ?_
  refine am_T.stp hN (pc' := 92) rfl ?_
  refine am_T.stp hN (pc' := 93) rfl ?_
  refine am_T.stp hN (pc' := 96) rfl ?_
  refine am_T.stp hN (pc' := 98) rfl ?_
  refine am_T.stp hN (pc' := 100) rfl ?_
  refine am_T.stp hN (pc' := 102) rfl ?_
  refine am_T.stp hN (pc' := 104) rfl ?_
  refine am_T.stp hN (pc' := 105) rfl ?_
  refine am_T.stp hN (pc' := 106) rfl ?_
  refine am_T.stp hN (pc' := 107) rfl ?_
  refine am_T.stp hN (pc' := 108) rfl ?_
  refine am_T.stp hN (pc' := 109) rfl ?_
  refine am_T.stp hN (pc' := 112) rfl ?_
  refine am_T.stp hN (pc' := 113) rfl ?_
  refine am_T.stp hN (pc' := 114) rfl ?_
  refine am_T.stp hN (pc' := 115) rfl ?_
  refine am_T.stp hN (pc' := 116) rfl ?_
  refine am_T.stp hN (pc' := 119) rfl ?_
  refine am_T.stp hN (pc' := 120) rfl ?_
  refine am_T.stp hN (pc' := 121) rfl ?_
  refine am_T.stp hN (pc' := 124) (ov' := (6952, .inr (12, [.int 0, .ref 6953, .int 19, .ref 6954, .int 0, .ref 6955, .int 0, .int 0, .int 0, .ref 6956, .ref 6957, .ref 6958, .ref 6959, .int 0, .int 0, .int 0, .int 0, .int 0, .long 0, .int (-1), .int (-1), .ref 6960, .ref 6961, .ref 6962, .ref 6963, .ref 6964, .ref 6965, .ref 6966, .ref 6967, .ref 6968, .ref 6969, .ref 6970, .ref 6971, .ref 6972, .ref 6973, .ref 6974, .int 0, .int 0, .int 0, .int 0, .int 0, .ref 6975, .ref 6976, .ref 6977, .ref 6978, .int 0, .int 0, .ref 6979, .ref 6980, .ref 6981, .ref 6982, .ref 6983, .ref 6984, .ref 6985, .ref 6986, .ref 6987, .ref 6988, .int 0, .ref 6989, .ref 6990, .int 0, .ref 6991, .int 0, .ref 6992, .ref 6993, .int 0, .ref 6994, .ref 6995, .ref 6996, .ref 6997, .ref 6998, .ref 6999, .ref 7000, .ref 7001, .ref 7002, .ref 7003, .ref 7004, .ref 7005, .ref 7006, .ref 7007, .ref 7008, .ref 7009, .ref 7010, .int 0, .long 0, .int 0, .ref 7011, .ref 7012, .ref 7013, .int 0, .ref 7014, .ref 7015, .ref 7016, .int 0, .ref 7017, .ref 7018, .int 0, .ref 7019, .ref 7020, .long 0, .long 0, .int 0, .int 0, .int 0, .int 0, .ref 7021, .ref 7022, .ref 7023, .ref 7024, .ref 7025, .int 0, .ref 7026, .ref 7027, .ref 7028, .ref 7029, .ref 7030, .int 0, .ref 7031, .ref 7032, .ref 7033, .ref 7034, .ref 7035, .int 0, .ref 7036, .int 0, .ref 7037, .ref 7038, .ref 7039, .ref 7040, .ref 7041, .int 0, .ref 7042, .ref 7043, .ref 7044, .int 0, .ref 7045, .ref 7046, .int 0, .ref 7047, .ref 7048, .ref 7049, .ref 7050, .ref 7051, .int 0, .ref 7052, .ref 7053, .ref 7054, .ref 7055, .ref 7056, .int 0, .int 0, .ref 7057, .ref 7058, .ref 7059, .ref 7060, .ref 7061, .ref 7062, .ref 7063, .ref 7064, .ref 7065, .ref 7066, .ref 7067, .ref 7068, .ref 7069, .ref 7070, .ref 7071, .ref 7072, .ref 7073, .ref 7074, .ref 7075, .ref 7076, .ref 7077, .ref 7078, .ref 7079, .long 0, .int 0, .ref 7080, .int 0, .int 0, .int (-1), .int 0, .int 0])) :: _) rfl ?_
  refine am_T.stp hN (pc' := 127) (lv' := [(6, .int 19), (7, _), (0, .ref 6952), (1, _), (2, _), (3, _), (4, _), (5, _)]) rfl ?_
  refine am_T.stp hN (pc' := 33) rfl ?_
  refine am_T.stp hN (pc' := 35) rfl ?_
  refine am_T.stp hN (pc' := 37) rfl ?_
  refine am_T.stp hN rfl ?_
  refine am_T.jf (by first | rfl | decide) ?_
  refine am_T.stp hN (pc' := 42) rfl ?_
  refine am_T.stp hN (pc' := 43) rfl ?_
  refine am_T.stp hN rfl ?_
  refine am_T.jt (by first | rfl | decide) ?_
  refine am_T.stp hN (pc' := 52) rfl ?_
  refine am_T.stp hN (pc' := 54) rfl ?_
  refine am_T.stp hN rfl ?_
  refine am_T.jt (by first | rfl | decide) ?_
  refine am_T.stp hN (pc' := 63) rfl ?_
  refine am_T.stp hN (pc' := 65) rfl ?_
  refine am_T.stp hN rfl ?_
  refine am_T.jt (by first | rfl | decide) ?_
  refine am_T.stp hN (pc' := 74) rfl ?_
  refine am_T.stp hN (pc' := 76) rfl ?_
  refine am_T.stp hN rfl ?_
  refine am_T.jt (by first | rfl | decide) ?_
  refine am_T.stp hN (pc' := 86) rfl ?_
  refine am_T.stp hN (pc' := 88) (lv' := [(7, _), (6, .int 19), (0, .ref 6952), (1, _), (2, _), (3, _), (4, _), (5, _)]) rfl ?_
  refine am_T.stp hN (pc' := 89) rfl ?_
  refine am_T.stp hN (pc' := 92) rfl ?_
  refine am_T.stp hN (pc' := 93) rfl ?_
  refine am_T.stp hN (pc' := 96) rfl ?_
  refine am_T.stp hN (pc' := 98) rfl ?_
  refine am_T.stp hN (pc' := 100) rfl ?_
  refine am_T.stp hN (pc' := 102) rfl ?_
  refine am_T.stp hN (pc' := 104) rfl ?_
  refine am_T.stp hN (pc' := 105) rfl ?_
  refine am_T.stp hN (pc' := 106) rfl ?_
  refine am_T.stp hN (pc' := 107) rfl ?_
  refine am_T.stp hN (pc' := 108) rfl ?_
  refine am_T.stp hN (pc' := 109) rfl ?_
  refine am_T.stp hN (pc' := 112) rfl ?_
  refine am_T.stp hN (pc' := 113) rfl ?_
  refine am_T.stp hN (pc' := 114) rfl ?_
  refine am_T.stp hN (pc' := 115) rfl ?_
  refine am_T.stp hN (pc' := 116) rfl ?_
  refine am_T.stp hN (pc' := 119) rfl ?_
  refine am_T.stp hN (pc' := 120) rfl ?_
  refine am_T.stp hN (pc' := 121) rfl ?_
  refine am_T.stp hN (pc' := 124) (ov' := (6952, .inr (12, [.int 0, .ref 6953, .int 20, .ref 6954, .int 0, .ref 6955, .int 0, .int 0, .int 0, .ref 6956, .ref 6957, .ref 6958, .ref 6959, .int 0, .int 0, .int 0, .int 0, .int 0, .long 0, .int (-1), .int (-1), .ref 6960, .ref 6961, .ref 6962, .ref 6963, .ref 6964, .ref 6965, .ref 6966, .ref 6967, .ref 6968, .ref 6969, .ref 6970, .ref 6971, .ref 6972, .ref 6973, .ref 6974, .int 0, .int 0, .int 0, .int 0, .int 0, .ref 6975, .ref 6976, .ref 6977, .ref 6978, .int 0, .int 0, .ref 6979, .ref 6980, .ref 6981, .ref 6982, .ref 6983, .ref 6984, .ref 6985, .ref 6986, .ref 6987, .ref 6988, .int 0, .ref 6989, .ref 6990, .int 0, .ref 6991, .int 0, .ref 6992, .ref 6993, .int 0, .ref 6994, .ref 6995, .ref 6996, .ref 6997, .ref 6998, .ref 6999, .ref 7000, .ref 7001, .ref 7002, .ref 7003, .ref 7004, .ref 7005, .ref 7006, .ref 7007, .ref 7008, .ref 7009, .ref 7010, .int 0, .long 0, .int 0, .ref 7011, .ref 7012, .ref 7013, .int 0, .ref 7014, .ref 7015, .ref 7016, .int 0, .ref 7017, .ref 7018, .int 0, .ref 7019, .ref 7020, .long 0, .long 0, .int 0, .int 0, .int 0, .int 0, .ref 7021, .ref 7022, .ref 7023, .ref 7024, .ref 7025, .int 0, .ref 7026, .ref 7027, .ref 7028, .ref 7029, .ref 7030, .int 0, .ref 7031, .ref 7032, .ref 7033, .ref 7034, .ref 7035, .int 0, .ref 7036, .int 0, .ref 7037, .ref 7038, .ref 7039, .ref 7040, .ref 7041, .int 0, .ref 7042, .ref 7043, .ref 7044, .int 0, .ref 7045, .ref 7046, .int 0, .ref 7047, .ref 7048, .ref 7049, .ref 7050, .ref 7051, .int 0, .ref 7052, .ref 7053, .ref 7054, .ref 7055, .ref 7056, .int 0, .int 0, .ref 7057, .ref 7058, .ref 7059, .ref 7060, .ref 7061, .ref 7062, .ref 7063, .ref 7064, .ref 7065, .ref 7066, .ref 7067, .ref 7068, .ref 7069, .ref 7070, .ref 7071, .ref 7072, .ref 7073, .ref 7074, .ref 7075, .ref 7076, .ref 7077, .ref 7078, .ref 7079, .long 0, .int 0, .ref 7080, .int 0, .int 0, .int (-1), .int 0, .int 0])) :: _) rfl ?_
  refine am_T.stp hN (pc' := 127) (lv' := [(6, .int 20), (7, _), (0, .ref 6952), (1, _), (2, _), (3, _), (4, _), (5, _)]) rfl ?_
  refine am_T.stp hN (pc' := 33) rfl ?_
  refine am_T.stp hN (pc' := 35) rfl ?_
  refine am_T.stp hN (pc' := 37) rfl ?_
  refine am_T.stp hN rfl ?_
  refine am_T.jt (by first | rfl | decide) ?_
  refine am_T.stp hN (pc' := 131) rfl ?_
  refine am_T.stp hN (pc' := 134) rfl ?_
  refine am_T.ret rfl ?_
  refine am_T.bck (pc' := 267) (st' := [.int 20]) rfl rfl ?_
  refine am_T.stp hN (pc' := 269) (lv' := [(6, .int 20), (5, .int 0), (4, .int 0), (3, .ref 7081), (2, .ref 6952), (1, .ref 0), (0, .float 200)]) rfl ?_
  refine am_T.stp hN (pc' := 270) rfl ?_
  refine am_T.go hN (vs := [.ref 6952]) (r := []) rfl ?_
  refine am_T.lvq (lv' := [(0, .ref 6952)]) rfl ?_
  refine am_T.stp hN (pc' := 1) rfl ?_
  refine am_T.stp hN (pc' := 4) rfl ?_
  refine am_T.ret rfl ?_
  refine am_T.bck (pc' := 273) (st' := [.int 0]) rfl rfl ?_
  refine am_T.stp hN (pc' := 275) rfl ?_
  refine am_T.stp hN rfl ?_
  refine am_T.jt (by first | rfl | decide) ?_
  refine am_T.stp hN (pc' := 282) rfl ?_
  refine am_T.stp hN rfl ?_
  refine am_T.jf (by first | rfl | decide) ?_
  refine am_T.stp hN (pc' := 286) rfl ?_
  refine am_T.stp hN (pc' := 287) rfl ?_
  refine am_T.stp hN (pc' := 288) (st' := .long 20 :: _) rfl ?_
  refine am_T.stp hN (pc' := 290) rfl ?_
  refine am_T.stp hN (pc' := 291) rfl ?_
  refine am_T.stp hN (pc' := 292) rfl ?_
  refine am_T.stp hN rfl ?_
  refine am_T.jt (by first | rfl | decide) ?_
  refine am_T.stp hN (pc' := 2616) rfl ?_
  refine am_T.stp hN (pc' := 2619) (lv' := [(4, .int 6), (6, .int 20), (5, .int 0), (3, .ref 7081), (2, .ref 6952), (1, .ref 0), (0, .float 200)]) rfl ?_
  refine am_T.stp hN (pc' := 23) rfl ?_
  refine am_T.stp hN (pc' := 25) rfl ?_
  refine am_T.stp hN (pc' := 26) rfl ?_
  refine am_T.stp hN (pc' := 27) rfl ?_
  refine am_T.stp hN (pc' := 29) rfl ?_
  refine am_T.stp hN (pc' := 30) rfl ?_
  refine am_T.stp hN rfl ?_
  refine am_T.jt (by first | rfl | decide) ?_
  refine am_T.stp hN (pc' := 2623) rfl ?_
  refine am_T.ret rfl ?_
  exact pu_fin rfl

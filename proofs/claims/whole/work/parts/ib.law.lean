theorem am_T.calls {G : am_G} {d M pc k y ix : Nat} {lv : am_L} {st vs r : List Value} {h h1 : am_H} {K : am_Out → am_H → Prop} {v : Option Value} {ins : Instr} (hn : am_No G M pc st ins) (ha : am_a (am_kk G M) (am_mxl G M) ins pc lv st = none) (hb : am_b (am_X G) (am_lkk G M) (am_ini G M) ins pc st h = none) (ht : am_rt (am_rty G M) ins st = none) (hi : am_inv G M ins st h = some (k, y, ix, vs, r)) (hl : (lg_sl vs).length ≤ am_mxl G y) (hk : ¬ k = 3) (hc : am_R G d y 0 (lv_args 0 vs) [] h (.inl v) h1) (kk : am_T G (d + 1) M (pc + 3) lv (v.toList ++ r) h1 K) : am_T G (d + 1) M pc lv st h K := by
  obtain ⟨o, h', a, b⟩ := kk
  exact ⟨o, h', am_R.calls hn ha hb ht hi hl hk hc a, b⟩
theorem am_T.newa {G : am_G} {d M pc : Nat} {lv : am_L} {r : List Value} {h : am_H} {K : am_Out → am_H → Prop} {ty : ArrayType} {t N : Nat} {n : Int32} (hn : am_No G M pc (.int n :: r) (.newarray ty)) (ht : am_tag ty = some t) (h0 : ¬ n < 0) (hN : n.toNatClampNeg = N) (h1 : N * componentBytes (newarray.typeOf ty) ≤ 536870912) (kk : am_T G d M (pc + 2) lv (.ref h.length :: r) (h ++ [.inl (t, N, if t = 2 then .inr (.inl (fun _ => 0)) else .inl (fun _ => 0))]) K) : am_T G d M pc lv (.int n :: r) h K := by
  obtain ⟨o, h', a, b⟩ := kk
  exact ⟨o, h', am_R.newa hn ht h0 hN h1 a, b⟩
theorem am_T.heq {G : am_G} {d M pc : Nat} {lv : am_L} {st : List Value} {h h1 : am_H} {K : am_Out → am_H → Prop} (e : h = h1) (r : am_T G d M pc lv st h1 K) : am_T G d M pc lv st h K := e ▸ r
set_option maxRecDepth 20000 in
set_option maxHeartbeats 8000000 in
theorem pu_law0 (xs : Nat → Int32) (L d : Nat) (K : am_Out → am_H → Prop) (kk : am_T (pu_G xs L) (d + 20) 452 20 [(3, .ref 7081), (2, .ref 6952), (1, .ref 0), (0, .float 200)] [] pu_H K) : am_T (pu_G xs L) (d + 20) 452 0 (lv_args 0 [.float 200]) [] [] K := by
  refine am_T.one (pc' := 3) (st' := [.ref 0]) (h1 := [] ++ [.inr (11, [.null, .int 0, .null, .null, .null, .null, .null, .null, .null, .null, .null, .null, .null, .null, .null, .null, .null, .null, .null, .int 0])]) rfl ?_
  refine am_T.one (pc' := 4) (st' := [.ref 0, .ref 0]) rfl ?_
  refine am_T.calls (k := 2) (y := 0) (ix := 130) (ins := .invokespecial 130) (vs := [.ref 0]) (r := [.ref 0]) ⟨rfl, rfl, 3, rfl⟩ rfl rfl rfl rfl (Nat.le_of_ble_eq_true rfl) (by decide) (pu_Plat_init xs L (d + 9) []) ?_
  refine am_T.one (pc' := 8) (lv' := [(1, .ref 0), (0, .float 200)]) (st' := []) rfl ?_
  have hl : (([] : am_H) ++ pu_plat ([] : am_H).length 16).length = 6952 := by
    simp only [List.length_append, List.length_nil, pu_plat_len]
  refine am_T.one (pc' := 11) (st' := [.ref (([] : am_H) ++ pu_plat ([] : am_H).length 16).length]) rfl ?_
  refine am_T.one (pc' := 12) (st' := [.ref (([] : am_H) ++ pu_plat ([] : am_H).length 16).length, .ref (([] : am_H) ++ pu_plat ([] : am_H).length 16).length]) rfl ?_
  refine am_T.calls (k := 2) (y := 261) (ix := 133) (ins := .invokespecial 133) (vs := [.ref (([] : am_H) ++ pu_plat ([] : am_H).length 16).length]) (r := [.ref (([] : am_H) ++ pu_plat ([] : am_H).length 16).length]) ⟨rfl, rfl, 3, rfl⟩ rfl rfl rfl rfl (Nat.le_of_ble_eq_true rfl) (by decide) (pu_Model_init xs L (d + 18) (([] : am_H) ++ pu_plat ([] : am_H).length 16)) ?_
  rw [hl]
  refine am_T.one (pc' := 16) (lv' := [(2, .ref 6952), (1, .ref 0), (0, .float 200)]) (st' := []) rfl ?_
  refine am_T.one (pc' := 17) (st' := [.int 1]) rfl ?_
  refine am_T.newa (t := 2) (N := 1) ⟨rfl, rfl, 2, rfl⟩ rfl (by decide) (by decide) (by decide) ?_
  have hl2 : ((([] : am_H) ++ pu_plat ([] : am_H).length 16) ++ pu_model 6952).length = 7081 := by
    rw [List.length_append, hl, pu_model_len]
  rw [hl2]
  refine am_T.one (pc' := 20) (lv' := [(3, .ref 7081), (2, .ref 6952), (1, .ref 0), (0, .float 200)]) (st' := []) rfl ?_
  exact am_T.heq rfl kk
/-- a script of fewer than 6 ints spells no call -/
def pu_ck (L : Nat) : Prop := am_tst .gt 0 (Int32.ofNat L - (Int8.ofInt 6).toInt32) = true
theorem pu_short : ∀ L, L < 6 → am_tst .gt (Int32.ofInt 0) (Int32.ofNat L - (Int8.ofInt 6).toInt32) = true := by decide
set_option maxRecDepth 20000 in
theorem pu_law1 (xs : Nat → Int32) (L d : Nat) (h : am_H) (hN : 7082 ≤ h.length) (hL : L < 6) : am_T (pu_G xs L) (d + 20) 452 20 [(3, .ref 7081), (2, .ref 6952), (1, .ref 0), (0, .float 200)] [] (am_ov pu_ov0 h) (pu_K h) := by
  refine am_T.stp hN (pc' := 21) rfl ?_
  refine am_T.stp hN (pc' := 23) (lv' := [(4, _), (3, _), (2, _), (1, _), (0, _)]) rfl ?_
  refine am_T.stp hN (pc' := 25) rfl ?_
  refine am_T.stp hN (pc' := 26) rfl ?_
  refine am_T.stp hN (pc' := 27) (st' := .int (Int32.ofNat L) :: _) rfl ?_
  refine am_T.stp hN (pc' := 29) rfl ?_
  refine am_T.stp hN (pc' := 30) rfl ?_
  refine am_T.stp hN rfl ?_
  refine am_T.jt (pu_short L hL) ?_
  refine am_T.stp hN (pc' := 2623) rfl ?_
  refine am_T.ret rfl ?_
  exact pu_fin rfl
theorem pu_and63 (x : Int32) : ∃ n, n < 64 ∧ x &&& (Int8.ofInt 63).toInt32 = Int32.ofNat n := by
  refine ⟨x.toBitVec.toNat % 64, Nat.mod_lt _ (by decide), ?_⟩
  apply Int32.toBitVec_inj.mp
  apply BitVec.eq_of_toNat_eq
  rw [Int32.toBitVec_and, BitVec.toNat_and]
  rw [show ((Int8.ofInt 63).toInt32).toBitVec.toNat = 2 ^ 6 - 1 from by decide, Nat.and_two_pow_sub_one_eq_mod]
  show _ = (BitVec.ofNat 32 (x.toBitVec.toNat % 64)).toNat
  rw [BitVec.toNat_ofNat]
  omega


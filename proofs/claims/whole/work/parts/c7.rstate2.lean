theorem SB2_congr {M M' : im_M} {cc cA cB cN : Nat} {w i : Int} {β : Bk} (h : SB2 M cc cA cB cN w i β) (h1 : M' cc = M cc) (h2 : M' cA = M cA) (h3 : M' cB = M cB) (h4 : M' cN = M cN) : SB2 M' cc cA cB cN w i β := by
  obtain ⟨a1, a2, a3⟩ := h
  refine ⟨by rw [h1]; exact a1, a2, fun k hk => ?_⟩
  rw [h2, h3]
  exact ⟨(a3 k hk).1, (a3 k hk).2.1, sn_congr (a3 k hk).2.2 (fun q _ _ => by rw [h4])⟩
theorem SB1_congr {M M' : im_M} {cc cA cN : Nat} {w i : Int} {β : Bk} (h : SB1 M cc cA cN w i β) (h1 : M' cc = M cc) (h2 : M' cA = M cA) (h4 : M' cN = M cN) : SB1 M' cc cA cN w i β := by
  obtain ⟨a1, a2, a3, a4⟩ := h
  refine ⟨by rw [h1]; exact a1, a2, a3, fun k hk => ?_⟩
  rw [h2]
  exact ⟨(a4 k hk).1, sn_congr (a4 k hk).2 (fun q _ _ => by rw [h4])⟩
/-- what taking a state leaves as it was -/
def TG (M M' : im_M) (k : Int) : Prop := (∀ x, x ≠ 6952 → x ≠ 6955 → (x < 7011 ∨ 7020 < x) → M' x = M x) ∧ (∀ f, f ≠ 7 → f ≠ 83 → f ≠ 84 → f ≠ 85 → f ≠ 89 → f ≠ 93 → f ≠ 96 → M' 6952 f = M 6952 f) ∧ (∀ i, i < M 6952 7 → M' 6955 i = M 6955 i) ∧ (M 6952 7 ≤ M' 6952 7 ∧ M' 6952 7 ≤ M 6952 7 + 302 * k)
theorem TG.rf (M : im_M) : TG M M 0 := ⟨fun _ _ _ _ => rfl, fun _ _ _ _ _ _ _ _ => rfl, fun _ _ => rfl, Int.le_refl _, by omega⟩
theorem TG.tf {M M1 M2 : im_M} {k k' : Int} {a b n : Nat} (h : TG M M1 k) (h' : TF a b n M1 M2 k') (ha : 7011 ≤ a ∧ a ≤ 7020) (hb : 7011 ≤ b ∧ b ≤ 7020) (hn : 7011 ≤ n ∧ n ≤ 7020) : TG M M2 (k + k') := by
  obtain ⟨q1, q2, q3, q4, q5⟩ := h
  obtain ⟨p1, p2, p3, p4, p5⟩ := h'
  exact ⟨fun x a b c => (p1 x a b (by omega) (by omega) (by omega)).trans (q1 x a b c), fun f a b c d i j l => (p2 f a).trans (q2 f a b c d i j l), fun i hi => (p3 i (by omega)).trans (q3 i hi), by omega, by omega⟩
theorem TG.f {M M1 : im_M} {k f y : Int} (h : TG M M1 k) (hf : f = 83 ∨ f = 84 ∨ f = 85 ∨ f = 89 ∨ f = 93 ∨ f = 96) : TG M (im_u M1 6952 f y) k := by
  obtain ⟨q1, q2, q3, q4, q5⟩ := h
  exact ⟨fun x a b c => (im_u_ne _ _ _ a).trans (q1 x a b c), fun f' a b c d i j l => (im_rdk _ _ _ (by omega)).trans (q2 f' a b c d i j l), fun i hi => (im_rdn _ _ _ _ (by decide)).trans (q3 i hi), by rw [im_rdk _ _ _ (by omega)]; exact q4, by rw [im_rdk _ _ _ (by omega)]; exact q5⟩
section RTST2
variable {g : im_g} {d : Nat} {e : im_E} {M : im_M} {K : im_K}
theorem c_rtakeState {i : Int} {ac ch lt gv : Bk} (hi : 0 ≤ i ∧ i < 16) (S1 : SB2 M 6997 6998 6999 7000 40 i ac) (S2 : SB2 M 7001 7002 7003 7004 40 i ch) (S3 : SB1 M 7005 7006 7007 40 i lt) (S4 : SB1 M 7008 7009 7010 20 i gv) (hg : gv.1 ≤ 20) (h0 : 0 ≤ M 6952 7) (h7 : M 6952 7 + 42280 ≤ 1100000) (hd : 1 ≤ d)
    (hK : ∀ M', TG M M' 140 → M' 6952 83 = M 6995 i → M' 6952 84 = M 6996 i → rb2 M' 85 7011 7012 7013 ac (M' 6952 7) → rb2 M' 89 7014 7015 7016 ch (M' 6952 7) → rb1 M' 93 7017 7018 lt (M' 6952 7) → rb1 M' 96 7019 7020 gv (M' 6952 7) → K (.inl none) e M') : im_T g d 361 0 [some (.ref 6952), some (vI i), none] [] e M K := by
  have l1 := S1.2.1
  have l2 := S2.2.1
  have l3 := S3.2.1
  refine b_takeState_0 ⟨hi, ?_⟩
  generalize hMa : im_u (im_u (im_u M 6952 83 (M 6995 i)) 6952 84 (M 6996 i)) 6952 85 (M 6997 i) = Ma
  have Ga : TG M Ma 0 := by rw [← hMa]; exact (((TG.rf M).f (by omega)).f (by omega)).f (by omega)
  have a83 : Ma 6952 83 = M 6995 i := by rw [← hMa, im_rdk _ _ _ (by decide), im_rdk _ _ _ (by decide), im_rds]
  have a84 : Ma 6952 84 = M 6996 i := by rw [← hMa, im_rdk _ _ _ (by decide), im_rds]
  have a85 : Ma 6952 85 = ac.1 := by rw [← hMa, im_rds]; exact S1.1
  clear hMa
  have Sa := SB2_congr S1 (Ga.1 6997 (by decide) (by decide) (by decide)) (Ga.1 6998 (by decide) (by decide) (by decide)) (Ga.1 6999 (by decide) (by decide) (by decide)) (Ga.1 7000 (by decide) (by decide) (by decide))
  have ga := Ga.2.2.2
  refine l_ts32 hi Sa (by omega) (by omega) hd (fun M1 T1 A1 N1 => ?_) ac.1 0 Ma (by omega) (TF.rf _ _ _ _) (fun q hq => by omega) (fun q hq => by omega)
  have G1 := Ga.tf T1 (by decide) (by decide) (by decide)
  have g1 := G1.2.2.2
  have b85 : M1 6952 85 = ac.1 := (T1.2.1 85 (by decide)).trans a85
  have b83 := (T1.2.1 83 (by decide)).trans a83
  have b84 := (T1.2.1 84 (by decide)).trans a84
  have R1 : rb2 M1 85 7011 7012 7013 ac (M1 6952 7) := ⟨b85, l1, A1, N1⟩
  have e01 : M1 7001 i = ch.1 := by rw [G1.1 7001 (by decide) (by decide) (by decide)]; exact S2.1
  rw [e01]
  have Gb : TG M (im_u M1 6952 89 ch.1) (0 + ac.1) := G1.f (by omega)
  have kb : ∀ f, f ≠ 89 → im_u M1 6952 89 ch.1 6952 f = M1 6952 f := fun f hf => im_rdk _ _ _ hf
  have xb : ∀ x, x ≠ 6952 → im_u M1 6952 89 ch.1 x = M1 x := fun x hx => im_u_ne _ _ _ hx
  have c89 : im_u M1 6952 89 ch.1 6952 89 = ch.1 := im_rds _ _ _ _
  generalize im_u M1 6952 89 ch.1 = Mb at *
  have Sb := SB2_congr S2 (Gb.1 7001 (by decide) (by decide) (by decide)) (Gb.1 7002 (by decide) (by decide) (by decide)) (Gb.1 7003 (by decide) (by decide) (by decide)) (Gb.1 7004 (by decide) (by decide) (by decide))
  have gb := Gb.2.2.2
  refine l_ts114 hi Sb (by omega) (by omega) hd (fun M2 T2 A2 N2 => ?_) ch.1 0 Mb (by omega) (TF.rf _ _ _ _) (fun q hq => by omega) (fun q hq => by omega)
  have G2 := Gb.tf T2 (by decide) (by decide) (by decide)
  have g2 := G2.2.2.2
  have t2 := T2.2.2.2
  have R12 : rb2 M2 85 7011 7012 7013 ac (M2 6952 7) := rb2_congr R1 ((T2.2.1 85 (by decide)).trans (kb 85 (by decide))) ((T2.1 7011 (by decide) (by decide) (by decide) (by decide) (by decide)).trans (xb _ (by decide))) ((T2.1 7012 (by decide) (by decide) (by decide) (by decide) (by decide)).trans (xb _ (by decide))) ((T2.1 7013 (by decide) (by decide) (by decide) (by decide) (by decide)).trans (xb _ (by decide))) (fun j hj => (T2.2.2.1 j (by rw [kb 7 (by decide)]; exact hj)).trans (by rw [xb _ (by decide)])) (by rw [← kb 7 (by decide)]; omega)
  have R2 : rb2 M2 89 7014 7015 7016 ch (M2 6952 7) := ⟨(T2.2.1 89 (by decide)).trans c89, l2, A2, N2⟩
  have d83 := ((T2.2.1 83 (by decide)).trans (kb 83 (by decide))).trans b83
  have d84 := ((T2.2.1 84 (by decide)).trans (kb 84 (by decide))).trans b84
  have e05 : M2 7005 i = lt.1 := by rw [G2.1 7005 (by decide) (by decide) (by decide)]; exact S3.1
  rw [e05]
  have Gc : TG M (im_u M2 6952 93 lt.1) (0 + ac.1 + ch.1) := G2.f (by omega)
  have kc : ∀ f, f ≠ 93 → im_u M2 6952 93 lt.1 6952 f = M2 6952 f := fun f hf => im_rdk _ _ _ hf
  have xc : ∀ x, x ≠ 6952 → im_u M2 6952 93 lt.1 x = M2 x := fun x hx => im_u_ne _ _ _ hx
  have c93 : im_u M2 6952 93 lt.1 6952 93 = lt.1 := im_rds _ _ _ _
  generalize im_u M2 6952 93 lt.1 = Mc at *
  have Sc := SB1_congr S3 (Gc.1 7005 (by decide) (by decide) (by decide)) (Gc.1 7006 (by decide) (by decide) (by decide)) (Gc.1 7007 (by decide) (by decide) (by decide))
  have gc := Gc.2.2.2
  refine l_ts196 hi Sc l3 (by omega) (by omega) hd (fun M3 T3 A3 N3 => ?_) lt.1 0 Mc (by omega) (TF.rf _ _ _ _) (fun q hq => by omega) (fun q hq => by omega)
  have G3 := Gc.tf T3 (by decide) (by decide) (by decide)
  have g3 := G3.2.2.2
  have t3 := T3.2.2.2
  have p3 : ∀ j, j < M2 6952 7 → M3 6955 j = M2 6955 j := fun j hj => (T3.2.2.1 j (by rw [kc 7 (by decide)]; exact hj)).trans (by rw [xc _ (by decide)])
  have h3 : M2 6952 7 ≤ M3 6952 7 := by rw [← kc 7 (by decide)]; omega
  have y3 : ∀ x, x ≠ 6952 → x ≠ 6955 → x ≠ 7017 → x ≠ 7018 → M3 x = M2 x := fun x a b c d => (T3.1 x a b c c d).trans (xc x a)
  have z3 : ∀ f, f ≠ 7 → f ≠ 93 → M3 6952 f = M2 6952 f := fun f a b => (T3.2.1 f a).trans (kc f b)
  have R13 := rb2_congr R12 (z3 85 (by decide) (by decide)) (y3 _ (by decide) (by decide) (by decide) (by decide)) (y3 _ (by decide) (by decide) (by decide) (by decide)) (y3 _ (by decide) (by decide) (by decide) (by decide)) p3 h3
  have R23 := rb2_congr R2 (z3 89 (by decide) (by decide)) (y3 _ (by decide) (by decide) (by decide) (by decide)) (y3 _ (by decide) (by decide) (by decide) (by decide)) (y3 _ (by decide) (by decide) (by decide) (by decide)) p3 h3
  have R3 : rb1 M3 93 7017 7018 lt (M3 6952 7) := ⟨(T3.2.1 93 (by decide)).trans c93, l3, S3.2.2.1, A3, N3⟩
  have f83 := (z3 83 (by decide) (by decide)).trans d83
  have f84 := (z3 84 (by decide) (by decide)).trans d84
  have e08 : M3 7008 i = gv.1 := by rw [G3.1 7008 (by decide) (by decide) (by decide)]; exact S4.1
  rw [e08]
  have Gd : TG M (im_u M3 6952 96 gv.1) (0 + ac.1 + ch.1 + lt.1) := G3.f (by omega)
  have kd : ∀ f, f ≠ 96 → im_u M3 6952 96 gv.1 6952 f = M3 6952 f := fun f hf => im_rdk _ _ _ hf
  have xd : ∀ x, x ≠ 6952 → im_u M3 6952 96 gv.1 x = M3 x := fun x hx => im_u_ne _ _ _ hx
  have c96 : im_u M3 6952 96 gv.1 6952 96 = gv.1 := im_rds _ _ _ _
  generalize im_u M3 6952 96 gv.1 = Md at *
  have Sd := SB1_congr S4 (Gd.1 7008 (by decide) (by decide) (by decide)) (Gd.1 7009 (by decide) (by decide) (by decide)) (Gd.1 7010 (by decide) (by decide) (by decide))
  have gd := Gd.2.2.2
  refine l_ts261 hi Sd hg (by omega) (by omega) hd (fun M4 T4 A4 N4 => ?_) gv.1 0 Md (by omega) (TF.rf _ _ _ _) (fun q hq => by omega) (fun q hq => by omega)
  have G4 := Gd.tf T4 (by decide) (by decide) (by decide)
  have t4 := T4.2.2.2
  have p4 : ∀ j, j < M3 6952 7 → M4 6955 j = M3 6955 j := fun j hj => (T4.2.2.1 j (by rw [kd 7 (by decide)]; exact hj)).trans (by rw [xd _ (by decide)])
  have h4 : M3 6952 7 ≤ M4 6952 7 := by rw [← kd 7 (by decide)]; omega
  have y4 : ∀ x, x ≠ 6952 → x ≠ 6955 → x ≠ 7019 → x ≠ 7020 → M4 x = M3 x := fun x a b c d => (T4.1 x a b c c d).trans (xd x a)
  have z4 : ∀ f, f ≠ 7 → f ≠ 96 → M4 6952 f = M3 6952 f := fun f a b => (T4.2.1 f a).trans (kd f b)
  refine hK M4 ⟨G4.1, G4.2.1, G4.2.2.1, G4.2.2.2.1, by have := G4.2.2.2.2; omega⟩ ((z4 83 (by decide) (by decide)).trans f83) ((z4 84 (by decide) (by decide)).trans f84) (rb2_congr R13 (z4 85 (by decide) (by decide)) (y4 _ (by decide) (by decide) (by decide) (by decide)) (y4 _ (by decide) (by decide) (by decide) (by decide)) (y4 _ (by decide) (by decide) (by decide) (by decide)) p4 h4) (rb2_congr R23 (z4 89 (by decide) (by decide)) (y4 _ (by decide) (by decide) (by decide) (by decide)) (y4 _ (by decide) (by decide) (by decide) (by decide)) (y4 _ (by decide) (by decide) (by decide) (by decide)) p4 h4) (rb1_congr R3 (z4 93 (by decide) (by decide)) (y4 _ (by decide) (by decide) (by decide) (by decide)) (y4 _ (by decide) (by decide) (by decide) (by decide)) p4 h4) ⟨(T4.2.1 96 (by decide)).trans c96, by omega, S4.2.2.1, A4, N4⟩
end RTST2

/-- what keeping the i-th state leaves as it was -/
def KSG (i : Int) (M M' : im_M) : Prop := (∀ x, x < 6995 ∨ 7007 < x → M' x = M x) ∧ (∀ (x : Nat) (q : Int), (x = 6995 ∨ x = 6996 ∨ x = 6997 ∨ x = 7001 ∨ x = 7005) → q ≠ i → M' x q = M x q) ∧ (∀ (x : Nat) (q : Int), (x = 6998 ∨ x = 6999 ∨ x = 7002 ∨ x = 7003 ∨ x = 7006) → (q < 40 * i ∨ 40 * i + 40 ≤ q) → M' x q = M x q) ∧ (∀ (x : Nat) (q : Int), (x = 7000 ∨ x = 7004 ∨ x = 7007) → (q < 302 * (40 * i) ∨ 302 * (40 * i + 40) ≤ q) → M' x q = M x q)
theorem KSG.rf (i : Int) (M : im_M) : KSG i M M := ⟨fun _ _ => rfl, fun _ _ _ _ => rfl, fun _ _ _ _ => rfl, fun _ _ _ _ => rfl⟩
theorem KSG.u {i y : Int} {M M' : im_M} {c : Nat} (h : KSG i M M') (hc : c = 6995 ∨ c = 6996 ∨ c = 6997 ∨ c = 7001 ∨ c = 7005) : KSG i M (im_u M' c i y) := by
  obtain ⟨a, b, c', d⟩ := h
  refine ⟨fun x hx => (im_u_ne _ _ _ (by omega)).trans (a x hx), fun x q hx hq => ?_, fun x q hx hq => (im_rdn _ _ _ _ (by omega)).trans (c' x q hx hq), fun x q hx hq => (im_rdn _ _ _ _ (by omega)).trans (d x q hx hq)⟩
  by_cases e : x = c
  · rw [e, im_rdk _ _ _ hq, ← e]; exact b x q hx hq
  · exact (im_rdn _ _ _ _ e).trans (b x q hx hq)
theorem KSG.kf {i : Int} {M M1 M2 : im_M} {a b n : Nat} (h : KSG i M M1) (h' : KSF a b n i M1 M2) (ha : a = 6998 ∨ a = 7002 ∨ a = 7006) (hb : b = 6999 ∨ b = 7003 ∨ b = 7006) (hn : n = 7000 ∨ n = 7004 ∨ n = 7007) : KSG i M M2 := by
  obtain ⟨p, q, r, s⟩ := h
  obtain ⟨f1, f2, f3⟩ := h'
  refine ⟨fun x hx => (f1 x (by omega) (by omega) (by omega)).trans (p x hx), fun x j hx hj => ?_, fun x j hx hj => ?_, fun x j hx hj => ?_⟩
  · rw [f1 x (by omega) (by omega) (by omega)]; exact q x j hx hj
  · by_cases e1 : x = a
    · rw [e1, (f2 j hj).1, ← e1]; exact r x j hx hj
    · by_cases e2 : x = b
      · rw [e2, (f2 j hj).2, ← e2]; exact r x j hx hj
      · rw [f1 x e1 e2 (by omega)]; exact r x j hx hj
  · by_cases e1 : x = n
    · rw [e1, f3 j hj, ← e1]; exact s x j hx hj
    · rw [f1 x (by omega) (by omega) e1]; exact s x j hx hj
section RKST2
variable {g : im_g} {d : Nat} {e : im_E} {M : im_M} {K : im_K}
theorem c_rkeepState {i : Int} {ac ch lt : Bk} (hi : 0 ≤ i ∧ i < 16) (R1 : rb2 M 85 7011 7012 7013 ac (M 6952 7)) (R2 : rb2 M 89 7014 7015 7016 ch (M 6952 7)) (R3 : rb1 M 93 7017 7018 lt (M 6952 7)) (h7 : M 6952 7 ≤ 1100000) (hd : 1 ≤ d)
    (hK : ∀ M', KSG i M M' → M' 6995 i = M 6952 83 → M' 6996 i = M 6952 84 → SB2 M' 6997 6998 6999 7000 40 i ac → SB2 M' 7001 7002 7003 7004 40 i ch → SB1 M' 7005 7006 7007 40 i lt → K (.inl none) e M') : im_T g d 414 0 [some (.ref 6952), some (vI i), none] [] e M K := by
  refine b_keepState_0 ⟨hi, ?_⟩
  generalize hMa : im_u (im_u (im_u M 6995 i (M 6952 83)) 6996 i (M 6952 84)) 6997 i (M 6952 85) = Ma
  have Ga : KSG i M Ma := by rw [← hMa]; exact (((KSG.rf i M).u (by omega)).u (by omega)).u (by omega)
  have a83 : Ma 6995 i = M 6952 83 := by rw [← hMa, im_rdn _ _ _ _ (by decide), im_rdn _ _ _ _ (by decide), im_rds]
  have a84 : Ma 6996 i = M 6952 84 := by rw [← hMa, im_rdn _ _ _ _ (by decide), im_rds]
  have a85 : Ma 6997 i = ac.1 := by rw [← hMa, im_rds]; exact R1.1
  clear hMa
  have c55 : ∀ {M' : im_M}, KSG i M M' → M' 6952 = M 6952 ∧ M' 6955 = M 6955 := fun {M'} G => ⟨G.1 6952 (by decide), G.1 6955 (by decide)⟩
  have r1 : rb2 Ma 85 7011 7012 7013 ac (Ma 6952 7) := by
    rw [(c55 Ga).1]
    exact rb2_congr R1 (by rw [(c55 Ga).1]) (Ga.1 _ (by decide)) (Ga.1 _ (by decide)) (Ga.1 _ (by decide)) (fun j _ => by rw [(c55 Ga).2]) (Int.le_refl _)
  refine l_ks32 hi r1 (by rw [(c55 Ga).1]; exact h7) hd (fun M1 F1 N1 => ?_) ac.1 0 Ma (by omega) (KSF.rf _ _ _ _ _) (fun q hq => by omega)
  have G1 := Ga.kf F1 (by decide) (by decide) (by decide)
  have b83 : M1 6995 i = M 6952 83 := by rw [F1.1 6995 (by decide) (by decide) (by decide)]; exact a83
  have b84 : M1 6996 i = M 6952 84 := by rw [F1.1 6996 (by decide) (by decide) (by decide)]; exact a84
  have S1 : SB2 M1 6997 6998 6999 7000 40 i ac := ⟨by rw [F1.1 6997 (by decide) (by decide) (by decide)]; exact a85, R1.2.1, N1⟩
  have e89 : Ma 6952 89 = ch.1 := by rw [(c55 Ga).1]; exact R2.1
  rw [e89]
  have Gb : KSG i M (im_u M1 7001 i ch.1) := G1.u (by omega)
  have xb : ∀ x, x ≠ 7001 → im_u M1 7001 i ch.1 x = M1 x := fun x hx => im_u_ne _ _ _ hx
  have cb : im_u M1 7001 i ch.1 7001 i = ch.1 := im_rds _ _ _ _
  generalize im_u M1 7001 i ch.1 = Mb at *
  have r2 : rb2 Mb 89 7014 7015 7016 ch (Mb 6952 7) := by
    rw [(c55 Gb).1]
    exact rb2_congr R2 (by rw [(c55 Gb).1]) (Gb.1 _ (by decide)) (Gb.1 _ (by decide)) (Gb.1 _ (by decide)) (fun j _ => by rw [(c55 Gb).2]) (Int.le_refl _)
  refine l_ks112 hi r2 (by rw [(c55 Gb).1]; exact h7) hd (fun M2 F2 N2 => ?_) ch.1 0 Mb (by omega) (KSF.rf _ _ _ _ _) (fun q hq => by omega)
  have G2 := Gb.kf F2 (by decide) (by decide) (by decide)
  have y2 : ∀ x, x ≠ 7001 → x ≠ 7002 → x ≠ 7003 → x ≠ 7004 → M2 x = M1 x := fun x a b c d => (F2.1 x b c d).trans (xb x a)
  have S12 := SB2_congr S1 (y2 6997 (by decide) (by decide) (by decide) (by decide)) (y2 6998 (by decide) (by decide) (by decide) (by decide)) (y2 6999 (by decide) (by decide) (by decide) (by decide)) (y2 7000 (by decide) (by decide) (by decide) (by decide))
  have S2 : SB2 M2 7001 7002 7003 7004 40 i ch := ⟨by rw [F2.1 7001 (by decide) (by decide) (by decide)]; exact cb, R2.2.1, N2⟩
  have e93 : Mb 6952 93 = lt.1 := by rw [(c55 Gb).1]; exact R3.1
  rw [e93]
  have Gc : KSG i M (im_u M2 7005 i lt.1) := G2.u (by omega)
  have xc : ∀ x, x ≠ 7005 → im_u M2 7005 i lt.1 x = M2 x := fun x hx => im_u_ne _ _ _ hx
  have cc : im_u M2 7005 i lt.1 7005 i = lt.1 := im_rds _ _ _ _
  generalize im_u M2 7005 i lt.1 = Mc at *
  have r3 : rb1 Mc 93 7017 7018 lt (Mc 6952 7) := by
    rw [(c55 Gc).1]
    exact rb1_congr R3 (by rw [(c55 Gc).1]) (Gc.1 _ (by decide)) (Gc.1 _ (by decide)) (fun j _ => by rw [(c55 Gc).2]) (Int.le_refl _)
  refine l_ks192 hi r3 (by rw [(c55 Gc).1]; exact h7) hd (fun M3 F3 N3 => ?_) lt.1 0 Mc (by omega) (KSF.rf _ _ _ _ _) (fun q hq => by omega)
  have G3 := Gc.kf F3 (by decide) (by decide) (by decide)
  have y3 : ∀ x, x ≠ 7005 → x ≠ 7006 → x ≠ 7007 → M3 x = M2 x := fun x a b c => (F3.1 x b b c).trans (xc x a)
  refine hK M3 G3 ?_ ?_ (SB2_congr S12 (y3 6997 (by decide) (by decide) (by decide)) (y3 6998 (by decide) (by decide) (by decide)) (y3 6999 (by decide) (by decide) (by decide)) (y3 7000 (by decide) (by decide) (by decide))) (SB2_congr S2 (y3 7001 (by decide) (by decide) (by decide)) (y3 7002 (by decide) (by decide) (by decide)) (y3 7003 (by decide) (by decide) (by decide)) (y3 7004 (by decide) (by decide) (by decide))) ⟨by rw [F3.1 7005 (by decide) (by decide) (by decide)]; exact cc, R3.2.1, R3.2.2.1, N3⟩
  · rw [y3 6995 (by decide) (by decide) (by decide), y2 6995 (by decide) (by decide) (by decide) (by decide)]; exact b83
  · rw [y3 6996 (by decide) (by decide) (by decide), y2 6996 (by decide) (by decide) (by decide) (by decide)]; exact b84
end RKST2

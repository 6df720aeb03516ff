section RSTEP2
variable {g : im_g} {d : Nat} {e : im_E} {M : im_M} {K : im_K} {R : Rw} {m : Int} {giv : Bk} {st en lk : Int} {s : TS}
theorem RT.setnd (h : RT M R m giv st en lk s) (y : Int) : RT (im_u M 6952 83 y) R m giv st en lk (s.sNd y) ∧ RX M (im_u M 6952 83 y) :=
  h.nod (fun x a _ _ => im_u_ne _ _ _ a) (fun k _ _ a => im_rdk _ _ _ a) (fun i _ => by rw [im_rdn _ _ _ _ (by decide)]) (by rw [im_rdk _ _ _ (by decide)]; exact Int.le_refl _) (by rw [im_rdk _ _ _ (by decide)]; exact h.2.2.2.2.1.2.2) (im_rds _ _ _ _)
theorem RZ.setnd {M' : im_M} {c : Int} (h : RZ M M' R m giv lk c) (y : Int) : RZ M (im_u M' 6952 83 y) R m giv lk c := by
  obtain ⟨z1, z2, z3, z4, z5, z6⟩ := h
  refine ⟨z1.trans ⟨fun x a _ _ _ => im_u_ne _ _ _ a, fun k _ _ a _ _ _ _ _ _ _ _ _ _ => im_rdk _ _ _ a, fun i _ => im_rdn _ _ _ _ (by decide), Int.le_of_eq (im_rdk _ _ _ (by decide)).symm⟩, (im_rdk _ _ _ (by decide)).trans z2, (im_rdk _ _ _ (by decide)).trans z3, by rw [show im_u M' 6952 83 y 6952 8 = M' 6952 8 from im_rdk _ _ _ (by decide)]; exact z4, ?_, by rw [show im_u M' 6952 83 y 6952 116 = M' 6952 116 from im_rdk _ _ _ (by decide)]; exact z6⟩
  rcases z5 with w | w
  · exact Or.inl w
  · exact Or.inr ⟨w.1, fun Γ hg => KN_congr (w.2 Γ hg) (fun x a b => im_u_ne _ _ _ (by omega))⟩
theorem RZ.pre {M1 M' : im_M} {c : Int} (h : RZ M1 M' R m giv lk c) (hX : RX M M1) : RZ M M' R m giv lk c := ⟨hX.trans h.1, h.2⟩
/-- the row of a node in the reference -/
theorem RP.row {n : Int} (hP : RP M R m) (n0 : 0 ≤ n) (n1 : n < m) (h3 : R 0 n ≠ 3) (h29 : R 0 n ≠ 29) : M 6961 n = R 4 n ∧ M 6962 n = R 5 n ∧ M 6963 n = R 6 n ∧ M 6964 n = R 16 n ∧ M 6965 n = R 17 n ∧ M 6966 n = R 18 n := by
  obtain ⟨_, q2, q3, ⟨q4, q5, q6, _⟩, _⟩ := hP n n0 n1
  exact ⟨(q2 h3).1, (q2 h3).2, (q3 h29).1, q4, q5, q6⟩
theorem c_stepPay {e1 : Int} (h : RT M R m giv st en lk s) (hO : OT s) (hW : WFP R m) (n0 : 0 ≤ s.nd) (n1 : s.nd < m) (hk : R 0 s.nd = 1) (hen : ends (R 1) m (s.nd + 1) e1) (h7 : M 6952 7 + 660 * (e1 - (s.nd + 1)) ≤ 1100000) (h7' : M 6952 7 + 1100 ≤ 1100000) (hd : 12 ≤ d)
    (hKl : ev R (s.env giv st en) 101 (s.nd + 1) = none → ∀ M', RZ M M' R m giv lk (-8) → K (.inl none) e M')
    (hKs : ∀ x, ev R (s.env giv st en) 101 (s.nd + 1) = some x → ∀ s', payN R lk s s.nd x = .inr s' → ∀ M', RX M M' → M' 6952 7 ≤ M 6952 7 + 910 → RT M' R m giv st en lk s' → K (.inl none) e M')
    (hKe : ∀ x, ev R (s.env giv st en) 101 (s.nd + 1) = some x → ∀ z, payN R lk s s.nd x = .inl z → z < 0 → ∀ M', RZ M M' R m giv lk z → K (.inl none) e M') : im_T g d 377 0 [some (.ref 6952), none, none, none, none, none, none, none, none, none, none] [] e M K := by
  obtain ⟨⟨j0, j1, j2, j3, _⟩, _⟩ := kids_c (hW.2.2 _ n0 n1).1 (Or.inl hk)
  have hm := hW.2.1
  have h83 : M 6952 83 = s.nd := h.2.2.2.1.1
  obtain ⟨q1, q2, q3, q4, q5, q6⟩ := h.1.row n0 n1 (by omega) (by omega)
  have hvk := j3 (Or.inl hk)
  have hR3 : R 3 s.nd = 0 ∨ R 3 s.nd = 1 := (hW.2.2 s.nd n0 n1).2.1.2.2.2 hk
  refine im_rng (j := s.nd) sf_6961 n0 (by show s.nd < 5100; omega) (fun ra => im_rng (j := s.nd) sf_6962 n0 (by show s.nd < 5100; omega) (fun rb => im_rng (j := s.nd) sf_6963 n0 (by show s.nd < 5100; omega) (fun rc => ?_)))
  have ra : im_i64 (M 6961 s.nd) := ra
  have rb : im_i64 (M 6962 s.nd) := rb
  have rc : im_i64 (M 6963 s.nd) := rc
  rw [q1] at ra
  rw [q2] at rb
  rw [q3] at rc
  refine b_stepPay_0 (by omega) ?_
  rw [h83, q4, j0]
  replace hvk : Wr (vkd (R 0 (s.nd + 1))) := hvk
  replace j3 : Wr _ := j3
  refine ⟨by constructor <;> omega, c_worked h hW (by omega) j1 (Or.inl hvk) hen h7 (by omega) (fun M4 r x hx X4 t4 C4 v4 _ => ⟨_, rfl, rfl, ?_⟩) (fun hx M4 Z4 => ⟨_, rfl, rfl, ?_⟩)⟩
  · have h101 := C4.2.2.2.1.2.1
    have hv := v4 hvk
    obtain ⟨kk, w1, w2, w3, w4⟩ := id hv
    have hsg := rn_sg w1
    have h74 := X4.2.2.2
    obtain ⟨p1, p2, p3, p4, p5, p6⟩ := C4.1.row n0 n1 (by omega) (by omega)
    obtain ⟨C5, X5⟩ := C4.setnd (R 17 s.nd)
    have X45 := (RX.wx X4).trans X5
    have hKs := hKs x hx
    have hKe := hKe x hx
    have e7 : im_u M4 6952 83 (R 17 s.nd) 6952 7 = M4 6952 7 := im_rdk _ _ _ (by decide)
    have e55 : im_u M4 6952 83 (R 17 s.nd) 6955 = M4 6955 := im_u_ne _ _ _ (by decide)
    have hv5 : rnp (im_u M4 6952 83 (R 17 s.nd)) 0 (im_u M4 6952 83 (R 17 s.nd) 6952 7) r x := by rw [e7]; exact rnp_congr hv (fun i _ => by rw [e55]) (Int.le_refl _)
    have hri : im_i32 r := by constructor <;> omega
    rw [h101, p1, p2, p3, p5, hsg]
    refine ⟨fun _ => ⟨by constructor <;> omega, fun hpos => ?_, fun hneg => ?_⟩, fun z => absurd z (by decide)⟩
    · have hx0 : ¬ x ≤ 0 := fun z => by have := sg_le.mpr z; omega
      unfold payN at hKs hKe
      rw [if_neg hx0] at hKs hKe
      generalize hM5 : im_u M4 6952 83 (R 17 s.nd) = M5 at C5 X5 X45 e7 e55 hv5 ⊢
      obtain ⟨b1, b2, b3, b4⟩ := C5.2.1.1
      have b1 : M5 6952 85 = (s.acc.1 : Int) := b1
      have b2 : s.acc.1 ≤ 40 := b2
      have hps := ps_ok s.acc (R 4 s.nd) (R 6 s.nd)
      have hp0 := hps.1
      have h101' := C5.2.2.2.1.2.1
      obtain ⟨o1, o2, o3, o4, o5, o6⟩ := C5.1.row n0 n1 (by omega) (by omega)
      have O5 : OT (s.sNd (R 17 s.nd)) := hO
      refine c_hasAccount b1 b2 b3 ra rc hps (by omega) (fun hh => ⟨_, rfl, rfl, c_accountAt b1 b2 b3 ra rc hps ⟨_, rfl, rfl, by decide, fun z => absurd z (by decide), fun _ => ?_⟩⟩) (fun hh => ⟨_, rfl, rfl, c_accountAt b1 b2 b3 ra rc hps ⟨_, rfl, rfl, by decide, fun _ => ?_, fun z => absurd rfl z⟩⟩)
      · have hh' : hs2 s.acc (R 4 s.nd) (R 6 s.nd) := hh
        have hlt := hh.1
        have ei : (((ps s.acc (R 4 s.nd) (R 6 s.nd)).toNat : Nat) : Int) = ps s.acc (R 4 s.nd) (R 6 s.nd) := by omega
        have hvo := b4 (ps s.acc (R 4 s.nd) (R 6 s.nd)).toNat (by show _ < s.acc.1; omega)
        rw [ei] at hvo
        obtain ⟨l1, l2⟩ := (hld_pos hO.1.2 (a := R 4 s.nd) (b := R 6 s.nd)).1 hh'
        have hvo : rnp M5 0 (M5 6952 7) (M5 7013 (ps s.acc (R 4 s.nd) (R 6 s.nd))) (hld s.acc (R 4 s.nd) (R 6 s.nd)) := by rw [l2]; exact hvo
        obtain ⟨k2, y1, y2, y3, y4⟩ := id hvo
        obtain ⟨k5, u1, u2, u3, u4⟩ := id hv5
        refine ⟨by constructor <;> omega, c_order y1 u1 y2 u2 (by omega) (by omega) (by omega) (by omega) (by omega) ⟨_, rfl, rfl, by unfold cmpI; (repeat' split) <;> decide, fun hge => ⟨hri, fun _ _ => ?_, fun z => ?_⟩, fun hlt2 => ?_⟩⟩
        · have hle : x ≤ hld s.acc (R 4 s.nd) (R 6 s.nd) := by
            apply Decidable.byContradiction
            intro w
            unfold cmpI at hge; rw [if_pos (by omega)] at hge; omega
          rw [if_pos hle] at hKs hKe
          exact c_tail (s := s.sNd (R 17 s.nd)) C5 O5 hh' (by omega) (by show x ≤ s.acc.2.2.2 (ps s.acc (R 4 s.nd) (R 6 s.nd)); omega) hv5 hk hR3 n0 n1 ra rb rc (by omega) (by omega) (fun s' hs' M' X' t' C' => hKs s' hs' M' (X45.trans X') (by omega) C') (fun z hz z0 M' Z' => hKe z hz z0 M' (Z'.pre X45))
        · rw [h101'] at z
          omega
        · have hgt : ¬ x ≤ hld s.acc (R 4 s.nd) (R 6 s.nd) := fun w => by
            unfold cmpI at hlt2; rw [if_neg (by omega)] at hlt2; (repeat' split at hlt2) <;> omega
          rw [if_neg hgt] at hKs hKe
          rw [o2]
          refine c_rwarn C5 (by decide) ra rb rc hri (fun _ => hv5) (by omega) (fun s2 hs2' M6 X6 f6 g6 C6 => ⟨rfl, rfl, fun y hy => ?_⟩) (fun hw => ⟨rfl, rfl, fun y hy => ?_⟩)
          · rw [hs2'] at hKs hKe
            dsimp only at hKs hKe
            rw [if_pos l1] at hKs hKe
            obtain ⟨O6, nd6, acc6, _⟩ := warnO_ok O5 hs2'
            have acc6 : s2.acc = s.acc := acc6
            have e13 : M6 7013 = M5 7013 := f6 7013 (by decide) (by decide)
            have e75 := g6 7 (by decide)
            have e555 : M6 6955 = M5 6955 := f6 6955 (by decide) (by decide)
            rw [e13] at hy ⊢
            have hy1 : y = M5 7013 (ps s.acc (R 4 s.nd) (R 6 s.nd)) := by
              rcases hy with w | w
              · exact absurd w.1 (by decide)
              · exact w.2
            have h101'' := C6.2.2.2.1.2.1
            rw [h101'', hy1]
            have tl := c_tail (g := g) (d := d - 1) (K := K) (e := e) (s := s2) (r := M5 7013 (ps s.acc (R 4 s.nd) (R 6 s.nd))) (v := hld s.acc (R 4 s.nd) (R 6 s.nd)) C6 O6 (by rw [acc6]; exact hh') l1 (by rw [acc6]; omega) (by rw [e75]; exact rnp_congr hvo (fun i _ => by rw [e555]) (Int.le_refl _)) hk hR3 n0 n1 ra rb rc (by omega) (by omega) (fun s' hs' M' X' t' C' => hKs s' hs' M' ((X45.trans X6).trans X') (by omega) C') (fun z hz z0 M' Z' => hKe z hz z0 M' (Z'.pre (X45.trans X6)))
            rw [acc6, e13] at tl
            exact ⟨by constructor <;> omega, fun _ _ => tl, fun z => by omega⟩
          · rw [hw] at hKe
            have fin := hKe (-9) rfl (by decide) _ (C5.rz X45 (-9))
            have e13 : im_u M5 6952 101 (-9) 7013 = M5 7013 := im_u_ne _ _ _ (by decide)
            have e101 : im_u M5 6952 101 (-9) 6952 101 = -9 := im_rds _ _ _ _
            rw [e13] at hy ⊢
            rw [e101]
            have hy1 : y = M5 7013 (ps s.acc (R 4 s.nd) (R 6 s.nd)) := by
              rcases hy with w | w
              · exact absurd w.1 (by decide)
              · exact w.2
            exact ⟨by constructor <;> omega, fun _ z => absurd z (by decide), fun _ => fin⟩
      · have hh' : ¬ hs2 s.acc (R 4 s.nd) (R 6 s.nd) := hh
        have hl0 := (hld_pos hO.1.2 (a := R 4 s.nd) (b := R 6 s.nd)).2 hh'
        rw [hl0, if_neg (by omega)] at hKs hKe
        rw [o2]
        refine c_rwarn C5 (by decide) ra rb rc hri (fun _ => hv5) (by omega) (fun s2 hs2' M6 X6 f6 g6 C6 => ⟨rfl, rfl, fun z => absurd rfl z, fun y hy => ?_⟩) (fun hw => ⟨rfl, rfl, fun z => absurd rfl z, fun y hy => ?_⟩)
        · rw [hs2'] at hKs
          dsimp only at hKs
          rw [if_neg (by decide)] at hKs
          have hy1 : y = -1 := by
            rcases hy with w | w
            · exact w.2
            · exact absurd rfl w.1
          have e75 := g6 7 (by decide)
          exact ⟨by rw [hy1]; decide, fun z => absurd hy1 z, fun _ => hKs s2 rfl M6 (X45.trans X6) (by omega) C6⟩
        · rw [hw] at hKe
          have fin := hKe (-9) rfl (by decide) _ (C5.rz X45 (-9))
          have hy1 : y = -1 := by
            rcases hy with w | w
            · exact w.2
            · exact absurd rfl w.1
          exact ⟨by rw [hy1]; decide, fun z => absurd hy1 z, fun _ => fin⟩
    · have hx0 : x ≤ 0 := sg_le.mp hneg
      unfold payN at hKs hKe
      rw [if_pos hx0] at hKs hKe
      refine c_rwarn C5 (by decide) ra rb rc hri (fun _ => hv5) (by omega) (fun s2 hs2' M6 X6 f6 g6 C6 => ⟨rfl, rfl, ?_⟩) (fun hw => ⟨rfl, rfl, ?_⟩)
      · have e75 := g6 7 (by decide)
        exact hKs s2 hs2' M6 (X45.trans X6) (by omega) C6
      · exact hKe (-9) hw (by decide) _ (C5.rz X45 (-9))
  · rw [Z4.2.1]
    exact ⟨fun z => absurd z (by decide), fun _ => hKl hx _ (Z4.setnd _)⟩
end RSTEP2

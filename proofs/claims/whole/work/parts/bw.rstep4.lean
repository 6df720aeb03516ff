section RSTEP4
variable {g : im_g} {d : Nat} {e : im_E} {M : im_M} {K : im_K} {R : Rw} {m : Int} {giv : Bk} {st en lk : Int} {s : TS}
/-- parameters that are times -/
def TP (R : Rw) (m e0 : Int) (giv : Bk) : Prop := ∀ n, 0 ≤ n → n < m → R 0 n = 3 → n < e0 → (∀ j, n < j → j < e0 → R 1 j ≠ 0) → R 5 n ≠ 0 → 0 ≤ hld giv (R 5 n) 0 ∧ hld giv (R 5 n) 0 ≤ 1000000000000000
theorem c_rstep {e0 P : Int} (h : RT M R m giv st en lk s) (hO : OT s) (hW : WFP R m) (hT : TP R m e0 giv) (hV : VN R m s) (hE : EB R m e0 s.nd) (hP : M 6952 7 + 700 * (e0 - s.nd) + 400 * s.acc.1 ≤ P) (hP' : P ≤ 1100000) (hd : 14 ≤ d)
    (hK0 : stepO R giv st en lk s = none → ∀ M', WX M M' → M' 6952 7 = M 6952 7 → RT M' R m giv st en lk s → K (.inl (some (vI 0))) e M')
    (hKs : ∀ s', stepO R giv st en lk s = some (.inr s') → ∀ M', RX M M' → RT M' R m giv st en lk s' → OT s' → VN R m s' → EB R m e0 s'.nd → M' 6952 7 + 700 * (e0 - s'.nd) + 400 * s'.acc.1 ≤ P → mea R s' < mea R s → K (.inl (some (vI 1))) e M')
    (hKe : ∀ z, stepO R giv st en lk s = some (.inl z) → z < 0 → ∀ M', RZ M M' R m giv lk z → K (.inl (some (vI 1))) e M') : im_T g d 365 0 [some (.ref 6952), none, none, none, none, none, none, none] [] e M K := by
  have hm := hW.2.1
  obtain ⟨n0, n1, k0, k5⟩ := id hV
  have h83 : M 6952 83 = s.nd := h.2.2.2.1.1
  have h101 := h.2.2.2.1.2.1
  have hr0 : M 6960 s.nd = kR (R 0 s.nd) (R 3 s.nd) := (h.1 s.nd n0 n1).1
  obtain ⟨y1, y2, y3, y4⟩ := h.2.1.1
  have y2 : s.acc.1 ≤ 40 := y2
  have hlt := hE.lt
  have hD := (hW.2.2 s.nd n0 n1).2.2.1
  have h70 := h.2.2.1.2
  -- the next contract is deeper
  have next : ∀ {s' : TS}, 0 ≤ s'.nd → s'.nd < m → bgn 99 (R 0 s'.nd) → R 1 s'.nd = R 1 s.nd + 1 → s'.acc.1 ≤ 40 → R 0 s.nd ≠ 0 → VN R m s' ∧ mea R s' < mea R s := fun {s'} a b c hd' ha hn => by
    have c' : 0 ≤ R 0 s'.nd ∧ R 0 s'.nd ≤ 5 := by unfold bgn at c; omega
    refine ⟨⟨a, b, c'⟩, ?_⟩
    have hD' := (hW.2.2 s'.nd a b).2.2.1
    unfold mea
    rw [if_neg hn]
    by_cases z : R 0 s'.nd = 0
    · rw [if_pos z]; omega
    · rw [if_neg z]; omega
  by_cases hk0 : R 0 s.nd = 0
  · -- close
    have hkr : kR (R 0 s.nd) (R 3 s.nd) = 1 := by rw [hk0]; unfold kR; rw [if_pos rfl]
    rw [hkr] at hr0
    refine im_rng (j := 0) sf_7011 (Int.le_refl _) (by show (0 : Int) < 41; decide) (fun ra => im_rng (j := 0) sf_7012 (Int.le_refl _) (by show (0 : Int) < 41; decide) (fun rc => ?_))
    have ra : im_i64 (M 7011 0) := ra
    have rc : im_i64 (M 7012 0) := rc
    refine b_step_0 (by omega) ?_
    rw [h83, hr0, y1]
    refine ⟨by constructor <;> omega, fun _ => ⟨fun hz => ?_, fun hz => ?_⟩, fun z => by omega, fun z => by omega, fun z => by omega, fun z => by omega, fun z => by omega⟩
    · have hz' : s.acc.1 ≠ 0 := fun w => hz (by omega)
      have hstep : stepO R giv st en lk s = some (payO lk (s.sCp 1) 0 (s.acc.2.1 0) (s.acc.2.1 0) (s.acc.2.2.1 0) (s.acc.2.2.2 0)) := by rw [stepO_0 hk0, if_neg hz']
      obtain ⟨C1, X1⟩ := h.cpx (M' := im_u M 6952 103 1) (y := 1) (fun x a _ _ => im_u_ne _ _ _ a) (fun k _ _ a => im_rdk _ _ _ a) (fun i _ => by rw [im_rdn _ _ _ _ (by decide)]) (by rw [im_rdk _ _ _ (by decide)]; exact Int.le_refl _) (by rw [im_rdk _ _ _ (by decide)]; exact h.2.2.2.2.1.2.2) (im_rds _ _ _ _)
      obtain ⟨e1, e2⟩ := hs2_eq hO.1.1 (i := 0) (Int.le_refl _) (by omega) rfl rfl
      obtain ⟨nA, nB⟩ := y3 0 (Nat.pos_of_ne_zero hz')
      have nA : M 7011 0 = s.acc.2.1 0 := nA
      have nB : M 7012 0 = s.acc.2.2.1 0 := nB
      have hv : rnp M 0 (M 6952 7) (M 7013 0) (s.acc.2.2.2 0) := y4 0 (Nat.pos_of_ne_zero hz')
      have hpos := hO.1.2 0 (Int.le_refl _) (by omega)
      have hO2 : OT (s.sCp 1) := hO
      have hb : bdeb s.acc (s.acc.2.1 0) (s.acc.2.2.1 0) (s.acc.2.2.2 0) = brem s.acc (s.acc.2.1 0) (s.acc.2.2.1 0) := by
        unfold bdeb
        rw [if_pos e2, e1, if_pos (by omega)]
      have hle : hs2 (s.sCp 1).acc (s.acc.2.1 0) (s.acc.2.2.1 0) → s.acc.2.2.2 0 ≤ (s.sCp 1).acc.2.2.2 (ps (s.sCp 1).acc (s.acc.2.1 0) (s.acc.2.2.1 0)) := fun _ => by
        show s.acc.2.2.2 0 ≤ s.acc.2.2.2 (ps s.acc (s.acc.2.1 0) (s.acc.2.2.1 0))
        rw [e1]; exact Int.le_refl _
      have hbd := bdeb_ok (v := s.acc.2.2.2 0) hO.1.1 hO.1.2 hle
      rw [hb] at hbd
      refine c_drop C1 e2 e1.symm (fun M2 X2 f2 g2 C2 => ⟨rfl, rfl, ?_⟩)
      have e7 : M2 6952 7 = M 6952 7 := (g2 7 (by decide)).trans (im_rdk _ _ _ (by decide))
      have e55 : M2 6955 = M 6955 := (f2 6955 (by decide) (by decide) (by decide) (by decide)).trans (im_u_ne _ _ _ (by decide))
      rw [nA] at ra ⊢
      rw [nB] at rc ⊢
      refine c_rpayOut C2 ⟨hbd, hO.2⟩ (Or.inl rfl) (by rw [e7]; exact rnp_congr hv (fun i _ => by rw [e55]) (Int.le_refl _)) ra ra rc (by omega) (by omega) (fun s' hs' M3 X3 t3 C3 => ⟨rfl, rfl, ?_⟩) (fun z hz z0 M3 Z3 => ⟨rfl, rfl, ?_⟩)
      · have hs' : payO lk (s.sCp 1) 0 (s.acc.2.1 0) (s.acc.2.1 0) (s.acc.2.2.1 0) (s.acc.2.2.2 0) = .inr s' := by rw [payO_R]; show payR lk ((s.sCp 1).sAcc (bdeb s.acc _ _ _)) _ _ _ _ _ = _; rw [hb]; exact hs'
        obtain ⟨O3, hnd⟩ := payO_ok hO2 hpos hle hs'
        have hnd : s'.nd = s.nd := hnd
        have hcnt := payO_0 hO hz' hs'
        refine hKs s' (by rw [hstep, hs']) M3 ((X1.trans X2).trans X3) C3 O3 (by unfold VN; rw [hnd]; exact hV) (by rw [hnd]; exact hE) (by rw [hnd]; omega) ?_
        unfold mea
        rw [hnd, if_pos hk0, if_pos hk0]
        omega
      · have hz : payO lk (s.sCp 1) 0 (s.acc.2.1 0) (s.acc.2.1 0) (s.acc.2.2.1 0) (s.acc.2.2.2 0) = .inl z := by rw [payO_R]; show payR lk ((s.sCp 1).sAcc (bdeb s.acc _ _ _)) _ _ _ _ _ = _; rw [hb]; exact hz
        exact hKe z (by rw [hstep, hz]) z0 M3 (Z3.pre (X1.trans X2))
    · exact hK0 (by rw [stepO_0 hk0, if_pos (by omega)]) M (WX.rf M) rfl h
  by_cases hk3 : R 0 s.nd = 3
  · -- when
    have hkr : kR (R 0 s.nd) (R 3 s.nd) = 5 := by rw [hk3]; unfold kR; rw [if_neg (by decide), if_neg (by decide), if_pos (by decide)]; rfl
    rw [hkr] at hr0
    obtain ⟨cs, q0, c1, c2, c3, c4, c5, c6, c7⟩ := kids_w (hW.2.2 _ n0 n1).1 hk3
    obtain ⟨⟨v1, v2, v3⟩, _, v4, _⟩ := (hW.2.2 s.nd n0 n1).2.1
    have v4 := (v4 hk3).1
    have hTn := hT s.nd n0 n1 hk3 hE.lt hE.2
    have h99 : M 6952 99 = st := h.2.1.2.2.2.2.1.1
    have h100 : M 6952 100 = en := h.2.1.2.2.2.2.1.2
    have hti : 0 ≤ tmo R giv s.nd ∧ tmo R giv s.nd ≤ 1000000000000000 := by
      unfold tmo
      by_cases z : R 5 s.nd = 0
      · rw [if_pos z]; exact ⟨v1, v4⟩
      · rw [if_neg z]
        unfold asT
        rw [if_pos (hTn z)]
        exact hTn z
    have hE17 := hE.w17 hW n0 n1 hk3
    clear hTn
    refine b_step_0 (by omega) ?_
    rw [h83, hr0, h100]
    refine ⟨by constructor <;> omega, fun z => by omega, fun z => by omega, fun z => by omega, fun _ => ?_, fun z => by omega, fun z => by omega⟩
    refine c_rtimeOf h hm n0 n1 hk3 (hT s.nd n0 n1 hk3 hE.lt hE.2) ⟨v1, v4⟩ (by omega) (by omega) (fun M1 X1 t1 C1 => ⟨_, rfl, rfl, by constructor <;> omega, fun hle => ?_, fun hgt => ?_⟩)
    · refine c_rtimeOf C1 hm n0 n1 hk3 (hT s.nd n0 n1 hk3 hE.lt hE.2) ⟨v1, v4⟩ (by omega) (by omega) (fun M2 X2 t2 C2 => ⟨_, rfl, rfl, by constructor <;> omega, fun hle2 => ?_, fun hgt2 => ?_⟩)
      · have h99' : M1 6952 99 = st := C1.2.1.2.2.2.2.1.1
        rw [h99'] at hle2
        have q5 : M2 6965 s.nd = R 17 s.nd := (C2.1 s.nd n0 n1).2.2.2.1.2.1
        rw [q5]
        obtain ⟨C3, X3⟩ := C2.setnd (R 17 s.nd)
        have e7 : im_u M2 6952 83 (R 17 s.nd) 6952 7 = M2 6952 7 := im_rdk _ _ _ (by decide)
        obtain ⟨V1, me⟩ := next (s' := s.sNd (R 17 s.nd)) (by show 0 ≤ R 17 s.nd; omega) c5 c7 c6 y2 hk0
        exact hKs (s.sNd (R 17 s.nd)) (by rw [stepO_3 hk3, if_neg (by omega), if_neg (by omega)]) _ (((RX.wx X1).trans (RX.wx X2)).trans X3) C3 hO V1 hE17 (by rw [e7]; show M2 6952 7 + 700 * (e0 - R 17 s.nd) + 400 * s.acc.1 ≤ P; omega) me
      · have h99' : M1 6952 99 = st := C1.2.1.2.2.2.2.1.1
        rw [h99'] at hgt2
        exact c_refuse C2.2.2.2.1.2.1 (by decide) ⟨rfl, rfl, hKe (-4) (by rw [stepO_3 hk3, if_neg (by omega), if_pos (by omega)]) (by decide) _ ((C2.rz ((RX.wx X1).trans (RX.wx X2)) (-4)).setnd _)⟩
    · exact hK0 (by rw [stepO_3 hk3, if_pos hgt]) M1 X1 t1 C1
  -- a value or an observation first
  have hkk : R 0 s.nd = 1 ∨ R 0 s.nd = 2 ∨ R 0 s.nd = 4 ∨ R 0 s.nd = 5 := by omega
  obtain ⟨⟨j0, j1, j2, j3, j4⟩, ⟨i1, i2, i3, i4, i5⟩, h18⟩ := kids_c (hW.2.2 _ n0 n1).1 hkk
  obtain ⟨E17, E1, E18⟩ := hE.c17 hW n0 n1 hkk
  obtain ⟨⟨e1, he1, he10⟩, -⟩ := E1
  have he11 := he1.1
  replace j3 : Wr (R 0 s.nd = 1 ∨ R 0 s.nd = 4 → vkd (R 0 (s.nd + 1))) := j3
  replace j4 : Wr (R 0 s.nd = 2 ∨ R 0 s.nd = 5 → okd (R 0 (s.nd + 1))) := j4
  replace h18 : Wr (R 0 s.nd = 2 → nx R (R 17 s.nd) (R 18 s.nd) ∧ R 17 s.nd < R 18 s.nd ∧ R 18 s.nd < m ∧ R 1 (R 18 s.nd) = R 1 s.nd + 1 ∧ bgn 99 (R 0 (R 18 s.nd))) := h18
  replace E18 : Wr (R 0 s.nd = 2 → EB R m e0 (R 18 s.nd)) := E18
  replace i5 : Wr (bgn 99 (R 0 (R 17 s.nd))) := i5
  replace hkk : Wr (R 0 s.nd = 1 ∨ R 0 s.nd = 2 ∨ R 0 s.nd = 4 ∨ R 0 s.nd = 5) := hkk
  have hlt17 := E17.lt
  have q4 : M 6964 s.nd = s.nd + 1 := by rw [(h.1 s.nd n0 n1).2.2.2.1.1]; exact j0
  rcases hkk with hk | hk | hk | hk
  · -- pay
    have hR3 : R 3 s.nd = 0 ∨ R 3 s.nd = 1 := (hW.2.2 s.nd n0 n1).2.1.2.2.2 hk
    have hkr : kR (R 0 s.nd) (R 3 s.nd) = 2 + R 3 s.nd := by rw [hk]; unfold kR; rw [if_neg (by decide), if_pos rfl]
    rw [hkr] at hr0
    refine b_step_0 (by omega) ?_
    rw [h83, hr0]
    refine ⟨by constructor <;> omega, fun z => by omega, fun _ => ?_, fun z => by omega, fun z => by omega, fun z => by omega, fun z => by omega⟩
    refine c_stepPay h hO hW n0 n1 hk he1 (by omega) (by omega) (by omega) (fun hx M1 Z1 => ⟨rfl, rfl, ?_⟩) (fun x hx s' hs' M1 X1 t1 C1 => ⟨rfl, rfl, ?_⟩) (fun x hx z hz z0 M1 Z1 => ⟨rfl, rfl, ?_⟩)
    · exact hKe (-8) (stepO_n hk0 hk3 hx) (by decide) M1 Z1
    · obtain ⟨O1, nd1, ac1⟩ := payN_ok hO hs'
      have ha : s'.acc.1 ≤ 40 := C1.2.1.1.2.1
      obtain ⟨V1, me⟩ := next (s' := s') (by rw [nd1]; omega) (by rw [nd1]; exact i3) (by rw [nd1]; exact i5) (by rw [nd1]; exact i4) ha hk0
      exact hKs s' (by rw [stepO_s hk0 hk3 hx, if_pos hk, hs']) M1 X1 C1 O1 V1 (by rw [nd1]; exact E17) (by rw [nd1]; omega) me
    · exact hKe z (by rw [stepO_s hk0 hk3 hx, if_pos hk, hz]) z0 M1 Z1
  · -- if
    have hkr : kR (R 0 s.nd) (R 3 s.nd) = 4 := by rw [hk]; unfold kR; rw [if_neg (by decide), if_neg (by decide), if_pos (by decide)]; rfl
    rw [hkr] at hr0
    have hok := j4 (Or.inl hk)
    obtain ⟨l1, l2, l3, l4, l5⟩ := h18 hk
    have E18 := E18 hk
    replace l5 : Wr (bgn 99 (R 0 (R 18 s.nd))) := l5
    replace hok : Wr (okd (R 0 (s.nd + 1))) := hok
    have hlt18 := E18.lt
    refine b_step_0 (by omega) ?_
    rw [h83, hr0, q4]
    refine ⟨by constructor <;> omega, fun z => by omega, fun z => by omega, fun _ => ?_, fun z => by omega, fun z => by omega, fun z => by omega⟩
    refine c_worked h hW (by omega) j1 (Or.inr hok) he1 (by omega) (by omega) (fun M1 r x hx X1 t1 C1 _ o1 => ⟨_, rfl, rfl, ?_⟩) (fun hx M1 Z1 => ⟨_, rfl, rfl, ?_⟩)
    · have hrx := o1 hok
      subst hrx
      have h01 := ev_01 hW 101 (s.nd + 1) r (by omega) j1 hok hx
      obtain ⟨_, q5, q6, _⟩ := (C1.1 s.nd n0 n1).2.2.2.1
      rw [q5, q6]
      refine ⟨by constructor <;> omega, fun y hy => ?_⟩
      have hy' : y = if r = 1 then R 17 s.nd else R 18 s.nd := by
        by_cases c : r = 1
        · rw [if_pos c]; omega
        · rw [if_neg c]; omega
      have hyb : 0 ≤ y ∧ y < m ∧ bgn 99 (R 0 y) ∧ R 1 y = R 1 s.nd + 1 ∧ EB R m e0 y ∧ s.nd + 2 ≤ y := by
        rw [hy']
        by_cases c : r = 1
        · rw [if_pos c]; exact ⟨by omega, i3, i5, i4, E17, by omega⟩
        · rw [if_neg c]; exact ⟨by omega, l3, l5, l4, E18, by omega⟩
      obtain ⟨C2, X2⟩ := C1.setnd y
      have e7 : im_u M1 6952 83 y 6952 7 = M1 6952 7 := im_rdk _ _ _ (by decide)
      obtain ⟨z1, z2, z3, z4, z5, z6⟩ := hyb
      obtain ⟨V1, me⟩ := next (s' := s.sNd y) z1 z2 z3 z4 y2 hk0
      clear z3
      refine ⟨by constructor <;> omega, hKs (s.sNd y) (by rw [stepO_s hk0 hk3 hx, if_neg (by omega), if_pos hk, hy']) _ ((RX.wx X1).trans X2) C2 hO V1 z5 (by rw [e7]; show M1 6952 7 + 700 * (e0 - y) + 400 * s.acc.1 ≤ P; omega) me⟩
    · have q6 : M1 6966 s.nd = R 18 s.nd := by rw [Z1.1.1 6966 (by decide) (by decide) (by decide) (by decide)]; exact (h.1 s.nd n0 n1).2.2.2.1.2.2.1
      refine ⟨by decide, fun y hy => ?_⟩
      rw [q6] at hy
      refine ⟨?_, hKe (-8) (stepO_n hk0 hk3 hx) (by decide) _ (Z1.setnd _)⟩
      have : y = R 18 s.nd := by
        rcases hy with w | w
        · exact w.2
        · exact absurd w.1 (by decide)
      constructor <;> omega
  · -- let
    have hkr : kR (R 0 s.nd) (R 3 s.nd) = 6 := by rw [hk]; unfold kR; rw [if_neg (by decide), if_neg (by decide), if_pos (by decide)]; rfl
    rw [hkr] at hr0
    refine b_step_0 (by omega) ?_
    rw [h83, hr0]
    refine ⟨by constructor <;> omega, fun z => by omega, fun z => by omega, fun z => by omega, fun z => by omega, fun _ => ?_, fun z => by omega⟩
    refine c_stepLet h hO hW n0 n1 hk he1 (by omega) (by omega) (by omega) (fun hx M1 Z1 => ⟨rfl, rfl, ?_⟩) (fun x hx s' hs' M1 X1 t1 C1 => ⟨rfl, rfl, ?_⟩) (fun x hx z hz z0 M1 Z1 => ⟨rfl, rfl, ?_⟩)
    · exact hKe (-8) (stepO_n hk0 hk3 hx) (by decide) M1 Z1
    · obtain ⟨O1, nd1, ac1⟩ := letN_ok hO hs'
      obtain ⟨V1, me⟩ := next (s' := s') (by rw [nd1]; omega) (by rw [nd1]; exact i3) (by rw [nd1]; exact i5) (by rw [nd1]; exact i4) (by rw [ac1]; exact y2) hk0
      exact hKs s' (by rw [stepO_s hk0 hk3 hx, if_neg (by omega), if_neg (by omega), if_pos hk, hs']) M1 X1 C1 O1 V1 (by rw [nd1]; exact E17) (by rw [nd1, ac1]; omega) me
    · exact hKe z (by rw [stepO_s hk0 hk3 hx, if_neg (by omega), if_neg (by omega), if_pos hk, hz]) z0 M1 Z1
  · -- assert
    have hkr : kR (R 0 s.nd) (R 3 s.nd) = 7 := by rw [hk]; unfold kR; rw [if_neg (by decide), if_neg (by decide), if_pos (by decide)]; rfl
    rw [hkr] at hr0
    have hok := j4 (Or.inr hk)
    replace hok : Wr (okd (R 0 (s.nd + 1))) := hok
    refine b_step_0 (by omega) ?_
    rw [h83, hr0, q4]
    refine ⟨by constructor <;> omega, fun z => by omega, fun z => by omega, fun z => by omega, fun z => by omega, fun z => by omega, fun _ => ?_⟩
    refine c_worked h hW (by omega) j1 (Or.inr hok) he1 (by omega) (by omega) (fun M1 r x hx X1 t1 C1 _ o1 => ⟨_, rfl, rfl, ?_⟩) (fun hx M1 Z1 => ⟨_, rfl, rfl, ?_⟩)
    · have hrx := o1 hok
      subst hrx
      have h01 := ev_01 hW 101 (s.nd + 1) r (by omega) j1 hok hx
      obtain ⟨_, q5, _, _⟩ := (C1.1 s.nd n0 n1).2.2.2.1
      rw [q5, C1.2.2.2.1.2.1]
      obtain ⟨C2, X2⟩ := C1.setnd (R 17 s.nd)
      have e7 : im_u M1 6952 83 (R 17 s.nd) 6952 7 = M1 6952 7 := im_rdk _ _ _ (by decide)
      have hst := stepO_s (lk := lk) hk0 hk3 hx
      rw [if_neg (by omega), if_neg (by omega), if_neg (by omega)] at hst
      refine ⟨by constructor <;> omega, fun hz _ => ?_, fun hor => ?_⟩
      · rw [if_neg (by omega)] at hst
        refine c_rwarn (v := 0) C2 (by decide) (by decide) (by decide) (by decide) (by decide) (fun z => absurd rfl z) (by omega) (fun s2 hs2' M3 X3 f3 g3 C3 => ⟨rfl, rfl, ?_⟩) (fun hw => ⟨rfl, rfl, ?_⟩)
        · obtain ⟨O2, nd2, ac2, _⟩ := warnO_ok (s := s.sNd (R 17 s.nd)) hO hs2'
          have nd2 : s2.nd = R 17 s.nd := nd2
          have ac2 : s2.acc = s.acc := ac2
          have e73 := g3 7 (by decide)
          obtain ⟨V1, me⟩ := next (s' := s2) (by rw [nd2]; omega) (by rw [nd2]; exact i3) (by rw [nd2]; exact i5) (by rw [nd2]; exact i4) (by rw [ac2]; exact y2) hk0
          exact hKs s2 (by rw [hst, hs2']) M3 (((RX.wx X1).trans X2).trans X3) C3 O2 V1 (by rw [nd2]; exact E17) (by rw [nd2, ac2]; omega) me
        · exact hKe (-9) (by rw [hst, hw]) (by decide) _ (C2.rz ((RX.wx X1).trans X2) (-9))
      · have h1 : r = 1 := by
          rcases hor with w | w
          · omega
          · exact absurd rfl w.2
        rw [if_pos h1] at hst
        obtain ⟨V1, me⟩ := next (s' := s.sNd (R 17 s.nd)) (by show 0 ≤ R 17 s.nd; omega) i3 i5 i4 y2 hk0
        exact hKs (s.sNd (R 17 s.nd)) hst _ ((RX.wx X1).trans X2) C2 hO V1 E17 (by rw [e7]; show M1 6952 7 + 700 * (e0 - R 17 s.nd) + 400 * s.acc.1 ≤ P; omega) me
    · refine ⟨by decide, fun _ z => ?_, fun _ => hKe (-8) (stepO_n hk0 hk3 hx) (by decide) _ (Z1.setnd _)⟩
      rw [Z1.2.1] at z
      exact absurd z (by decide)
end RSTEP4

section CRED2
variable {g : im_g} {d : Nat} {e : im_E} {K : im_K} {R : Rw} {m E : Int} {giv : Bk} {st en lk : Int} {bs bp np : Nat}
theorem l_reduce (hW : WFP R m) (hd : 110 ≤ d) : ∀ (f : Nat) (s : TS) (M : im_M) (p1 : Int), mea R s < f → 0 ≤ p1 → p1 + f ≤ 1000 → CT M e R m E giv st en lk 0 s bs bp np → OT s → VN R m s →
    (∀ s', redO R giv st en lk f s = .inr s' → ∀ M', XT bs M M' → CT M' e R m E giv st en lk 0 s' bs bp np → OT s' → VN R m s' → K (.inl (some (vI 0))) e M') →
    (∀ c, redO R giv st en lk f s = .inl c → c ≠ 0 → im_i32 c → ∀ M', XT bs M M' → CX M' e R m E giv st en lk bs bp np → K (.inl (some (vI c))) e M') →
    im_T g d 111 2 [some (.ref 931), some (vI p1), none, none, none, none, none] [] e M K := by
  have hm := hW.2.1
  intro f
  induction f with
  | zero =>
    intro s M p1 hf _ _ hC hO hV
    exfalso
    unfold mea at hf
    by_cases h0 : R 0 s.nd = 0
    · rw [if_pos h0] at hf; omega
    · rw [if_neg h0] at hf
      have := (hW.2.2 s.nd hV.1 hV.2.1).2.2.1
      omega
  | succ f ih =>
    intro s M p1 hf p0 pf hC hO hV hKs hKe
    obtain ⟨n0, n1, k0, k5⟩ := id hV
    have hb4 := hC.1.1.1
    have t1 := hC.1.2.1.1
    have h5 : M bs 5 = s.nd := hC.2.2.2.1.2.2.2
    have h11 : M 931 11 = en := hC.1.2.2.2.2.2.1.2
    have h10 : M 931 10 = st := hC.1.2.2.2.2.2.1.1
    have hst := hC.1.2.2.2.2.2.2.1
    have hen := hC.1.2.2.2.2.2.2.2
    have hst : 0 ≤ st ∧ st ≤ 1000000000000000 := hst
    have hen : 0 ≤ en ∧ en ≤ 1000000000000000 := hen
    have ei : im_i64 en := by constructor <;> omega
    have r1 : M 14 s.nd = R 0 s.nd := (hC.2.1.2 _ n0 n1).1.1
    have hD := (hW.2.2 s.nd n0 n1).2.2.1
    have hacc : s.acc.1 ≤ 40 := by
      obtain ⟨π, k1, _⟩ := hC.1.2.2.2.2.1.1
      exact k1.2.1
    -- one more turn
    have go : ∀ {s' : TS} {M' : im_M}, stepO R giv st en lk s = some (.inr s') → XT bs M M' → CT M' e R m E giv st en lk 0 s' bs bp np → OT s' → VN R m s' → mea R s' < f → im_T g d 111 2 [some (.ref 931), some (vI (p1 + 1)), none, none, none, none, none] [] e M' K := fun {s' M'} hs X' C' O' V' hme => by
      rw [redO_s hs] at hKs hKe
      exact ih s' M' (p1 + 1) hme (by omega) (by omega) C' O' V' (fun s2 h2 M2 X2 C2 O2 V2 => hKs s2 h2 M2 (X'.trans X2) C2 O2 V2) (fun c hc c0 ci M2 X2 C2 => hKe c hc c0 ci M2 (X'.trans X2) C2)
    have stop : ∀ {c : Int} {M' : im_M}, stepO R giv st en lk s = some (.inl c) → c ≠ 0 → im_i32 c → XT bs M M' → CX M' e R m E giv st en lk bs bp np → K (.inl (some (vI c))) e M' := fun {c M'} hs c0 ci X' C' => hKe c (redO_e hs) c0 ci M' X' C'
    -- the next contract is deeper
    have next : ∀ {s' : TS}, 0 ≤ s'.nd → s'.nd < m → bgn 99 (R 0 s'.nd) → R 1 s'.nd = R 1 s.nd + 1 → s'.acc.1 ≤ 40 → R 0 s.nd ≠ 0 → VN R m s' ∧ mea R s' < f := fun {s'} a b c hd' ha hn => by
      have c' : 0 ≤ R 0 s'.nd ∧ R 0 s'.nd ≤ 5 := by unfold bgn at c; omega
      refine ⟨⟨a, b, c'⟩, ?_⟩
      have hD' := (hW.2.2 s'.nd a b).2.2.1
      unfold mea at hf ⊢
      rw [if_neg hn] at hf
      by_cases z : R 0 s'.nd = 0
      · rw [if_pos z]; omega
      · rw [if_neg z]; omega
    by_cases hk0 : R 0 s.nd = 0
    · -- close
      refine im_rng (j := 0) hC.1.2.1.2.1.1.2.1 (Int.le_refl _) (by show (0 : Int) < 40; decide) (fun hrA => im_rng (j := 0) hC.1.2.1.2.1.1.2.2.1 (Int.le_refl _) (by show (0 : Int) < 40; decide) (fun hrB => ?_))
      have hrA : im_i64 (M ((bs + 1) + 3) 0) := hrA
      have hrB : im_i64 (M ((bs + 1) + 4) 0) := hrB
      refine k_Machine_reduce_2 (by omega) ⟨by constructor <;> omega, fun z => by omega, fun _ => ⟨bs, hb4, t1, ?_⟩⟩
      rw [h5, r1, hk0, h11]
      refine ⟨by constructor <;> omega, fun z => absurd rfl z, fun _ => ?_⟩
      refine c_isQuiet hC hm n0 n1 ei (by omega) (fun hq => ⟨_, rfl, rfl, by decide, fun z => absurd z (by decide), fun _ => ?_⟩) (fun hq => ⟨_, rfl, rfl, by decide, fun _ => ⟨fun _ => ⟨fun z => absurd rfl z, fun _ => ?_⟩, fun z => absurd z (by decide)⟩, fun z => absurd rfl z⟩)
      · have hz : s.acc.1 = 0 := by
          rcases hq with w | w
          · exact w.2
          · omega
        exact hKs s (redO_n (by rw [stepO_0 hk0, if_pos hz])) M (XT.rf _ _) hC hO hV
      · have hz : s.acc.1 ≠ 0 := fun z => hq (Or.inl ⟨hk0, z⟩)
        have hstep : stepO R giv st en lk s = some (payO lk (s.sCp 1) 0 (s.acc.2.1 0) (s.acc.2.1 0) (s.acc.2.2.1 0) (s.acc.2.2.2 0)) := by rw [stepO_0 hk0, if_neg hz]
        obtain ⟨u1, u2, u3, u4, u5⟩ := hC.1.2.1
        obtain ⟨π, q1, q2, q3⟩ := hC.1.2.2.2.2.1.1
        obtain ⟨w1, w2⟩ := q1.2.2.1 0 (by omega)
        have w2 : M ((bs + 1) + 5) 0 = ((bs + 1 + 6 + 2 * π 0 : Nat) : Int) := w2
        have hv := q2 0 (Nat.pos_of_ne_zero hz)
        have hv : cn M (bs + 1 + 6 + 2 * π 0) (s.acc.2.2.2 0) := hv
        obtain ⟨nA, nB⟩ := q1.2.2.2.2 0 (Nat.pos_of_ne_zero hz)
        have nA : M ((bs + 1) + 3) 0 = s.acc.2.1 0 := nA
        have nB : M ((bs + 1) + 4) 0 = s.acc.2.2.1 0 := nB
        have hbs := hC.1.2.2.1
        have hpos := hO.1.2 0 (Int.le_refl _) (by omega)
        rw [nA] at hrA
        rw [nB] at hrB
        refine ⟨bs, hb4, t1, bs, hb4, t1, _, w2, u2.2 _ w1, c_copy nm_934 (u2.2 _ w1) (by omega) hv (fun M1 f1 z1 => ⟨rfl, rfl, ?_⟩)⟩
        obtain ⟨C1, X1⟩ := hC.pd (fun y hy => f1 y (by omega) (by omega)) ⟨_, z1⟩
        obtain ⟨C2, X2⟩ := C1.cpd 1
        refine ⟨bs, C1.1.1.1, t1, ?_⟩
        have e4 : im_u M1 931 13 1 ((bs + 1) + 4) 0 = s.acc.2.2.1 0 := by
          rw [im_u_ne _ _ _ (by omega), f1 _ (by omega) (by omega)]; exact nB
        rw [e4, nA]
        have hO2 : OT (s.sCp 1) := hO
        have hle : hs2 (s.sCp 1).acc (s.acc.2.1 0) (s.acc.2.2.1 0) → s.acc.2.2.2 0 ≤ (s.sCp 1).acc.2.2.2 (ps (s.sCp 1).acc (s.acc.2.1 0) (s.acc.2.2.1 0)) := fun _ => by
          obtain ⟨e1, _⟩ := hs2_eq hO.1.1 (i := 0) (Int.le_refl _) (by omega) rfl rfl
          show s.acc.2.2.2 0 ≤ s.acc.2.2.2 (ps s.acc (s.acc.2.1 0) (s.acc.2.2.1 0))
          rw [e1]; exact Int.le_refl _
        refine c_payOut C2 hO2 (cn_congr z1 (im_u_ne _ _ _ (by decide)) (im_u_ne _ _ _ (by decide))) hpos hle (Or.inl rfl) hrA hrA hrB (by omega) (fun s' hs' M3 X3 C3 => ⟨_, rfl, rfl, by decide, fun _ => ?_, fun z => absurd rfl z⟩) (fun c hc c0 ci M3 X3 C3 => ⟨_, rfl, rfl, ci, fun z => absurd z c0, fun _ => ?_⟩)
        · rw [hs'] at hstep
          obtain ⟨O3, hnd⟩ := payO_ok hO2 hpos hle hs'
          have hnd : s'.nd = s.nd := hnd
          have hcnt := payO_0 hO hz hs'
          refine go hstep ((X1.trans X2).trans X3) C3 O3 (by unfold VN; rw [hnd]; exact hV) ?_
          unfold mea at hf ⊢
          rw [hnd, if_pos hk0]
          rw [if_pos hk0] at hf
          omega
        · rw [hc] at hstep
          exact stop hstep c0 ci ((X1.trans X2).trans X3) C3
    by_cases hk3 : R 0 s.nd = 3
    · -- when
      obtain ⟨cs, q0, c1, c2, c3, c4, c5, c6, c7⟩ := kids_w (hW.2.2 _ n0 n1).1 hk3
      refine k_Machine_reduce_2 (by omega) ⟨by constructor <;> omega, fun z => by omega, fun _ => ⟨bs, hb4, t1, ?_⟩⟩
      rw [h5, r1, hk3, h11]
      refine ⟨by constructor <;> omega, fun _ z => absurd rfl z, fun _ => ?_⟩
      refine c_isQuiet hC hm n0 n1 ei (by omega) (fun hq => ⟨_, rfl, rfl, by decide, fun z => absurd z (by decide), fun _ => ?_⟩) (fun hq => ⟨_, rfl, rfl, by decide, fun _ => ⟨fun z => absurd rfl z, fun _ => ?_⟩, fun z => absurd rfl z⟩)
      · have hz : en < tmo R giv s.nd := by
          rcases hq with w | w
          · omega
          · exact w.2
        exact hKs s (redO_n (by rw [stepO_3 hk3, if_pos hz])) M (XT.rf _ _) hC hO hV
      · have hz : ¬ en < tmo R giv s.nd := fun z => hq (Or.inr ⟨hk3, z⟩)
        refine k_Machine_passWhen_0 (by omega) (c_timeOf hC.2.1 hC.1 hm n0 n1 (by omega) (fun hi => ⟨_, rfl, rfl, hi, fun h => ⟨bs, hb4, t1, c_behindCases hC.2.1 hW n0 n1 hk3 (by omega) ⟨_, rfl, rfl, by constructor <;> omega, _, rfl, rfl, by decide, fun _ => ?_, fun z => absurd rfl z⟩⟩, fun h => ⟨_, rfl, rfl, by decide, fun z => absurd z (by decide), fun _ => ?_⟩⟩))
        · rw [h10] at h
          obtain ⟨C1, X1⟩ := hC.node (R 17 s.nd)
          obtain ⟨V1, M1⟩ := next (s' := s.sNd (R 17 s.nd)) (by show 0 ≤ R 17 s.nd; omega) c5 c7 c6 hacc hk0
          exact go (by rw [stepO_3 hk3, if_neg hz, if_neg (by omega)]) X1 C1 hO V1 M1
        · rw [h10] at h
          exact stop (by rw [stepO_3 hk3, if_neg hz, if_pos h]) (by decide) (by decide) (XT.rf _ _) ⟨_, _, hC⟩
    -- a value or an observation first
    have hkk : R 0 s.nd = 1 ∨ R 0 s.nd = 2 ∨ R 0 s.nd = 4 ∨ R 0 s.nd = 5 := by omega
    obtain ⟨⟨j0, j1, j2, j3, j4⟩, ⟨i1, i2, i3, i4, i5⟩, h18⟩ := kids_c (hW.2.2 _ n0 n1).1 hkk
    have hvo : vkd (R 0 (s.nd + 1)) ∨ okd (R 0 (s.nd + 1)) := by
      rcases hkk with z | z | z | z
      · exact Or.inl (j3 (Or.inl z))
      · exact Or.inr (j4 (Or.inl z))
      · exact Or.inl (j3 (Or.inr z))
      · exact Or.inr (j4 (Or.inr z))
    replace j3 : Wr (R 0 s.nd = 1 ∨ R 0 s.nd = 4 → vkd (R 0 (s.nd + 1))) := j3
    replace j4 : Wr (R 0 s.nd = 2 ∨ R 0 s.nd = 5 → okd (R 0 (s.nd + 1))) := j4
    replace h18 : Wr (R 0 s.nd = 2 → nx R (R 17 s.nd) (R 18 s.nd) ∧ R 17 s.nd < R 18 s.nd ∧ R 18 s.nd < m ∧ R 1 (R 18 s.nd) = R 1 s.nd + 1 ∧ bgn 99 (R 0 (R 18 s.nd))) := h18
    replace hvo : Wr (vkd (R 0 (s.nd + 1)) ∨ okd (R 0 (s.nd + 1))) := hvo
    replace i5 : Wr (bgn 99 (R 0 (R 17 s.nd))) := i5
    replace hkk : Wr (R 0 s.nd = 1 ∨ R 0 s.nd = 2 ∨ R 0 s.nd = 4 ∨ R 0 s.nd = 5) := hkk
    have h12 : M 931 12 = 0 := hC.2.2.2.1.1
    refine k_Machine_reduce_2 (by omega) ⟨by constructor <;> omega, fun z => by omega, fun _ => ⟨bs, hb4, t1, ?_⟩⟩
    rw [h5, r1]
    refine ⟨by constructor <;> omega, fun _ _ => ⟨fun _ => ⟨fun _ => ?_, fun z => absurd z hk0⟩, fun z => absurd z hk3⟩, fun z => by omega⟩
    refine c_work hW 101 (s.nd + 1) 0 0 (d - 1) M rfl (by omega) j1 hvo hC.2.1 hC.1 hC.2.2.1 (Or.inl h12) (by omega) (by omega) (by omega) (fun M1 τ W1 f1 hr => ⟨_, rfl, rfl, ?_⟩)
    obtain ⟨u1, u2, u3, u4, u5⟩ := hr
    cases hev : ev R (s.env giv st en) 101 (s.nd + 1) with
    | none =>
      have h1 := u5 hev
      refine ⟨fun z => by omega, fun _ => ?_⟩
      exact stop (stepO_n hk0 hk3 hev) (by decide) (by decide) (XT.wd W1 hC.1.2.2.1) ⟨_, _, hC.wd W1 rfl⟩
    | some x =>
      have h1 : M1 931 12 = 0 := (u4 x hev).trans h12
      have hstep := stepO_s (lk := lk) hk0 hk3 hev
      have C1 := hC.wd (fl' := 0) W1 h1
      have X1 := XT.wd (bs := bs) W1 hC.1.2.2.1
      refine ⟨fun _ => ?_, fun z => absurd h1 z⟩
      rcases hkk with hk | hk | hk | hk
      · -- pay
        obtain ⟨c0, w, g1, g2, g3⟩ := u2 (j3 (Or.inl hk))
        have hw := g3 x hev
        subst hw
        rw [if_pos hk, payN_w] at hstep
        rw [hk]
        refine c_pass1 C1 hW n0 n1 hk g1 g2 (by omega) (fun s2 hs2' M2 X2 C2 z2 => ⟨_, rfl, rfl, by decide, ⟨fun _ _ hp => ?_, fun hor => ⟨fun _ => ?_, fun z => absurd rfl z⟩⟩⟩) (fun hw' M2 X2 C2 => ⟨_, rfl, rfl, by decide, ⟨fun z => absurd z (by decide), fun _ => ⟨fun z => absurd z (by decide), fun _ => ?_⟩⟩⟩)
        · obtain ⟨O2, nd2, acc2⟩ := wgh_ok (s := s.sNd (R 17 s.nd)) hO hs2'
          have acc2 : s2.acc = s.acc := acc2
          rw [hs2'] at hstep
          dsimp only at hstep
          have hsg := cn_sg z2
          have hpos : 0 < wgt (hld s.acc (R 4 s.nd) (R 6 s.nd)) w := by
            apply Decidable.byContradiction
            intro hn
            have := sg_le.mpr (show wgt (hld s.acc (R 4 s.nd) (R 6 s.nd)) w ≤ 0 by omega)
            omega
          rw [if_pos hpos] at hstep
          refine im_rng (j := s.nd) sf_19 n0 (by show s.nd < 5000; omega) (fun hr19 => im_rng (j := s.nd) sf_20 n0 (by show s.nd < 5000; omega) (fun hr20 => im_rng (j := s.nd) sf_21 n0 (by show s.nd < 5000; omega) (fun hr21 => ?_)))
          have hr19 : im_i64 (M2 19 s.nd) := hr19
          have hr20 : im_i64 (M2 20 s.nd) := hr20
          have hr21 : im_i64 (M2 21 s.nd) := hr21
          obtain ⟨v1, v2, v3, v4, v5, v6, v7, -⟩ := (C2.2.1.2 s.nd n0 n1).1
          have v7 := v7 (Or.inl hk)
          rw [v4] at hr19 ⊢
          rw [v5] at hr20 ⊢
          rw [v6] at hr21 ⊢
          rw [v7]
          have hR3 : R 3 s.nd = 0 ∨ R 3 s.nd = 1 := (hW.2.2 s.nd n0 n1).2.1.2.2.2 hk
          have hle : hs2 s2.acc (R 4 s.nd) (R 6 s.nd) → wgt (hld s.acc (R 4 s.nd) (R 6 s.nd)) w ≤ s2.acc.2.2.2 (ps s2.acc (R 4 s.nd) (R 6 s.nd)) := by
            rw [acc2]; exact wgt_le hO
          refine c_payOut C2 O2 z2 hpos hle hR3 hr19 hr20 hr21 (by omega) (fun s3 hs3 M3 X3 C3 => ⟨_, rfl, rfl, by decide, fun _ => ?_, fun z => absurd rfl z⟩) (fun c hc c0' ci M3 X3 C3 => ⟨_, rfl, rfl, ci, fun z => absurd z c0', fun _ => ?_⟩)
          · obtain ⟨O3, nd3⟩ := payO_ok O2 hpos hle hs3
            have nd4 : s3.nd = R 17 s.nd := nd3.trans nd2
            have ha3 : s3.acc.1 ≤ 40 := by
              obtain ⟨π, k1, _⟩ := C3.1.2.2.2.2.1.1
              exact k1.2.1
            obtain ⟨V3, me3⟩ := next (s' := s3) (by rw [nd4]; omega) (by rw [nd4]; exact i3) (by rw [nd4]; exact i5) (by rw [nd4]; exact i4) ha3 hk0
            exact go (by rw [hstep, hs3]) ((X1.trans X2).trans X3) C3 O3 V3 me3
          · exact stop (by rw [hstep, hc]) c0' ci ((X1.trans X2).trans X3) C3
        · obtain ⟨O2, nd2, acc2⟩ := wgh_ok (s := s.sNd (R 17 s.nd)) hO hs2'
          rw [hs2'] at hstep
          dsimp only at hstep
          have hsg := cn_sg z2
          have hpos : ¬ 0 < wgt (hld s.acc (R 4 s.nd) (R 6 s.nd)) w := fun hp => by
            have hns : ¬ sg (wgt (hld s.acc (R 4 s.nd) (R 6 s.nd)) w) ≤ 0 := fun z => by have := sg_le.mp z; omega
            rcases hor with z | z | z
            · exact z rfl
            · exact z.2 rfl
            · exact hns (by rw [← hsg]; exact z.2.2)
          rw [if_neg hpos] at hstep
          have nd4 : s2.nd = R 17 s.nd := nd2
          have ha3 : s2.acc.1 ≤ 40 := by
            obtain ⟨π, k1, _⟩ := C2.1.2.2.2.2.1.1
            exact k1.2.1
          obtain ⟨V3, me3⟩ := next (s' := s2) (by rw [nd4]; omega) (by rw [nd4]; exact i3) (by rw [nd4]; exact i5) (by rw [nd4]; exact i4) ha3 hk0
          exact go hstep (X1.trans X2) C2 O2 V3 me3
        · rw [hw'] at hstep
          exact stop hstep (by decide) (by decide) (X1.trans X2) C2
      · -- if
        have hτ : τ = x := u3 (j4 (Or.inl hk)) x hev
        have h01 := ev_01 hW 101 (s.nd + 1) x (by omega) j1 (j4 (Or.inl hk)) hev
        subst hτ
        rw [if_neg (by omega), if_pos hk] at hstep
        obtain ⟨e1, e2, e3, e4, e5⟩ := h18 hk
        rw [hk]
        refine c_pass2 C1 hW n0 n1 hk h01 (by omega) (fun M2 X2 C2 => ⟨_, rfl, rfl, by decide, ⟨fun _ z => absurd z (by decide), fun _ => ⟨fun _ => ?_, fun z => absurd rfl z⟩⟩⟩)
        have hnx : 0 ≤ (if τ = 1 then R 17 s.nd else R 18 s.nd) ∧ (if τ = 1 then R 17 s.nd else R 18 s.nd) < m ∧ bgn 99 (R 0 (if τ = 1 then R 17 s.nd else R 18 s.nd)) ∧ R 1 (if τ = 1 then R 17 s.nd else R 18 s.nd) = R 1 s.nd + 1 := by
          by_cases hτ1 : τ = 1
          · rw [if_pos hτ1]; exact ⟨by omega, i3, i5, i4⟩
          · rw [if_neg hτ1]; exact ⟨by omega, e3, e5, e4⟩
        obtain ⟨V3, me3⟩ := next (s' := s.sNd (if τ = 1 then R 17 s.nd else R 18 s.nd)) hnx.1 hnx.2.1 hnx.2.2.1 hnx.2.2.2 hacc hk0
        exact go hstep (X1.trans X2) C2 hO V3 me3
      · -- let
        obtain ⟨c0, w, g1, g2, g3⟩ := u2 (j3 (Or.inr hk))
        have hw := g3 x hev
        subst hw
        rw [if_neg (by omega), if_neg (by omega), if_pos hk] at hstep
        rw [hk]
        refine c_pass4 C1 hW n0 n1 hk g1 g2 (by omega) (fun s2 hs2' M2 X2 C2 => ⟨_, rfl, rfl, by decide, ⟨fun _ z => absurd z (by decide), fun _ => ⟨fun _ => ?_, fun z => absurd rfl z⟩⟩⟩) (fun c hc c0' ci M2 X2 C2 => ⟨_, rfl, rfl, ci, ⟨fun z => absurd z c0', fun _ => ⟨fun z => absurd z c0', fun _ => ?_⟩⟩⟩)
        · obtain ⟨O2, nd2, acc2⟩ := letN_ok hO hs2'
          obtain ⟨V3, me3⟩ := next (s' := s2) (by rw [nd2]; omega) (by rw [nd2]; exact i3) (by rw [nd2]; exact i5) (by rw [nd2]; exact i4) (by rw [acc2]; exact hacc) hk0
          exact go (by rw [hstep, hs2']) (X1.trans X2) C2 O2 V3 me3
        · exact stop (by rw [hstep, hc]) c0' ci (X1.trans X2) C2
      · -- assert
        have hτ : τ = x := u3 (j4 (Or.inr hk)) x hev
        have h01 := ev_01 hW 101 (s.nd + 1) x (by omega) j1 (j4 (Or.inr hk)) hev
        subst hτ
        rw [if_neg (by omega), if_neg (by omega), if_neg (by omega)] at hstep
        rw [hk]
        refine c_pass5 C1 hW n0 n1 hk h01 (by omega) (fun s2 hs2' M2 X2 C2 => ⟨_, rfl, rfl, by decide, ⟨fun _ z => absurd z (by decide), fun _ => ⟨fun _ => ?_, fun z => absurd rfl z⟩⟩⟩) (fun c hc c0' ci M2 X2 C2 => ⟨_, rfl, rfl, ci, ⟨fun z => absurd z c0', fun _ => ⟨fun z => absurd z c0', fun _ => ?_⟩⟩⟩)
        · have hs3 : OT s2 ∧ s2.nd = R 17 s.nd ∧ s2.acc = s.acc := by
            by_cases hτ1 : τ = 1
            · rw [if_pos hτ1] at hs2'; cases hs2'; exact ⟨hO, rfl, rfl⟩
            · rw [if_neg hτ1] at hs2'
              obtain ⟨o1, o2, o3, _⟩ := warnO_ok (s := s.sNd (R 17 s.nd)) hO hs2'
              exact ⟨o1, o2, o3⟩
          obtain ⟨O2, nd2, acc2⟩ := hs3
          obtain ⟨V3, me3⟩ := next (s' := s2) (by rw [nd2]; omega) (by rw [nd2]; exact i3) (by rw [nd2]; exact i5) (by rw [nd2]; exact i4) (by rw [acc2]; exact hacc) hk0
          exact go (by rw [hstep, hs2']) (X1.trans X2) C2 O2 V3 me3
        · exact stop (by rw [hstep, hc]) c0' ci (X1.trans X2) C2
theorem c_reduce {s : TS} {M : im_M} (hW : WFP R m) (hd : 110 ≤ d) (hC : CT M e R m E giv st en lk 0 s bs bp np) (hO : OT s) (hV : VN R m s)
    (hKs : ∀ s', redO R giv st en lk 142 s = .inr s' → ∀ M', XT bs M M' → CT M' e R m E giv st en lk 0 s' bs bp np → OT s' → VN R m s' → K (.inl (some (vI 0))) e M')
    (hKe : ∀ c, redO R giv st en lk 142 s = .inl c → c ≠ 0 → im_i32 c → ∀ M', XT bs M M' → CX M' e R m E giv st en lk bs bp np → K (.inl (some (vI c))) e M') : im_T g d 111 0 [some (.ref 931), none, none, none, none, none, none] [] e M K := by
  have hm0 : mea R s < 142 := by
    unfold mea
    have := (hW.2.2 s.nd hV.1 hV.2.1).2.2.1
    obtain ⟨π, k1, _⟩ := hC.1.2.2.2.2.1.1
    have hk : s.acc.1 ≤ 40 := k1.2.1
    by_cases h0 : R 0 s.nd = 0
    · rw [if_pos h0]; omega
    · rw [if_neg h0]; omega
  exact k_Machine_reduce_0 (l_reduce hW hd 142 s M 0 hm0 (Int.le_refl _) (by decide) hC hO hV hKs hKe)
end CRED2

section RPAR12
variable {g : im_g} {d : Nat} {e : im_E} {M M0 : im_M} {K : im_K} {lo kp pk a p q ty nm v m lw : Int} {x : en} {r L : List en} {R : Rw}
theorem nwP.xr {M' : im_M} {w : Int} (h : nwP M M' m w) (hm : lo ≤ m) : XR lo kp pk M M' := by
  obtain ⟨n1, n2, n3, _⟩ := h
  exact ⟨fun y b _ c => n1 y b (by omega), fun k _ _ _ c _ _ => n3 k c, fun i _ => by rw [n1 6955 (by decide) (by decide)], fun y i b c d' => n2 y i (by omega) (by omega), fun y i b _ => by rw [n1 y (by omega) (by omega)]⟩
theorem c_readCase {n s dp : Int} (h : RJ M0 M lo kp pk a (x :: r, R, m, lw) L) (ht : TK M p q ty nm) (h1 : -2 ≤ ty) (h2 : ty ≤ 41) (hkw : 0 ≤ ty → ty ≤ 33 → nm = kwv ty) (hw : wfS lo (x :: r, R, m, lw)) (hu : u98 (x :: r)) (hi7 : i107 lo (x :: r, R, m, lw)) (hc29 : c29 R lo m) (haq : a ≤ q) (h38 : M 6952 38 = lo) (hlo4 : lo ≤ 4000) (hLl : L.length < 29000)
    (hx : x.1 = 107) (hn : n = x.2.1) (hs : s = R 3 x.2.1) (hdp : dp = R 1 x.2.1) (hL : L = rst R false r) (hd : 3 ≤ d) (hKf : KFR e K M0 lo kp pk p ty nm v (x :: r, R, m, lw)) (hKs : KSR e K M0 lo kp pk q ty nm v (x :: r, R, m, lw)) : im_T g d 296 0 [some (.ref 6952), some (vI n), some (vI s), some (vI dp), none] [] e M K := by
  obtain ⟨t14, t15, t16, t17, t18, t19⟩ := id ht
  obtain ⟨o1, o2, o3, o4, o5⟩ := ent_x hw (by omega) (by omega)
  have rr2 := rk_2 h1 h2
  have r10 : rk ty = 8 ↔ ty = 40 := (rk_vals ty).2.2.2.2.2.2.2.2.2
  have hst' : hst (x :: r) := hw.2.2.2.2.2.2.2
  have hc7 := hi7 x List.mem_cons_self hx
  dsimp only at hc7
  have hd1 := hw.2.2.2.2.2.2.1 x.2.1 o1 o2
  dsimp only at hd1
  have hlm : lo ≤ m := hw.2.1
  have hm1 : m ≤ lo + 1000 := hw.2.2.1
  have h39 : M 6952 39 = m := h.2.1
  have hdeep : deepOf R x.2.1 = R 1 x.2.1 + 1 := if_neg (by omega)
  subst hn hs hdp
  have h31i : rk ty = 2 → (M 6952 18 = 1667330917 ↔ ty = 31) := fun z => by
    have z' := rr2.mp z
    rw [t18 (Or.inl z')]
    exact kwv_iff (c := 31) z'.1 z'.2 (hkw z'.1 z'.2) (by decide) (by decide)
  refine b_readCase_0 (by omega) ?_
  rw [t15]
  refine ⟨⟨fun n8 h22 h31 => ?_, fun e8 => ?_⟩, fun hh => ?_⟩
  · have hty : ty = 31 := (h31i h22).mp h31
    have hsk : stq lo ty nm v (x :: r, R, m, lw) = stpK lo ty x r R m lw := by rw [stq_ok (by omega) (by omega), stp_s9 hx]
    refine c_node h39 h38 o3 hlm hm1 hlo4 t19 t16 (by decide) (by constructor <;> omega) (by omega) (fun hmu M' b1 b2 b3 b4 => ⟨_, rfl, rfl, by decide, fun z => absurd rfl z, fun _ => ⟨fun z => by omega, fun _ => ?_⟩⟩) (fun hmu M' hN => ?_)
    · refine hKf 7 ?_ M' (h.1.trans (XR.fl b1 (fun k _ c _ _ _ _ => b2 k (by omega) (by omega)))) b3 b4
      rw [hsk]; unfold stpK
      rw [if_neg (by omega), if_neg (by omega), if_pos (by unfold much; rw [hdeep]; omega)]
    have hmu' : ¬ much R lo m x.2.1 := by unfold much; rw [hdeep]; omega
    have hXN : XR lo kp pk M M' := hN.xr hlm
    obtain ⟨n1, n2, n3, n4, n5, n6, n7, n8', n9⟩ := hN
    have t19' : M' 6952 19 = 0 := (n3 19 (by decide)).trans t19
    have q17 : M' 6952 17 = q := (n3 17 (by decide)).trans t17
    have i32s : im_i32 (R 3 x.2.1) := by constructor <;> omega
    have hne : ∀ y ∈ r, y.1 = 107 → y.2.1 ≠ x.2.1 := fun y hy h107 z => by
      obtain ⟨c, _, hc⟩ := hw.2.2.2.2.1
      rcases hc with ⟨h1, _⟩ | ⟨_, _, _, h4, h5⟩
      · omega
      · have hlt := chn_lt r h5 y hy (by omega)
        obtain ⟨_, _, hy2⟩ := hw.2.2.2.2.2.1 y (List.mem_cons_of_mem _ hy) (by omega)
        rcases hy2 with hy2 | hy2
        · omega
        · have h3 : y.2.2.2 = 3 := hy2.2.2.2.2.2.2.2.2.2.2.2.2.2.2 h107
          have := h4 (Or.inr (Or.inr (Or.inr hx)))
          unfold phi at hlt
          rw [z, h3] at hlt
          omega
    have go : ∀ M3 : im_M, R 3 x.2.1 < 8 → (∀ y, y ≠ 6952 → y ≠ 6964 → y ≠ 6966 → y ≠ 6967 → M3 y = M' y) → (∀ i, M3 6964 i = if i = x.2.1 ∧ R 3 x.2.1 = 0 then m else M' 6964 i) → (∀ i, M3 6966 i = if i = x.2.1 then m else M' 6966 i) → (∀ i, M3 6967 i = if i = R 18 x.2.1 ∧ R 3 x.2.1 ≠ 0 then m else M' 6967 i) → (∀ k, k ≠ 14 → M3 6952 k = M' 6952 k) → M3 6952 14 = q → im_T g (d - 1) 275 0 [some (.ref 6952), some (vI 8), some (vI x.2.1), some (vI (R 3 x.2.1 + 1)), some (vI (R 1 x.2.1))] [] e M3 (im_r0 (fun e_ M29 => e = e_ ∧ im_T g (d - 1) 275 0 [some (.ref 6952), some (vI 1), some (vI m), some (vI 2), some (vI (R 1 x.2.1 + 2))] [] e M29 (im_r0 (fun e_ M30 => e = e_ ∧ im_T g (d - 1) 275 0 [some (.ref 6952), some (vI 10), some (vI m), some (vI 0), some (vI (R 1 x.2.1 + 2))] [] e M30 (im_r0 (fun e_ M31 => e = e_ ∧ K (.inl none) e M31)))))) := fun M3 h8 c1 c64 c66 c67 cf c14 => by
      have s3 : stR M3 L := ⟨by rw [cf 45 (by decide), n3 45 (by decide)]; exact h.2.2.2.2.1.1, stkR_congr L h.2.2.2.2.1.2 (fun y i b c _ _ => by rw [c1 y (by omega) (by omega) (by omega) (by omega), n1 y (by omega) (by omega)])⟩
      refine c_pushR (8, x.2.1, R 3 x.2.1 + 1, R 1 x.2.1) s3 (by omega) (Or.inl rfl) rfl rfl (fun _ => rfl) (by decide) (by constructor <;> omega) (by constructor <;> omega) (by constructor <;> omega) (fun P1 hS1 hst1 => ⟨rfl, rfl, ?_⟩)
      refine c_pushR (1, m, 2, R 1 x.2.1 + 2) hst1 (by show L.length + 1 < 29999; omega) (Or.inl rfl) rfl rfl (fun _ => rfl) (by decide) (by constructor <;> omega) (by decide) (by constructor <;> omega) (fun P2 hS2 hst2 => ⟨rfl, rfl, ?_⟩)
      refine c_pushR (10, m, 0, R 1 x.2.1 + 2) hst2 (by show L.length + 1 + 1 < 29999; omega) (Or.inl rfl) rfl rfl (fun _ => rfl) (by decide) (by constructor <;> omega) (by decide) (by constructor <;> omega) (fun M5 hS3 hst3 => ⟨rfl, rfl, ?_⟩)
      have hS : SR M3 M5 := (hS1.trans hS2).trans hS3
      have f1 : ∀ y, y ≠ 6952 → y ≠ 6964 → y ≠ 6966 → y ≠ 6967 → (y < 6975 ∨ 6978 < y) → M5 y = M' y := fun y b1 b2 b3 b4 b5 => (hS.1 y b1 b5).trans (c1 y b1 b2 b3 b4)
      have l64 : M5 6964 = M3 6964 := hS.1 6964 (by decide) (by decide)
      have l66 : M5 6966 = M3 6966 := hS.1 6966 (by decide) (by decide)
      have l67 : M5 6967 = M3 6967 := hS.1 6967 (by decide) (by decide)
      have hsk' : stq lo ty nm v (x :: r, R, m, lw) = .inr ((97, m, 0, 1) :: x :: r, caseR R m x.2.1, m + 1, lw) := by
        rw [hsk]; unfold stpK
        rw [if_neg (by omega), if_neg (by omega), if_neg hmu', if_neg (by omega)]
      refine hKs _ hsk' M5 (case_fin h hw hu hi7 hc29 haq hx (fun y b c d' => ?_) (fun k b c d' => ?_) ?_ (fun y i b c d' e1 e2 e3 => ?_) (fun i hi => ?_) ?_ ?_ ?_ ?_ ?_) ?_ ?_
      · rw [f1 y b (by omega) (by omega) (by omega) d']; exact n1 y b (by omega)
      · rw [hS.2 k d', cf k b]; exact n3 k c
      · rw [hS.2 39 (by decide), cf 39 (by decide)]; exact n4
      · rw [f1 y (by omega) e1 e2 e3 (by omega)]; exact n2 y i d' (by omega)
      · rw [l64, l66, l67, c64 i, c66 i, c67 i, n2 6964 i hi (by decide), n2 6966 i hi (by decide), n2 6967 i hi (by decide)]
        exact ⟨rfl, rfl, rfl⟩
      · rw [f1 6960 (by decide) (by decide) (by decide) (by decide) (by decide)]; exact n5
      · rw [f1 6961 (by decide) (by decide) (by decide) (by decide) (by decide), f1 6962 (by decide) (by decide) (by decide) (by decide) (by decide), f1 6963 (by decide) (by decide) (by decide) (by decide) (by decide)]; exact n6
      · rw [l64, l66, l67, f1 6965 (by decide) (by decide) (by decide) (by decide) (by decide), c64 m, c66 m, c67 m, if_neg (show ¬ (m = x.2.1 ∧ R 3 x.2.1 = 0) by omega), if_neg (show ¬ m = x.2.1 by omega), if_neg (show ¬ (m = R 18 x.2.1 ∧ R 3 x.2.1 ≠ 0) from fun z => by have := hc7.2.2 z.2; omega)]
        exact n7
      · rw [f1 6972 (by decide) (by decide) (by decide) (by decide) (by decide)]; exact n9
      · have h1m : caseR R m x.2.1 1 m = R 1 x.2.1 + 1 := by
          rw [caseR_m 1 (by omega) (by decide), newN_1]
          show (if x.2.1 = -1 then 0 else _) = _
          rw [if_neg (by omega), im_rdn _ _ _ _ (by decide)]
        have h3o : caseR R m x.2.1 3 x.2.1 = R 3 x.2.1 + 1 := by
          show im_u (if R 3 x.2.1 = 0 then im_u (newN (im_u R 3 x.2.1 (R 3 x.2.1 + 1)) m 31 x.2.1) 16 x.2.1 m else im_u (newN (im_u R 3 x.2.1 (R 3 x.2.1 + 1)) m 31 x.2.1) 19 (R 18 x.2.1) m) 18 x.2.1 m 3 x.2.1 = _
          rw [im_rdn _ _ _ _ (by decide)]
          split
          · rw [im_rdn _ _ _ _ (by decide), newN_ne 3 (by omega), im_rds]
          · rw [im_rdn _ _ _ _ (by decide), newN_ne 3 (by omega), im_rds]
        have h1o : caseR R m x.2.1 1 x.2.1 = R 1 x.2.1 := caseR_ne 1 _ (by omega) (by decide)
        have hrr : rst (caseR R m x.2.1) false r = rst R false r := rst_congr r false (fun y hy => ⟨fun h41 hm1' => by
          have hy2 : y.2.1 < m := by
            obtain ⟨_, _, z⟩ := hw.2.2.2.2.2.1 y (List.mem_cons_of_mem _ hy) h41
            rcases z with z | z
            · exact absurd z.2 hm1'
            · exact z.2.1
          exact ⟨caseR_ne 1 _ (by omega) (by decide), fun h107 => caseR_3 (by omega) (hne y hy h107), fun _ => caseR_ne 6 _ (by omega) (by decide)⟩, ent_m1 hw y hy⟩)
        have e1 : rst (caseR R m x.2.1) false ((97, m, 0, 1) :: x :: r) = (10, m, 0, caseR R m x.2.1 1 m + 1) :: (1, m, 2, caseR R m x.2.1 1 m + 1) :: (re (caseR R m x.2.1) false x ++ rst (caseR R m x.2.1) (decide (x.1 = 104)) r) := rfl
        have e2 : re (caseR R m x.2.1) false x = [(8, x.2.1, caseR R m x.2.1 3 x.2.1, caseR R m x.2.1 1 x.2.1)] := by
          unfold re
          rw [if_neg (by omega), if_neg (by omega), if_neg (by omega), if_neg (by omega), if_neg (by omega), if_neg (by omega), if_pos hx]
        rw [e1, e2, show decide (x.1 = 104) = false from decide_eq_false (by omega), h1m, h3o, h1o, hrr, ← hL, show R 1 x.2.1 + 1 + 1 = R 1 x.2.1 + 2 by omega]
        exact hst3
      · rw [hS.2 19 (by decide), cf 19 (by decide)]; exact t19'
      · rw [hS.2 14 (by decide)]; exact c14
    refine ⟨_, rfl, rfl, by constructor <;> omega, fun _ => ⟨i32s, fun e8 => ?_⟩, fun hor => ⟨fun _ => ⟨i32s, fun nz => ⟨by constructor <;> omega, ?_⟩, fun ez => ⟨by constructor <;> omega, ?_⟩⟩, fun z => by omega⟩⟩
    · refine c_failR t19' ((n3 16 (by decide)).trans t16) (by decide) (fun M2 b1 b2 b3 b4 => ⟨rfl, rfl, fun z => by omega, fun _ => hKf 8 ?_ M2 ((h.1.trans hXN).trans (XR.fl b1 (fun k _ c _ _ _ _ => b2 k (by omega) (by omega)))) b3 b4⟩)
      rw [hsk]; unfold stpK
      rw [if_neg (by omega), if_neg (by omega), if_neg hmu', if_pos (by omega)]
    · have h8 : R 3 x.2.1 < 8 := by omega
      have hl18 := hc7.2.2 nz
      have e66 : M' 6966 x.2.1 = R 18 x.2.1 := by
        rw [n2 6966 _ (by omega) (by decide)]
        exact (h.2.2.2.2.2.2.2.1 x.2.1 o1 o2).2.2.2.1.2.2.1
      rw [e66]
      refine ⟨by constructor <;> omega, c_use (q := q) (by rw [im_rdn _ _ _ _ (by decide), im_rdn _ _ _ _ (by decide)]; exact q17) ⟨rfl, rfl, ?_⟩⟩
      refine go _ h8 (fun y b1 b2 b3 b4 => by rw [im_u_ne _ _ _ b1, im_u_ne _ _ _ b3, im_u_ne _ _ _ b4]) (fun i => ?_) (fun i => ?_) (fun i => ?_) (fun k b => by rw [im_rdk _ _ _ b, im_rdn _ _ _ _ (by decide), im_rdn _ _ _ _ (by decide)]) (im_rds _ _ _ _)
      · rw [im_rdn _ _ _ _ (by decide), im_rdn _ _ _ _ (by decide), im_rdn _ _ _ _ (by decide), if_neg (fun z => nz z.2)]
      · rw [im_rdn _ _ _ _ (by decide)]
        by_cases c : i = x.2.1
        · rw [if_pos c, c, im_rds]
        · rw [if_neg c, im_rdk _ _ _ c, im_rdn _ _ _ _ (by decide)]
      · rw [im_rdn _ _ _ _ (by decide), im_rdn _ _ _ _ (by decide)]
        by_cases c : i = R 18 x.2.1
        · rw [if_pos ⟨c, nz⟩, c, im_rds]
        · rw [if_neg (fun z => c z.1), im_rdk _ _ _ c]
    · have h8 : R 3 x.2.1 < 8 := by omega
      refine c_use (q := q) (by rw [im_rdn _ _ _ _ (by decide), im_rdn _ _ _ _ (by decide)]; exact q17) ⟨rfl, rfl, ?_⟩
      refine go _ h8 (fun y b1 b2 b3 b4 => by rw [im_u_ne _ _ _ b1, im_u_ne _ _ _ b3, im_u_ne _ _ _ b2]) (fun i => ?_) (fun i => ?_) (fun i => ?_) (fun k b => by rw [im_rdk _ _ _ b, im_rdn _ _ _ _ (by decide), im_rdn _ _ _ _ (by decide)]) (im_rds _ _ _ _)
      · rw [im_rdn _ _ _ _ (by decide), im_rdn _ _ _ _ (by decide)]
        by_cases c : i = x.2.1
        · rw [if_pos ⟨c, ez⟩, c, im_rds]
        · rw [if_neg (fun z => c z.1), im_rdk _ _ _ c]
      · rw [im_rdn _ _ _ _ (by decide)]
        by_cases c : i = x.2.1
        · rw [if_pos c, c, im_rds]
        · rw [if_neg c, im_rdk _ _ _ c, im_rdn _ _ _ _ (by decide)]
      · rw [im_rdn _ _ _ _ (by decide), im_rdn _ _ _ _ (by decide), im_rdn _ _ _ _ (by decide), if_neg (fun z => z.2 ez)]
  · have hty : ty = 40 := r10.mp e8
    refine c_use t17 ⟨rfl, rfl, hKs _ ?_ _ (RJ_pop0 h hst' (by omega) (by omega) haq hL) (by rw [im_rdk _ _ _ (by decide)]; exact t19) (im_rds _ _ _ _)⟩
    rw [stq_ok (by omega) (by omega), stp_s9 hx]; unfold stpK
    rw [if_pos hty]
  · refine c_ft h ht h1 h2 (fun _ _ => ?_) (by omega) hKf
    have a1 : ty ≠ 40 := fun z => by
      have := r10.mpr z
      rcases hh with u | u
      · exact u.1 this
      · exact u.1 this
    have a2 : ty ≠ 31 := fun z => by
      have h22 : rk ty = 2 := rr2.mpr (by omega)
      rcases hh with u | u
      · exact u.2 h22
      · exact u.2.2 ((h31i h22).mpr z)
    rw [stp_s9 hx]; unfold stpK
    rw [if_neg a1, if_pos a2]
end RPAR12

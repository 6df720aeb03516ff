/-! one step of the reference's parser -/
def gN (g : im_g) (d : Nat) (e : im_E) (K : im_K) (w n s dv : Int) (M12 : im_M) : Prop := ((((w ≤ 3 → (((M12 6952 15) = 5 → im_T g (d - 1) 282 0 [some (.ref 6952)] [] e M12 (im_r0 (fun  e_ M49 => e = e_ ∧ im_T g (d - 1) 275 0 [some (.ref 6952), some (vI 5), some (vI (-1)), some (vI 0), some (vI 0)] [] e M49 (im_r0 (fun  e_ M50 => e = e_ ∧ im_T g (d - 1) 275 0 [some (.ref 6952), some (vI w), some (vI n), some (vI s), some (vI dv)] [] e M50 (im_r0 (fun  e_ M51 => e = e_ ∧ K (.inl none) e M51))))))))))) ∧ ((((3 < w)) ∨ ((w ≤ 3) ∧ (¬ (M12 6952 15) = 5))) → ((w = 1 → im_T g (d - 1) 283 0 [some (.ref 6952), some (vI n), some (vI s), some (vI dv), none, none] [] e M12 (im_r0 (fun  e_ M19 => e = e_ ∧ K (.inl none) e M19))) ∧ (w = 2 → im_T g (d - 1) 289 0 [some (.ref 6952), some (vI n), some (vI s), some (vI dv), none, none] [] e M12 (im_r0 (fun  e_ M22 => e = e_ ∧ K (.inl none) e M22))) ∧ (w = 3 → im_T g (d - 1) 293 0 [some (.ref 6952), some (vI n), some (vI s), some (vI dv), none, none] [] e M12 (im_r0 (fun  e_ M25 => e = e_ ∧ K (.inl none) e M25))) ∧ (w = 4 → im_T g (d - 1) 295 0 [some (.ref 6952), some (vI n), some (vI s)] [] e M12 (im_r0 (fun  e_ M28 => e = e_ ∧ K (.inl none) e M28))) ∧ (w = 8 → im_T g (d - 1) 296 0 [some (.ref 6952), some (vI n), some (vI s), some (vI dv), none] [] e M12 (im_r0 (fun  e_ M31 => e = e_ ∧ K (.inl none) e M31))) ∧ (w = 9 → im_T g (d - 1) 297 0 [some (.ref 6952), some (vI n), none, none, none] [] e M12 (im_r0 (fun  e_ M34 => e = e_ ∧ K (.inl none) e M34))) ∧ (w = 10 → im_T g (d - 1) 299 0 [some (.ref 6952), some (vI n), some (vI dv), none] [] e M12 (im_r0 (fun  e_ M37 => e = e_ ∧ K (.inl none) e M37))) ∧ (w = 12 → im_T g (d - 1) 300 0 [some (.ref 6952), some (vI n), some (vI s)] [] e M12 (im_r0 (fun  e_ M40 => e = e_ ∧ K (.inl none) e M40))) ∧ (w = 13 → im_T g (d - 1) 301 0 [some (.ref 6952), some (vI n), some (vI s)] [] e M12 (im_r0 (fun  e_ M43 => e = e_ ∧ K (.inl none) e M43))) ∧ (w < 1 ∨ 13 < w ∨ w = 5 ∨ w = 6 ∨ w = 7 ∨ w = 11 → im_T g (d - 1) 305 0 [some (.ref 6952), some (vI w), some (vI n), none, none] [] e M12 (im_r0 (fun  e_ M46 => e = e_ ∧ K (.inl none) e M46))))))
def RQ (lo : Int) (S : pS) : Prop := QS lo S ∧ Q2 lo S ∧ i100 S ∧ i49 S ∧ i107 lo S
section RPAR13
variable {g : im_g} {d : Nat} {e : im_E} {M M0 : im_M} {K : im_K} {lo kp pk a p q ty nm v m lw nt : Int} {x : en} {r L : List en} {R : Rw} {t : Int → Int}
theorem RQ_stp {S' : pS} (h : stp lo ty nm v (x :: r, R, m, lw) = .inr S') (hq : RQ lo (x :: r, R, m, lw)) : RQ lo S' := by
  obtain ⟨q1, q2, q3, q4, q5⟩ := hq
  exact ⟨QS_stp h q1, Q2_stp h q1.1 q2, i100_stp h q1.1 q3, i49_stp h q1.1 q4, i107_stp h q1.1 q5⟩
theorem rst_bound (hI : RI M0 M lo kp pk a (x :: r, R, m, lw)) (hw : wfS lo (x :: r, R, m, lw)) : ((rst R false (x :: r)).length : Int) ≤ 820 + a := by
  obtain ⟨c, hc, hch⟩ := hw.2.2.2.2.1
  have := rst_len (x :: r) false (chn_mono _ hch hc) (by decide)
  have hn := hI.2.2.2.2.2.1
  dsimp only at hn this
  omega
/-- the top taken, the token read -/
theorem RJ_pl {M1 : im_M} {y : en} (h : RJ M0 M lo kp pk a (x :: r, R, m, lw) (y :: L)) (hl : lkP (im_u M 6952 45 (M 6952 45 - 1)) M1 p q ty nm) (h19 : M 6952 19 = 0) : RJ M0 M1 lo kp pk a (x :: r, R, m, lw) L ∧ TK M1 p q ty nm ∧ (∀ k, k < 14 ∨ 18 < k → k ≠ 45 → M1 6952 k = M 6952 k) ∧ (∀ y, y ≠ 6952 → M1 y = M y) := by
  obtain ⟨l1, l2, l3, l4, l5, l6, l7⟩ := hl
  have hm : ∀ y, y ≠ 6952 → M1 y = M y := fun y hy => by rw [l1 y hy, im_u_ne _ _ _ hy]
  have hf : ∀ k, k < 14 ∨ 18 < k → k ≠ 45 → M1 6952 k = M 6952 k := fun k hk h45 => by rw [l2 k hk, im_rdk _ _ _ h45]
  have h45 : M1 6952 45 = M 6952 45 - 1 := by rw [l2 45 (by decide), im_rds]
  obtain ⟨a1, a2, a3, a4, a5, a6, a7, a8, a9, a10⟩ := h
  have e7 := hf 7 (by decide) (by decide)
  have e37 := hf 37 (by decide) (by decide)
  refine ⟨⟨a1.tr (XR.fl hm (fun k _ b _ _ _ c => hf k (by omega) c)) (hf 20 (by decide) (by decide)), (hf 39 (by decide) (by decide)).trans a2, by rw [e7]; exact a3, by rw [e37]; exact a4, ⟨?_, ?_⟩, a6, fun z => (hf 40 (by decide) (by decide)).trans (a7 z), fun i i0 i1 => ?_, fun y hy h98 => ?_, fun y r' he hh => ?_⟩, ⟨l3, l4, l5, l6, l7, (hf 19 (by decide) (by decide)).trans h19⟩, hf, hm⟩
  · rw [h45, a5.1]; show ((L.length + 1 : Nat) : Int) - 1 = _; omega
  · exact stkR_congr L a5.2.2.2.2.2 (fun y i b c _ _ => by rw [hm y (by omega)])
  · rw [e7, e37]
    exact rowR_congr (a8 i i0 i1) (fun y b c => by rw [hm y (by omega)]) (fun j _ => by rw [hm 6955 (by decide)]) (fun y j b _ => by rw [hm y (by omega)]) (fun _ => rfl) (Int.le_refl _) (Int.le_refl _) (fun _ _ z => z)
  · rw [e37, hm 6971 (by decide)]; exact a9 y hy h98
  · rw [e7, e37, hm 6973 (by decide)]
    exact ⟨(a10 y r' he hh).1, rnp_congr (a10 y r' he hh).2 (fun i _ => by rw [hm 6955 (by decide)]) (Int.le_refl _)⟩
theorem c_rn0 {y : en} (hI : RI M0 M lo kp pk a (x :: r, R, m, lw)) (hw : wfS lo (x :: r, R, m, lw)) (hr : rst R false (x :: r) = y :: L) (h14 : M 6952 14 = a) (h19 : M 6952 19 = 0) (hrt : rtx M t nt) (htk : tkn t nt a p q ty nm v) (ha0 : 0 ≤ a) (han : a ≤ 16384) (hd : 4 ≤ d)
    (hG : ∀ (w dv : Int) (M1 : im_M), (y.1 = w ∨ (y.1 = 7 ∧ w = 11)) → ((y.1 ≤ 3 ∨ y.1 = 8 ∨ y.1 = 10) → dv = y.2.2.2) → im_i32 dv → RJ M0 M1 lo kp pk a (x :: r, R, m, lw) L → TK M1 p q ty nm → rtx M1 t nt → M1 6952 8 = M 6952 8 → M1 6952 38 = M 6952 38 → L.length < 29000 → gN g d e K w y.2.1 y.2.2.1 dv M1) : im_T g d 276 0 [some (.ref 6952), none, none, none, none] [] e M K := by
  have hb := rst_bound hI hw
  have hJ : RJ M0 M lo kp pk a (x :: r, R, m, lw) (y :: L) := by
    have : RJ M0 M lo kp pk a (x :: r, R, m, lw) (rst R false (x :: r)) := hI
    rw [hr] at this; exact this
  have hll : (y :: L).length = L.length + 1 := rfl
  rw [hr, hll] at hb
  obtain ⟨s1, s2, s3, s4, s5⟩ := hJ.2.2.2.2.1.2
  have h45 : M 6952 45 = (L.length : Int) + 1 := by rw [hJ.2.2.2.2.1.1, hll]; omega
  have e45 : M 6952 45 - 1 = (L.length : Int) := by omega
  refine im_rng (j := (L.length : Int)) sf_6978 (by omega) (by show (L.length : Int) < 30000; omega) (fun hrg => ?_)
  refine b_readNext_0 (by omega) ?_
  refine ⟨by constructor <;> omega, by constructor <;> omega, ?_⟩
  have hrt' : rtx (im_u M 6952 45 (M 6952 45 - 1)) t nt := by
    obtain ⟨c1, c2, c3, c4⟩ := hrt
    exact ⟨by rw [im_rdk _ _ _ (by decide)]; exact c1, c2, c3, fun i i0 i1 => by rw [im_rdn _ _ _ _ (by decide)]; exact c4 i i0 i1⟩
  refine c_look hrt' (by rw [im_rdk _ _ _ (by decide)]; exact h14) ha0 htk (by omega) (fun M1 hl => ⟨rfl, rfl, ?_⟩)
  obtain ⟨hJ1, hT1, hf, hm⟩ := RJ_pl hJ hl h19
  have hrt1 : rtx M1 t nt := by
    obtain ⟨c1, c2, c3, c4⟩ := hrt
    exact ⟨(hf 13 (by decide) (by decide)).trans c1, c2, c3, fun i i0 i1 => by rw [hm 6959 (by decide)]; exact c4 i i0 i1⟩
  rw [e45]
  have := hG (M 6975 L.length) (M 6978 L.length) M1 s1 s4 (hrg) hJ1 hT1 hrt1 (hf 8 (by decide) (by decide)) (hf 38 (by decide) (by decide)) (by omega)
  rw [← s2, ← s3] at this
  exact this
theorem RJ_open {M1 M5 : im_M} {y : en} (h : RJ M0 M1 lo kp pk a (x :: r, R, m, lw) L) (hx : x.1 = 99 ∨ x.1 = 118 ∨ x.1 = 111) (haq : a < q) (g1 : ∀ y, y ≠ 6952 → (y < 6975 ∨ 6978 < y) → M5 y = M1 y) (gf : ∀ k, k ≠ 14 → k ≠ 45 → M5 6952 k = M1 6952 k) (hr : rst R false (x :: (41, 0, 0, 0) :: r) = y :: (5, -1, 0, 0) :: L) (gs : stR M5 (y :: (5, -1, 0, 0) :: L)) : RI M0 M5 lo kp pk q (x :: (41, 0, 0, 0) :: r, R, m, lw) := by
  obtain ⟨a1, a2, a3, a4, a5, a6, a7, a8, a9, a10⟩ := h
  dsimp only at a2 a4 a6 a7 a8 a9
  have e7 := gf 7 (by decide) (by decide)
  have e37 := gf 37 (by decide) (by decide)
  have h01 : h104 (x :: r) = 0 := if_neg (by omega)
  have h00 : h104 (x :: (41, 0, 0, 0) :: r) = 0 := if_neg (by omega)
  rw [h01] at a4
  refine ⟨a1.tr ⟨fun y b _ c => g1 y b (by omega), fun k _ b _ _ _ c => gf k (by omega) c, fun i _ => by rw [g1 6955 (by decide) (by decide)], fun y i b c _ => by rw [g1 y (by omega) (by omega)], fun y i b _ => by rw [g1 y (by omega) (by omega)]⟩ (gf 20 (by decide) (by decide)), (gf 39 (by decide) (by decide)).trans a2, by rw [e7]; omega, ?_, ?_, ?_, fun z => (gf 40 (by decide) (by decide)).trans (a7 z), fun i i0 i1 => ?_, fun y hy h98 => ?_, fun y r' he hh => ?_⟩
  · dsimp only; rw [e37, h00]; omega
  · dsimp only; rw [hr]; exact gs
  · have e1 : nq (x :: (41, 0, 0, 0) :: r) = nq r + 1 + 0 := by
      show nq r + _ + _ = _
      rw [if_neg (show ¬ x.1 = 41 by omega), if_pos (show ((41, 0, 0, 0) : en).1 = 41 from rfl)]
    have e2 : nq (x :: r) = nq r + 0 := by
      show nq r + _ = _
      rw [if_neg (show ¬ x.1 = 41 by omega)]
    dsimp only
    rw [e1]; rw [e2] at a6; omega
  · dsimp only
    rw [e7, e37]
    refine rowR_congr (a8 i i0 i1) (fun y b c => by rw [g1 y (by omega) (by omega)]) (fun j _ => by rw [g1 6955 (by decide) (by decide)]) (fun y j b _ => by rw [g1 y (by omega) (by omega)]) (fun _ => rfl) (Int.le_refl _) (Int.le_refl _) (fun _ _ z y hy => ?_)
    rcases List.mem_cons.mp hy with w | w
    · exact z y (by rw [w]; exact List.mem_cons_self)
    · exact z y (List.mem_cons_of_mem _ (List.mem_cons_of_mem _ w))
  · dsimp only at hy ⊢
    rw [e37, g1 6971 (by decide) (by decide)]
    rcases List.mem_cons.mp hy with w | w
    · exact a9 y (by rw [w]; exact List.mem_cons_self) h98
    · rcases List.mem_cons.mp w with w | w
      · rw [w] at h98; exact absurd h98 (by decide)
      · exact a9 y (List.mem_cons_of_mem _ w) h98
  · dsimp only at he
    rw [← (List.cons.inj he).1] at hh; omega
theorem stp_n37 (hx : x.1 = 99 ∨ x.1 = 118 ∨ x.1 = 111) : stp lo 37 nm v (x :: r, R, m, lw) = .inr (x :: (41, 0, 0, 0) :: r, R, m, lw) := by
  show (if _ then _ else _) = _
  rw [if_pos hx]
  unfold stpN
  rw [if_pos rfl]
/-- where a node is wanted -/
theorem c_rnN {w0 : Int} (hI : RI M0 M lo kp pk a (x :: r, R, m, lw)) (hq : RQ lo (x :: r, R, m, lw)) (h14 : M 6952 14 = a) (h19 : M 6952 19 = 0) (hrt : rtx M t nt) (htk : tkn t nt a p q ty nm v) (ha0 : 0 ≤ a) (h8 : M 6952 8 = 0 ∨ M 6952 8 = 1) (h38 : M 6952 38 = lo) (hlo4 : lo ≤ 4000) (hkp : 0 ≤ kp) (hkp2 : kp + 3 * nt + 302 ≤ 1100000) (hd : 6 ≤ d)
    (hx : (x.1 = 99 ∧ w0 = 1) ∨ (x.1 = 118 ∧ w0 = 2) ∨ (x.1 = 111 ∧ w0 = 3)) (hKf : KFR e K M0 lo kp pk p ty nm v (x :: r, R, m, lw)) (hKs : KSR e K M0 lo kp pk q ty nm v (x :: r, R, m, lw)) : im_T g d 276 0 [some (.ref 6952), none, none, none, none] [] e M K := by
  obtain ⟨⟨q1, q2, q3, q4⟩, q5, q6, q7, q8⟩ := id hq
  dsimp only at q2 q4
  have hx3 : x.1 = 99 ∨ x.1 = 118 ∨ x.1 = 111 := by omega
  have hre : ∀ b, re R b x = [(w0, x.2.1, x.2.2.1, deepOf R x.2.1)] := fun b => by
    unfold re
    rcases hx with ⟨z, z2⟩ | ⟨z, z2⟩ | ⟨z, z2⟩ <;> subst z2
    · rw [if_neg (by omega), if_neg (by omega), if_pos z]
    · rw [if_neg (by omega), if_neg (by omega), if_neg (by omega), if_pos z]
    · rw [if_neg (by omega), if_neg (by omega), if_neg (by omega), if_neg (by omega), if_pos z]
  have hr : rst R false (x :: r) = (w0, x.2.1, x.2.2.1, deepOf R x.2.1) :: rst R false r := by
    show re R false x ++ rst R (decide (x.1 = 104)) r = _
    rw [hre, show decide (x.1 = 104) = false from decide_eq_false (by omega)]; rfl
  have hr2 : rst R false (x :: (41, 0, 0, 0) :: r) = (w0, x.2.1, x.2.2.1, deepOf R x.2.1) :: (5, -1, 0, 0) :: rst R false r := by
    show re R false x ++ rst R (decide (x.1 = 104)) ((41, 0, 0, 0) :: r) = _
    rw [hre]; rfl
  have hnt : nt ≤ 16384 := hrt.2.2.1
  have hap : a ≤ p ∧ p ≤ nt := ⟨htk.1, htk.2.1⟩
  have htyb : (ty ≠ 41 → p < q ∧ q ≤ nt) ∧ p ≤ q ∧ -2 ≤ ty ∧ ty ≤ 41 := by
    by_cases h41 : ty = 41
    · have := tkn_41 htk h41
      exact ⟨fun z => absurd h41 z, by omega, by omega, by omega⟩
    · obtain ⟨z1, z2, z3, z4, z5, _⟩ := tkn_q htk h41
      exact ⟨fun _ => ⟨z2, z3⟩, by omega, by omega, by omega⟩
  refine c_rn0 hI q1 hr h14 h19 hrt htk ha0 (by omega) (by omega) (fun w dv M1 hw1 hdv hdvi hJ hT hrt1 e8 e38 hLl => ?_)
  have hw : w = w0 := by
    rcases hw1 with z | z
    · exact z.symm
    · have z := z.1; dsimp only at z; omega
  have hdv' : dv = deepOf R x.2.1 := hdv (Or.inl (by show w0 ≤ 3; omega))
  clear hw1 hdv
  subst hw
  dsimp only
  have r7 : rk ty = 5 ↔ ty = 37 := (rk_vals ty).2.2.2.2.2.2.1
  have hdb : 0 ≤ deepOf R x.2.1 := by
    unfold deepOf
    split
    · decide
    · obtain ⟨_, _, z⟩ := q1.2.2.2.2.2.1 x List.mem_cons_self (by omega)
      rcases z with z | z
      · omega
      · have := (q1.2.2.2.2.2.2.1 x.2.1 z.1 z.2.1).1
        dsimp only at this
        omega
  have hNH : ty ≠ 37 → NH M0 M1 lo kp pk a p q ty nm x r R m lw (rst R false r) := fun h37 => ⟨hJ, hT, ⟨htyb.2.2.1, htyb.2.2.2⟩, tkn_kw htk, q1, q5, q2, ⟨hap.1, by omega, htyb.2.1⟩, e38.trans h38, hlo4, hLl, rfl, hx3, h37⟩
  have hKf' : KFR e (im_r0 (fun e_ M9 => e = e_ ∧ K (.inl none) e M9)) M0 lo kp pk p ty nm v (x :: r, R, m, lw) := fun c hc M' b1 b2 b3 => ⟨rfl, rfl, hKf c hc M' b1 b2 b3⟩
  have hKs' : KSR e (im_r0 (fun e_ M9 => e = e_ ∧ K (.inl none) e M9)) M0 lo kp pk q ty nm v (x :: r, R, m, lw) := fun c hc M' b1 b2 b3 => ⟨rfl, rfl, hKs c hc M' b1 b2 b3⟩
  unfold gN
  rw [hT.2.1]
  refine ⟨fun _ h5 => ?_, fun hor => ?_⟩
  · have ty37 := r7.mp h5
    have hpq := htyb.1 (by omega)
    have hsl : (-1 ≤ x.2.1 ∧ x.2.1 ≤ 5000) ∧ 0 ≤ x.2.2.1 ∧ x.2.2.1 ≤ 3 := by
      obtain ⟨_, _, z⟩ := q1.2.2.2.2.2.1 x List.mem_cons_self (by omega)
      rcases z with z | z
      · rcases q5.2 with ⟨r', u, _⟩ | ⟨_, u⟩
        · dsimp only at u
          rw [(List.cons.inj u).1]; decide
        · exact absurd z.2 (u x List.mem_cons_self (by omega))
      · have := z.2.2.2.2.2.2.2.2.2.2.1 hx3
        have := q1.1
        have := q1.2.2.2.1
        dsimp only at *
        omega
    refine c_use (q := q) hT.2.2.2.1 ⟨rfl, rfl, ?_⟩
    have s2 : stR (im_u M1 6952 14 q) (rst R false r) := ⟨by rw [im_rdk _ _ _ (by decide)]; exact hJ.2.2.2.2.1.1, stkR_congr _ hJ.2.2.2.2.1.2 (fun y i b c _ _ => im_rdn _ _ _ _ (by omega))⟩
    refine c_pushR (5, -1, 0, 0) s2 (by omega) (Or.inl rfl) rfl rfl (fun z => absurd z (by decide)) (by decide) (by decide) (by decide) (by decide) (fun P1 hS1 hst1 => ⟨rfl, rfl, ?_⟩)
    refine c_pushR (w, x.2.1, x.2.2.1, deepOf R x.2.1) hst1 (by show (rst R false r).length + 1 < 29999; omega) (Or.inl rfl) rfl rfl (fun _ => hdv'.symm) (by constructor <;> omega) (by constructor <;> omega) (by constructor <;> omega) hdvi (fun M5 hS2 hst2 => ⟨rfl, rfl, ?_⟩)
    have hS := hS1.trans hS2
    refine hKs _ ?_ M5 (RJ_open hJ hx3 (by omega) (fun y b c => by rw [hS.1 y b c, im_u_ne _ _ _ b]) (fun k b c => by rw [hS.2 k c, im_rdk _ _ _ b]) hr2 hst2) ?_ ?_
    · rw [stq_ok (by omega) (by omega), ty37]; exact stp_n37 hx3
    · rw [hS.2 19 (by decide), im_rdk _ _ _ (by decide)]; exact hT.2.2.2.2.2
    · rw [hS.2 14 (by decide), im_rds]
  · have h37 : ty ≠ 37 := fun z => by
      have := r7.mpr z
      rcases hor with u | u
      · omega
      · exact u.2 this
    refine ⟨fun z => ?_, fun z => ?_, fun z => ?_, fun z => by omega, fun z => by omega, fun z => by omega, fun z => by omega, fun z => by omega, fun z => by omega, fun z => by omega⟩
    · exact c_readContract (hNH h37) (by omega) hdv' (by omega) hKf' hKs'
    · exact c_readValue (hNH h37) (by omega) hdv' hrt1 (fun z34 => (htyb.1 (by omega)).1) (fun z34 => (htyb.1 (by omega)).2) (tkn_w htk) (by rw [e8]; exact h8) hkp (by omega) (by omega) hKf' hKs'
    · exact c_readObservation (hNH h37) (by omega) hdv' (by omega) hKf' hKs'
end RPAR13

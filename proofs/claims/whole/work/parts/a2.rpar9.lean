section RPAR9
variable {g : im_g} {d : Nat} {e : im_E} {M M0 : im_M} {K : im_K} {lo kp pk a p q ty nm v m lw : Int} {x : en} {r L : List en} {R : Rw}
theorem NH_dp (h : NH M0 M lo kp pk a p q ty nm x r R m lw L) : 0 ≤ deepOf R x.2.1 ∧ deepOf R x.2.1 ≤ 101 := by
  have hxo := NH_ow h
  obtain ⟨_, _, _, _, hw, _⟩ := h
  unfold deepOf
  split
  · decide
  · have := hw.2.2.2.2.2.2.1 x.2.1 (by omega) (by show x.2.1 < m; omega)
    dsimp only at this
    omega
/-- what the new row says -/
theorem NH_row (h : NH M0 M lo kp pk a p q ty nm x r R m lw L) : deepOf (nodR R m ty nm v x.2.1 x.2.2.1) m = deepOf R x.2.1 + 1 ∧ nodR R m ty nm v x.2.1 x.2.2.1 1 m = deepOf R x.2.1 ∧ nodR R m ty nm v x.2.1 x.2.2.1 3 m = 0 ∧ rst (nodR R m ty nm v x.2.1 x.2.2.1) false r = L := by
  have hxo := NH_ow h
  obtain ⟨hJ, ht, hty, hkw, hw, hq2, hc29, hap, h38, hlo4, hLl, hL, hx, h37⟩ := h
  have hlo : 0 ≤ lo := hw.1
  have hlm : lo ≤ m := hw.2.1
  have hs : x.2.1 = -1 ∨ (1 ≤ x.2.2.1 ∧ x.2.2.1 ≤ 3) := by omega
  have h1 : nodR R m ty nm v x.2.1 x.2.2.1 1 m = deepOf R x.2.1 := by rw [nodR_m 1 (by omega) (by decide) hs, newN_1]
  refine ⟨?_, h1, by rw [nodR_m 3 (by omega) (by decide) hs, newN_3], ?_⟩
  · show (if m = -1 then 0 else _) = _
    rw [if_neg (by omega), h1]
  · rw [hL]
    refine rst_congr r false (fun y hy => ⟨fun h41 hm1 => ?_, ent_m1 hw y hy⟩)
    have hy : y.2.1 < m := by
      obtain ⟨_, _, z⟩ := hw.2.2.2.2.2.1 y (List.mem_cons_of_mem _ hy) h41
      rcases z with z | z
      · exact absurd z.2 hm1
      · exact z.2.1
    exact ⟨nodR_ne 1 _ (by omega) (by omega) hs, fun _ => nodR_ne 3 _ (by omega) (by omega) hs, fun _ => nodR_ne 6 _ (by omega) (by omega) hs⟩
theorem c_nlu {w dp : Int} {Z : Int → im_M → Prop} (h : NH M0 M lo kp pk a p q ty nm x r R m lw L) (hb : bgn x.1 ty) (hb2 : ty ≠ 34 ∧ ty ≠ 35) (hwi : im_i32 w) (hwk : w = kR ty 0) (hdp : dp = deepOf R x.2.1) (hdi : im_i32 dp) (hd : 2 ≤ d) (hKf : KFR e K M0 lo kp pk p ty nm v (x :: r, R, m, lw)) (hKs : KSR e K M0 lo kp pk q ty nm v (x :: r, R, m, lw)) (hZ : ∀ M4, stR M4 L → (∀ M5, SR M4 M5 → stR M5 (rst (nodR R m ty nm v x.2.1 x.2.2.1) false (shE ty m ++ r)) → K (.inl none) e M5) → Z m M4) :
    im_T g (d - 1) 287 0 [some (.ref 6952), some (vI w), some (vI dp), none] [] e M (im_ri (fun x12 e_ M11 => e = e_ ∧ (im_i32 x12) ∧ ((¬ x12 = (-1) → im_T g (d - 1) 288 0 [some (.ref 6952), some (vI x.2.1), some (vI x.2.2.1), some (vI x12)] [] e M11 (im_r0 (fun e_ M15 => e = e_ ∧ im_T g (d - 1) 282 0 [some (.ref 6952)] [] e M15 (im_r0 (fun e_ M16 => e = e_ ∧ Z x12 M16))))) ∧ (x12 = (-1) → K (.inl none) e M11)))) := by
  refine c_nl h hb hwi hdp hdi hd hKf (fun hmu M3 hN => ?_)
  obtain ⟨n1, n2, n3, n4, n5, n6, n7, n8, n9⟩ := id hN
  obtain ⟨hJ, ht, hty, hkw, hw, hq2, hc29, hap, h38, hlo4, hLl, hL, hx, h37⟩ := id h
  have hT := hJ.2.2.1
  refine c_use (q := q) ((n4 17 (by decide) (by decide)).trans ht.2.2.2.1) ⟨rfl, rfl, hZ _ ⟨?_, ?_⟩ (fun M5 hS gs => ?_)⟩
  · rw [im_rdk _ _ _ (by decide), n4 45 (by decide) (by decide)]; exact hJ.2.2.2.2.1.1
  · exact stkR_congr L hJ.2.2.2.2.1.2 (fun y i b c _ _ => by rw [im_rdn _ _ _ _ (by omega), n1 y (by omega) (by omega)])
  · refine NL_fin h hb hmu (by rw [← hwk]; exact hN) hKs (M4 := im_u M3 6952 14 q) (fun y b _ _ _ => im_u_ne _ _ _ b) (fun y i b _ => im_rdn _ _ _ _ (by omega)) (fun i _ => im_rdn _ _ _ _ (by decide)) (fun k _ b => im_rdk _ _ _ b) (im_rds _ _ _ _) ?_ ?_ (fun z => absurd z hb2.1) hS gs
    · rw [im_rdk _ _ _ (by decide), n4 7 (by decide) (by decide)]; omega
    · rw [im_rdn _ _ _ _ (by decide), if_neg hb2.2]; exact n8.1
theorem c_readContract {dp : Int} (h : NH M0 M lo kp pk a p q ty nm x r R m lw L) (hx9 : x.1 = 99) (hdp : dp = deepOf R x.2.1) (hd : 3 ≤ d) (hKf : KFR e K M0 lo kp pk p ty nm v (x :: r, R, m, lw)) (hKs : KSR e K M0 lo kp pk q ty nm v (x :: r, R, m, lw)) : im_T g d 283 0 [some (.ref 6952), some (vI x.2.1), some (vI x.2.2.1), some (vI dp), none, none] [] e M K := by
  obtain ⟨hJ, ht, hty, hkw, hw, hq2, hc29, hap, h38, hlo4, hLl, hL, hx, h37⟩ := id h
  have rr2 := rk_2 hty.1 hty.2
  have hdb := NH_dp h
  rw [← hdp] at hdb
  have hm5 : m ≤ 5000 := hw.2.2.2.1
  have hm0 : 0 ≤ m := by have : lo ≤ m := hw.2.1; have := hw.1; omega
  refine b_readContract_0 (by omega) ?_
  rw [ht.2.1]
  refine ⟨fun hn2 => c_ft hJ ht hty.1 hty.2 (fun c1 c2 => stp_n4 hx h37 (fun z => hn2 (rr2.mpr (by unfold bgn at z; omega)))) (by omega) hKf, fun h22 => ?_⟩
  have ht33 := rr2.mp h22
  have e18 : M 6952 18 = nm := ht.2.2.2.2.1 (Or.inl ht33)
  rw [e18]
  refine c_contractOf ht33.1 ht33.2 (hkw ht33.1 ht33.2) (fun w w1 w2 => ⟨_, rfl, rfl, ?_⟩)
  by_cases hin : ¬ (0 ≤ ty ∧ ty ≤ 5)
  · have hw0 := w2 hin
    subst hw0
    exact ⟨by decide, fun z => absurd rfl z, fun _ => c_ft hJ ht hty.1 hty.2 (fun c1 c2 => stp_n4 hx h37 (fun z => hin (by unfold bgn at z; omega))) (by omega) hKf⟩
  have hin := Decidable.of_not_not hin
  have hwk := w1 hin
  have hb : bgn x.1 ty := by unfold bgn; omega
  have i32m : im_i32 m := by constructor <;> omega
  have i32d : im_i32 dp := by constructor <;> omega
  have i32d1 : im_i32 (dp + 1) := by constructor <;> omega
  have hwb : 1 ≤ w ∧ w ≤ 50 := by
    rw [hwk]; unfold kR
    (repeat' split) <;> omega
  refine ⟨by constructor <;> omega, fun _ => c_nlu h hb (by omega) (by constructor <;> omega) hwk hdp i32d (by omega) hKf hKs (fun M4 s4 fin => ?_), fun z => by omega⟩
  obtain ⟨hdeep, h1m, h3m, hrr⟩ := NH_row (v := v) h
  rw [← hdp] at hdeep h1m
  generalize nodR R m ty nm v x.2.1 x.2.2.1 = R' at fin hdeep h1m h3m hrr
  clear w1 w2 hb hwb e18 h22 rr2
  have hc : ty = 0 ∨ ty = 1 ∨ ty = 2 ∨ ty = 3 ∨ ty = 4 ∨ ty = 5 := by omega
  rcases hc with z | z | z | z | z | z
  · subst z
    have hwk : w = 1 := hwk
    subst hwk
    refine ⟨fun _ => ⟨fun _ => ⟨fun _ => ?_, fun z => absurd rfl z⟩, fun z => absurd z (by decide)⟩, fun z => absurd z (by decide)⟩
    refine fin _ (SR.rf _) ?_
    have hl : rst R' false (shE 0 m ++ r) = rst R' false r := rfl
    rw [hl, hrr]; exact s4
  · subst z
    have hwk : w = 2 := hwk
    subst hwk
    refine ⟨fun _ => ⟨fun _ => ⟨fun z => absurd z (by decide), fun _ => ?_⟩, fun z => absurd z (by decide)⟩, fun z => absurd z (by decide)⟩
    refine c_pushR (1, m, 2, dp + 1) s4 (by omega) (Or.inl rfl) rfl rfl (fun _ => rfl) (by decide) i32m (by decide) i32d1 (fun P1 hS1 hst1 => ⟨rfl, rfl, ?_⟩)
    intro x22 hx22
    have hx22 : x22 = 2 := by omega
    subst hx22
    refine c_pushR (2, m, 1, dp + 1) hst1 (by show L.length + 1 < 29999; omega) (Or.inl rfl) rfl rfl (fun _ => rfl) (by decide) i32m (by decide) i32d1 (fun P2 hS2 hst2 => ⟨rfl, rfl, ?_⟩)
    refine ⟨fun z => absurd rfl z, fun _ => ?_⟩
    refine c_pushR (4, m, 3, 0) hst2 (by show L.length + 1 + 1 < 29999; omega) (Or.inl rfl) rfl rfl (fun z => absurd (show (4 : Int) ≤ 3 ∨ (4 : Int) = 8 ∨ (4 : Int) = 10 from z) (by decide)) (by decide) i32m (by decide) i32d (fun P3 hS3 hst3 => ⟨rfl, rfl, ?_⟩)
    refine c_pushR (4, m, 2, 0) hst3 (by show L.length + 1 + 1 + 1 < 29999; omega) (Or.inl rfl) rfl rfl (fun z => absurd (show (4 : Int) ≤ 3 ∨ (4 : Int) = 8 ∨ (4 : Int) = 10 from z) (by decide)) (by decide) i32m (by decide) i32d (fun P4 hS4 hst4 => ⟨rfl, rfl, ?_⟩)
    refine c_pushR (6, m, 0, 0) hst4 (by show L.length + 1 + 1 + 1 + 1 < 29999; omega) (Or.inl rfl) rfl rfl (fun z => absurd (show (6 : Int) ≤ 3 ∨ (6 : Int) = 8 ∨ (6 : Int) = 10 from z) (by decide)) (by decide) i32m (by decide) i32d (fun P5 hS5 hst5 => ⟨rfl, rfl, ?_⟩)
    refine ⟨fun z => absurd z (by decide), fun _ => ?_⟩
    refine c_pushR (4, m, 1, 0) hst5 (by show L.length + 1 + 1 + 1 + 1 + 1 < 29999; omega) (Or.inl rfl) rfl rfl (fun z => absurd (show (4 : Int) ≤ 3 ∨ (4 : Int) = 8 ∨ (4 : Int) = 10 from z) (by decide)) (by decide) i32m (by decide) i32d (fun P6 hS6 hst6 => ⟨rfl, rfl, ?_⟩)
    refine fin _ (((((hS1.trans hS2).trans hS3).trans hS4).trans hS5).trans hS6) ?_
    have hl : rst R' false (shE 1 m ++ r) = ((4, m, 1, 0) : en) :: ((6, m, 0, 0) : en) :: ((4, m, 2, 0) : en) :: ((4, m, 3, 0) : en) :: ((2, m, 1, deepOf R' m) : en) :: ((1, m, 2, deepOf R' m) : en) :: rst R' false r := rfl
    rw [hl, hdeep, hrr]; exact hst6
  · subst z
    have hwk : w = 4 := hwk
    subst hwk
    refine ⟨fun _ => ⟨fun z => absurd rfl z, fun _ => ?_⟩, fun z => absurd z (by decide)⟩
    refine c_pushR (1, m, 3, dp + 1) s4 (by omega) (Or.inl rfl) rfl rfl (fun _ => rfl) (by decide) i32m (by decide) i32d1 (fun P1 hS1 hst1 => ⟨rfl, rfl, ?_⟩)
    refine c_pushR (1, m, 2, dp + 1) hst1 (by show L.length + 1 < 29999; omega) (Or.inl rfl) rfl rfl (fun _ => rfl) (by decide) i32m (by decide) i32d1 (fun P2 hS2 hst2 => ⟨rfl, rfl, ?_⟩)
    refine c_pushR (3, m, 1, dp + 1) hst2 (by show L.length + 1 + 1 < 29999; omega) (Or.inl rfl) rfl rfl (fun _ => rfl) (by decide) i32m (by decide) i32d1 (fun P3 hS3 hst3 => ⟨rfl, rfl, ?_⟩)
    refine fin _ ((hS1.trans hS2).trans hS3) ?_
    have hl : rst R' false (shE 2 m ++ r) = ((3, m, 1, deepOf R' m) : en) :: ((1, m, 2, deepOf R' m) : en) :: ((1, m, 3, deepOf R' m) : en) :: rst R' false r := rfl
    rw [hl, hdeep, hrr]; exact hst3
  · subst z
    have hwk : w = 5 := hwk
    subst hwk
    refine ⟨fun z => absurd rfl z, fun _ => ?_⟩
    refine c_pushR (1, m, 2, dp + 1) s4 (by omega) (Or.inl rfl) rfl rfl (fun _ => rfl) (by decide) i32m (by decide) i32d1 (fun P1 hS1 hst1 => ⟨rfl, rfl, ?_⟩)
    refine c_pushR (9, m, 0, 0) hst1 (by show L.length + 1 < 29999; omega) (Or.inl rfl) rfl rfl (fun z => absurd (show (9 : Int) ≤ 3 ∨ (9 : Int) = 8 ∨ (9 : Int) = 10 from z) (by decide)) (by decide) i32m (by decide) i32d (fun P2 hS2 hst2 => ⟨rfl, rfl, ?_⟩)
    refine c_pushR (8, m, 0, dp) hst2 (by show L.length + 1 + 1 < 29999; omega) (Or.inl rfl) rfl rfl (fun _ => rfl) (by decide) i32m (by decide) i32d (fun P3 hS3 hst3 => ⟨rfl, rfl, ?_⟩)
    refine c_pushR (7, m, 0, 0) hst3 (by show L.length + 1 + 1 + 1 < 29999; omega) (Or.inl rfl) rfl rfl (fun z => absurd (show (7 : Int) ≤ 3 ∨ (7 : Int) = 8 ∨ (7 : Int) = 10 from z) (by decide)) (by decide) i32m (by decide) i32d (fun P4 hS4 hst4 => ⟨rfl, rfl, ?_⟩)
    refine fin _ (((hS1.trans hS2).trans hS3).trans hS4) ?_
    have hl : rst R' false (shE 3 m ++ r) = ((7, m, 0, 0) : en) :: ((8, m, R' 3 m, R' 1 m) : en) :: ((9, m, 0, 0) : en) :: ((1, m, 2, deepOf R' m) : en) :: rst R' false r := rfl
    rw [hl, hdeep, h3m, h1m, hrr]; exact hst4
  · subst z
    have hwk : w = 6 := hwk
    subst hwk
    refine ⟨fun _ => ⟨fun _ => ⟨fun z => absurd z (by decide), fun _ => ?_⟩, fun z => absurd z (by decide)⟩, fun z => absurd z (by decide)⟩
    refine c_pushR (1, m, 2, dp + 1) s4 (by omega) (Or.inl rfl) rfl rfl (fun _ => rfl) (by decide) i32m (by decide) i32d1 (fun P1 hS1 hst1 => ⟨rfl, rfl, ?_⟩)
    intro x22 hx22
    have hx22 : x22 = 2 := by omega
    subst hx22
    refine c_pushR (2, m, 1, dp + 1) hst1 (by show L.length + 1 < 29999; omega) (Or.inl rfl) rfl rfl (fun _ => rfl) (by decide) i32m (by decide) i32d1 (fun P2 hS2 hst2 => ⟨rfl, rfl, ?_⟩)
    refine ⟨fun _ => ⟨fun z => absurd z (by decide), fun _ => ?_⟩, fun z => absurd z (by decide)⟩
    refine c_pushR (4, m, 1, 0) hst2 (by show L.length + 1 + 1 < 29999; omega) (Or.inl rfl) rfl rfl (fun z => absurd (show (4 : Int) ≤ 3 ∨ (4 : Int) = 8 ∨ (4 : Int) = 10 from z) (by decide)) (by decide) i32m (by decide) i32d (fun P3 hS3 hst3 => ⟨rfl, rfl, ?_⟩)
    refine fin _ ((hS1.trans hS2).trans hS3) ?_
    have hl : rst R' false (shE 4 m ++ r) = ((4, m, 1, 0) : en) :: ((2, m, 1, deepOf R' m) : en) :: ((1, m, 2, deepOf R' m) : en) :: rst R' false r := rfl
    rw [hl, hdeep, hrr]; exact hst3
  · subst z
    have hwk : w = 7 := hwk
    subst hwk
    refine ⟨fun _ => ⟨fun _ => ⟨fun z => absurd z (by decide), fun _ => ?_⟩, fun z => absurd z (by decide)⟩, fun z => absurd z (by decide)⟩
    refine c_pushR (1, m, 2, dp + 1) s4 (by omega) (Or.inl rfl) rfl rfl (fun _ => rfl) (by decide) i32m (by decide) i32d1 (fun P1 hS1 hst1 => ⟨rfl, rfl, ?_⟩)
    intro x22 hx22
    have hx22 : x22 = 3 := by omega
    subst hx22
    refine c_pushR (3, m, 1, dp + 1) hst1 (by show L.length + 1 < 29999; omega) (Or.inl rfl) rfl rfl (fun _ => rfl) (by decide) i32m (by decide) i32d1 (fun P2 hS2 hst2 => ⟨rfl, rfl, ?_⟩)
    refine ⟨fun _ => ⟨fun _ => ?_, fun z => absurd rfl z⟩, fun z => absurd z (by decide)⟩
    refine fin _ (hS1.trans hS2) ?_
    have hl : rst R' false (shE 5 m ++ r) = ((3, m, 1, deepOf R' m) : en) :: ((1, m, 2, deepOf R' m) : en) :: rst R' false r := rfl
    rw [hl, hdeep, hrr]; exact hst2
theorem c_readObservation {dp : Int} (h : NH M0 M lo kp pk a p q ty nm x r R m lw L) (hx9 : x.1 = 111) (hdp : dp = deepOf R x.2.1) (hd : 3 ≤ d) (hKf : KFR e K M0 lo kp pk p ty nm v (x :: r, R, m, lw)) (hKs : KSR e K M0 lo kp pk q ty nm v (x :: r, R, m, lw)) : im_T g d 293 0 [some (.ref 6952), some (vI x.2.1), some (vI x.2.2.1), some (vI dp), none, none] [] e M K := by
  obtain ⟨hJ, ht, hty, hkw, hw, hq2, hc29, hap, h38, hlo4, hLl, hL, hx, h37⟩ := id h
  have rr2 := rk_2 hty.1 hty.2
  have hdb := NH_dp h
  rw [← hdp] at hdb
  have hm5 : m ≤ 5000 := hw.2.2.2.1
  have hm0 : 0 ≤ m := by have : lo ≤ m := hw.2.1; have := hw.1; omega
  refine b_readObservation_0 (by omega) ?_
  rw [ht.2.1]
  refine ⟨fun hn2 => c_ft hJ ht hty.1 hty.2 (fun c1 c2 => stp_n4 hx h37 (fun z => hn2 (rr2.mpr (by unfold bgn at z; omega)))) (by omega) hKf, fun h22 => ?_⟩
  have ht33 := rr2.mp h22
  have e18 : M 6952 18 = nm := ht.2.2.2.2.1 (Or.inl ht33)
  rw [e18]
  refine c_observationOf ht33.1 ht33.2 (hkw ht33.1 ht33.2) (fun w w1 w2 => ⟨_, rfl, rfl, ?_⟩)
  by_cases hin : ¬ (17 ≤ ty ∧ ty ≤ 27)
  · have hw0 := w2 hin
    subst hw0
    exact ⟨by decide, fun z => absurd rfl z, fun _ => c_ft hJ ht hty.1 hty.2 (fun c1 c2 => stp_n4 hx h37 (fun z => hin (by unfold bgn at z; omega))) (by omega) hKf⟩
  have hin := Decidable.of_not_not hin
  have hwk := w1 hin
  have hb : bgn x.1 ty := by unfold bgn; omega
  have i32m : im_i32 m := by constructor <;> omega
  have i32d : im_i32 dp := by constructor <;> omega
  have i32d1 : im_i32 (dp + 1) := by constructor <;> omega
  have hwb : 1 ≤ w ∧ w ≤ 50 := by
    rw [hwk]; unfold kR
    (repeat' split) <;> omega
  refine ⟨by constructor <;> omega, fun _ => c_nlu h hb (by omega) (by constructor <;> omega) hwk hdp i32d (by omega) hKf hKs (fun M4 s4 fin => ?_), fun z => by omega⟩
  obtain ⟨hdeep, h1m, h3m, hrr⟩ := NH_row (v := v) h
  rw [← hdp] at hdeep h1m
  generalize nodR R m ty nm v x.2.1 x.2.2.1 = R' at fin hdeep h1m h3m hrr
  clear w1 w2 hb hwb e18 h22 rr2
  have hc : ty = 17 ∨ ty = 18 ∨ ty = 19 ∨ ty = 20 ∨ ty = 21 ∨ ty = 22 ∨ ty = 23 ∨ ty = 24 ∨ ty = 25 ∨ ty = 26 ∨ ty = 27 := by omega
  rcases hc with z | z | z | z | z | z | z | z | z | z | z
  · subst z
    have hwk : w = 40 := hwk
    subst hwk
    refine ⟨fun z => absurd rfl z, fun _ => ?_⟩
    refine c_pushR (3, m, 2, dp + 1) s4 (by omega) (Or.inl rfl) rfl rfl (fun _ => rfl) (by decide) i32m (by decide) i32d1 (fun P1 hS1 hst1 => ⟨rfl, rfl, ?_⟩)
    refine c_pushR (3, m, 1, dp + 1) hst1 (by show L.length + 1 < 29999; omega) (Or.inl rfl) rfl rfl (fun _ => rfl) (by decide) i32m (by decide) i32d1 (fun P2 hS2 hst2 => ⟨rfl, rfl, ?_⟩)
    refine fin _ (hS1.trans hS2) ?_
    have hl : rst R' false (shE 17 m ++ r) = ((3, m, 1, deepOf R' m) : en) :: ((3, m, 2, deepOf R' m) : en) :: rst R' false r := rfl
    rw [hl, hdeep, hrr]; exact hst2
  · subst z
    have hwk : w = 41 := hwk
    subst hwk
    refine ⟨fun _ => fun z => absurd rfl z, fun _ => ?_⟩
    refine c_pushR (3, m, 2, dp + 1) s4 (by omega) (Or.inl rfl) rfl rfl (fun _ => rfl) (by decide) i32m (by decide) i32d1 (fun P1 hS1 hst1 => ⟨rfl, rfl, ?_⟩)
    refine c_pushR (3, m, 1, dp + 1) hst1 (by show L.length + 1 < 29999; omega) (Or.inl rfl) rfl rfl (fun _ => rfl) (by decide) i32m (by decide) i32d1 (fun P2 hS2 hst2 => ⟨rfl, rfl, ?_⟩)
    refine fin _ (hS1.trans hS2) ?_
    have hl : rst R' false (shE 18 m ++ r) = ((3, m, 1, deepOf R' m) : en) :: ((3, m, 2, deepOf R' m) : en) :: rst R' false r := rfl
    rw [hl, hdeep, hrr]; exact hst2
  · subst z
    have hwk : w = 42 := hwk
    subst hwk
    refine ⟨fun _ _ => ⟨fun z => absurd rfl z, fun _ => ?_⟩, fun z => by omega⟩
    refine c_pushR (3, m, 1, dp + 1) s4 (by omega) (Or.inl rfl) rfl rfl (fun _ => rfl) (by decide) i32m (by decide) i32d1 (fun P1 hS1 hst1 => ⟨rfl, rfl, ?_⟩)
    refine fin _ hS1 ?_
    have hl : rst R' false (shE 19 m ++ r) = ((3, m, 1, deepOf R' m) : en) :: rst R' false r := rfl
    rw [hl, hdeep, hrr]; exact hst1
  · subst z
    have hwk : w = 43 := hwk
    subst hwk
    refine ⟨fun _ _ => ⟨fun _ => ⟨fun z => absurd rfl z, fun _ => ?_⟩, fun z => absurd z (by decide)⟩, fun z => by omega⟩
    refine c_pushR (4, m, 2, 0) s4 (by omega) (Or.inl rfl) rfl rfl (fun z => absurd (show (4 : Int) ≤ 3 ∨ (4 : Int) = 8 ∨ (4 : Int) = 10 from z) (by decide)) (by decide) i32m (by decide) i32d (fun P1 hS1 hst1 => ⟨rfl, rfl, ?_⟩)
    refine c_pushR (4, m, 1, 0) hst1 (by show L.length + 1 < 29999; omega) (Or.inl rfl) rfl rfl (fun z => absurd (show (4 : Int) ≤ 3 ∨ (4 : Int) = 8 ∨ (4 : Int) = 10 from z) (by decide)) (by decide) i32m (by decide) i32d (fun P2 hS2 hst2 => ⟨rfl, rfl, ?_⟩)
    refine fin _ (hS1.trans hS2) ?_
    have hl : rst R' false (shE 20 m ++ r) = ((4, m, 1, 0) : en) :: ((4, m, 2, 0) : en) :: rst R' false r := rfl
    rw [hl, hrr]; exact hst2
  · subst z
    have hwk : w = 44 := hwk
    subst hwk
    refine ⟨fun _ _ => ⟨fun _ => ⟨fun _ => ⟨fun z => absurd z (by decide), fun _ => ?_⟩, fun z => absurd z (by decide)⟩, fun z => absurd z (by decide)⟩, fun z => by omega⟩
    refine c_pushR (2, m, 2, dp + 1) s4 (by omega) (Or.inl rfl) rfl rfl (fun _ => rfl) (by decide) i32m (by decide) i32d1 (fun P1 hS1 hst1 => ⟨rfl, rfl, ?_⟩)
    refine c_pushR (2, m, 1, dp + 1) hst1 (by show L.length + 1 < 29999; omega) (Or.inl rfl) rfl rfl (fun _ => rfl) (by decide) i32m (by decide) i32d1 (fun P2 hS2 hst2 => ⟨rfl, rfl, ?_⟩)
    refine fin _ (hS1.trans hS2) ?_
    have hl : rst R' false (shE 21 m ++ r) = ((2, m, 1, deepOf R' m) : en) :: ((2, m, 2, deepOf R' m) : en) :: rst R' false r := rfl
    rw [hl, hdeep, hrr]; exact hst2
  · subst z
    have hwk : w = 45 := hwk
    subst hwk
    refine ⟨fun _ _ => ⟨fun _ => ⟨fun _ => ⟨fun z => absurd z (by decide), fun _ => ?_⟩, fun z => absurd z (by decide)⟩, fun z => absurd z (by decide)⟩, fun z => by omega⟩
    refine c_pushR (2, m, 2, dp + 1) s4 (by omega) (Or.inl rfl) rfl rfl (fun _ => rfl) (by decide) i32m (by decide) i32d1 (fun P1 hS1 hst1 => ⟨rfl, rfl, ?_⟩)
    refine c_pushR (2, m, 1, dp + 1) hst1 (by show L.length + 1 < 29999; omega) (Or.inl rfl) rfl rfl (fun _ => rfl) (by decide) i32m (by decide) i32d1 (fun P2 hS2 hst2 => ⟨rfl, rfl, ?_⟩)
    refine fin _ (hS1.trans hS2) ?_
    have hl : rst R' false (shE 22 m ++ r) = ((2, m, 1, deepOf R' m) : en) :: ((2, m, 2, deepOf R' m) : en) :: rst R' false r := rfl
    rw [hl, hdeep, hrr]; exact hst2
  · subst z
    have hwk : w = 46 := hwk
    subst hwk
    refine ⟨fun _ _ => ⟨fun _ => ⟨fun _ => ⟨fun z => absurd z (by decide), fun _ => ?_⟩, fun z => absurd z (by decide)⟩, fun z => absurd z (by decide)⟩, fun z => by omega⟩
    refine c_pushR (2, m, 2, dp + 1) s4 (by omega) (Or.inl rfl) rfl rfl (fun _ => rfl) (by decide) i32m (by decide) i32d1 (fun P1 hS1 hst1 => ⟨rfl, rfl, ?_⟩)
    refine c_pushR (2, m, 1, dp + 1) hst1 (by show L.length + 1 < 29999; omega) (Or.inl rfl) rfl rfl (fun _ => rfl) (by decide) i32m (by decide) i32d1 (fun P2 hS2 hst2 => ⟨rfl, rfl, ?_⟩)
    refine fin _ (hS1.trans hS2) ?_
    have hl : rst R' false (shE 23 m ++ r) = ((2, m, 1, deepOf R' m) : en) :: ((2, m, 2, deepOf R' m) : en) :: rst R' false r := rfl
    rw [hl, hdeep, hrr]; exact hst2
  · subst z
    have hwk : w = 47 := hwk
    subst hwk
    refine ⟨fun _ _ => ⟨fun _ => ⟨fun _ => ⟨fun z => absurd z (by decide), fun _ => ?_⟩, fun z => absurd z (by decide)⟩, fun z => absurd z (by decide)⟩, fun z => by omega⟩
    refine c_pushR (2, m, 2, dp + 1) s4 (by omega) (Or.inl rfl) rfl rfl (fun _ => rfl) (by decide) i32m (by decide) i32d1 (fun P1 hS1 hst1 => ⟨rfl, rfl, ?_⟩)
    refine c_pushR (2, m, 1, dp + 1) hst1 (by show L.length + 1 < 29999; omega) (Or.inl rfl) rfl rfl (fun _ => rfl) (by decide) i32m (by decide) i32d1 (fun P2 hS2 hst2 => ⟨rfl, rfl, ?_⟩)
    refine fin _ (hS1.trans hS2) ?_
    have hl : rst R' false (shE 24 m ++ r) = ((2, m, 1, deepOf R' m) : en) :: ((2, m, 2, deepOf R' m) : en) :: rst R' false r := rfl
    rw [hl, hdeep, hrr]; exact hst2
  · subst z
    have hwk : w = 48 := hwk
    subst hwk
    refine ⟨fun _ _ => ⟨fun _ => ⟨fun _ => ⟨fun z => absurd z (by decide), fun _ => ?_⟩, fun z => absurd z (by decide)⟩, fun z => absurd z (by decide)⟩, fun z => by omega⟩
    refine c_pushR (2, m, 2, dp + 1) s4 (by omega) (Or.inl rfl) rfl rfl (fun _ => rfl) (by decide) i32m (by decide) i32d1 (fun P1 hS1 hst1 => ⟨rfl, rfl, ?_⟩)
    refine c_pushR (2, m, 1, dp + 1) hst1 (by show L.length + 1 < 29999; omega) (Or.inl rfl) rfl rfl (fun _ => rfl) (by decide) i32m (by decide) i32d1 (fun P2 hS2 hst2 => ⟨rfl, rfl, ?_⟩)
    refine fin _ (hS1.trans hS2) ?_
    have hl : rst R' false (shE 25 m ++ r) = ((2, m, 1, deepOf R' m) : en) :: ((2, m, 2, deepOf R' m) : en) :: rst R' false r := rfl
    rw [hl, hdeep, hrr]; exact hst2
  · subst z
    have hwk : w = 49 := hwk
    subst hwk
    refine ⟨fun _ _ => ⟨fun _ => ⟨fun _ => ⟨fun _ => ?_, fun z => absurd z (by decide)⟩, fun z => absurd z (by decide)⟩, fun z => absurd z (by decide)⟩, fun z => by omega⟩
    refine fin _ (SR.rf _) ?_
    have hl : rst R' false (shE 26 m ++ r) = rst R' false r := rfl
    rw [hl, hrr]; exact s4
  · subst z
    have hwk : w = 50 := hwk
    subst hwk
    refine ⟨fun _ _ => ⟨fun _ => ⟨fun _ => ⟨fun _ => ?_, fun z => absurd z (by decide)⟩, fun z => absurd z (by decide)⟩, fun z => absurd z (by decide)⟩, fun z => by omega⟩
    refine fin _ (SR.rf _) ?_
    have hl : rst R' false (shE 27 m ++ r) = rst R' false r := rfl
    rw [hl, hrr]; exact s4
end RPAR9

section RPAR14
variable {g : im_g} {d : Nat} {e : im_E} {M M0 : im_M} {K : im_K} {lo kp pk a p q ty nm v m lw nt : Int} {x : en} {r L : List en} {R : Rw} {t : Int → Int}
theorem rst_one {y : en} (h : re R false x = [y]) (h104 : x.1 ≠ 104) : rst R false (x :: r) = y :: rst R false r := by
  show re R false x ++ rst R (decide (x.1 = 104)) r = _
  rw [h, show decide (x.1 = 104) = false from decide_eq_false h104]; rfl
theorem c_readNext (hI : RI M0 M lo kp pk a (x :: r, R, m, lw)) (hq : RQ lo (x :: r, R, m, lw)) (h14 : M 6952 14 = a) (h19 : M 6952 19 = 0) (hrt : rtx M t nt) (htk : tkn t nt a p q ty nm v) (ha0 : 0 ≤ a) (h8 : M 6952 8 = 0 ∨ M 6952 8 = 1) (h38 : M 6952 38 = lo) (hlo4 : lo ≤ 4000) (hkp : 0 ≤ kp) (hkp2 : kp + 3 * nt + 302 ≤ 1100000) (hpk : 0 ≤ pk) (hpk2 : 2 * pk + nt < 40800) (hd : 6 ≤ d)
    (hKf : KFR e K M0 lo kp pk p ty nm v (x :: r, R, m, lw)) (hKs : KSR e K M0 lo kp pk q ty nm v (x :: r, R, m, lw)) : im_T g d 276 0 [some (.ref 6952), none, none, none, none] [] e M K := by
  obtain ⟨⟨q1, q2, q3, q4⟩, q5, q6, q7, q8⟩ := id hq
  dsimp only at q2 q4
  have hnt : nt ≤ 16384 := hrt.2.2.1
  have hap : a ≤ p ∧ p ≤ nt := ⟨htk.1, htk.2.1⟩
  have htyb : (ty ≠ 41 → p < q ∧ q ≤ nt) ∧ p ≤ q ∧ -2 ≤ ty ∧ ty ≤ 41 := by
    by_cases h41 : ty = 41
    · have := tkn_41 htk h41
      exact ⟨fun z => absurd h41 z, by omega, by omega, by omega⟩
    · obtain ⟨z1, z2, z3, z4, z5, _⟩ := tkn_q htk h41
      exact ⟨fun _ => ⟨z2, z3⟩, by omega, by omega, by omega⟩
  obtain ⟨ht34, hpq, hty1, hty2⟩ := htyb
  have hpq34 : ty = 34 → p < q := fun z => (ht34 (by omega)).1
  have hqn34 : ty = 34 → q ≤ nt := fun z => (ht34 (by omega)).2
  have hkw := tkn_kw htk
  have hnm : ty = 35 → 97 ≤ nm := fun z => (tkn_nm htk (Or.inl z)).1
  have hwd := tkn_w htk
  clear ht34
  have hu98 : u98 (x :: r) := q5.1
  have hKf' : KFR e (im_r0 (fun e_ M9 => e = e_ ∧ K (.inl none) e M9)) M0 lo kp pk p ty nm v (x :: r, R, m, lw) := fun c hc M' b1 b2 b3 => ⟨rfl, rfl, hKf c hc M' b1 b2 b3⟩
  have hKs' : KSR e (im_r0 (fun e_ M9 => e = e_ ∧ K (.inl none) e M9)) M0 lo kp pk q ty nm v (x :: r, R, m, lw) := fun c hc M' b1 b2 b3 => ⟨rfl, rfl, hKs c hc M' b1 b2 b3⟩
  have hsg : x.1 = 41 ∨ x.1 = 99 ∨ x.1 = 118 ∨ x.1 = 111 ∨ x.1 = 107 ∨ x.1 = 97 ∨ x.1 = 116 ∨ x.1 = 98 ∨ x.1 = 104 ∨ x.1 = 100 ∨ x.1 = 91 ∨ (x.1 = 49 ∨ x.1 = 50 ∨ x.1 = 51) := by
    by_cases h41 : x.1 = 41
    · exact Or.inl h41
    · obtain ⟨_, _, z⟩ := q1.2.2.2.2.2.1 x List.mem_cons_self h41
      rcases z with z | z
      · exact Or.inr (Or.inl z.1)
      · have := z.2.2.2.2.2.2.2.2.2.1
        omega
  rcases hsg with hx | hx | hx | hx | hx | hx | hx | hx | hx | hx | hx | hx
  · have hr : rst R false (x :: r) = (5, -1, 0, 0) :: rst R false r := rst_one (by unfold re; rw [if_neg (by omega), if_neg (by omega), if_neg (by omega), if_neg (by omega), if_neg (by omega), if_pos hx]) (by omega)
    refine c_rn0 hI q1 hr h14 h19 hrt htk ha0 (by omega) (by omega) (fun w dv M1 hw1 hdv hdvi hJ hT hrt1 e8 e38 hLl => ?_)
    have hw : w = 5 := by
      rcases hw1 with z | z
      · exact z.symm
      · exact absurd (show (5 : Int) = 7 from z.1) (by decide)
    clear hw1
    subst hw
    dsimp only
    unfold gN
    exact ⟨fun z => by omega, fun _ => ⟨fun z => by omega, fun z => by omega, fun z => by omega, fun z => by omega, fun z => by omega, fun z => by omega, fun z => by omega, fun z => by omega, fun z => by omega, fun z => c_readSign hJ hT hty1 hty2 hkw q1 q6 (by omega) (Or.inl ⟨hx, rfl⟩) rfl (by omega) hKf' hKs'⟩⟩
  · exact c_rnN hI hq h14 h19 hrt htk ha0 h8 h38 hlo4 hkp hkp2 hd (Or.inl ⟨hx, rfl⟩) hKf hKs
  · exact c_rnN hI hq h14 h19 hrt htk ha0 h8 h38 hlo4 hkp hkp2 hd (Or.inr (Or.inl ⟨hx, rfl⟩)) hKf hKs
  · exact c_rnN hI hq h14 h19 hrt htk ha0 h8 h38 hlo4 hkp hkp2 hd (Or.inr (Or.inr ⟨hx, rfl⟩)) hKf hKs
  · have hr : rst R false (x :: r) = (8, x.2.1, R 3 x.2.1, R 1 x.2.1) :: rst R false r := rst_one (by unfold re; rw [if_neg (by omega), if_neg (by omega), if_neg (by omega), if_neg (by omega), if_neg (by omega), if_neg (by omega), if_pos hx]) (by omega)
    refine c_rn0 hI q1 hr h14 h19 hrt htk ha0 (by omega) (by omega) (fun w dv M1 hw1 hdv hdvi hJ hT hrt1 e8 e38 hLl => ?_)
    have hw : w = 8 := by
      rcases hw1 with z | z
      · exact z.symm
      · exact absurd (show (8 : Int) = 7 from z.1) (by decide)
    clear hw1
    subst hw
    dsimp only
    unfold gN
    exact ⟨fun z => by omega, fun _ => ⟨fun z => by omega, fun z => by omega, fun z => by omega, fun z => by omega, fun z => c_readCase hJ hT hty1 hty2 hkw q1 hu98 q8 q2 (by omega) (e38.trans h38) hlo4 hLl hx rfl rfl (hdv (Or.inr (Or.inl rfl))) rfl (by omega) hKf' hKs', fun z => by omega, fun z => by omega, fun z => by omega, fun z => by omega, fun z => by omega⟩⟩
  · have hr : rst R false (x :: r) = (10, x.2.1, 0, R 1 x.2.1 + 1) :: (1, x.2.1, 2, R 1 x.2.1 + 1) :: rst R false r := by
      show re R false x ++ rst R (decide (x.1 = 104)) r = _
      rw [show re R false x = [(10, x.2.1, 0, R 1 x.2.1 + 1), (1, x.2.1, 2, R 1 x.2.1 + 1)] from by unfold re; rw [if_neg (by omega), if_pos hx], show decide (x.1 = 104) = false from decide_eq_false (by omega)]; rfl
    refine c_rn0 hI q1 hr h14 h19 hrt htk ha0 (by omega) (by omega) (fun w dv M1 hw1 hdv hdvi hJ hT hrt1 e8 e38 hLl => ?_)
    have hw : w = 10 := by
      rcases hw1 with z | z
      · exact z.symm
      · exact absurd (show (10 : Int) = 7 from z.1) (by decide)
    clear hw1
    subst hw
    dsimp only
    unfold gN
    exact ⟨fun z => by omega, fun _ => ⟨fun z => by omega, fun z => by omega, fun z => by omega, fun z => by omega, fun z => by omega, fun z => by omega, fun z => c_readAction hJ hT hty1 hty2 hkw q1 hu98 (by omega) hLl hx rfl (hdv (Or.inr (Or.inr rfl))) rfl (by omega) hKf' hKs', fun z => by omega, fun z => by omega, fun z => by omega⟩⟩
  · have hr : rst R false (x :: r) = (9, x.2.1, 0, 0) :: rst R false r := rst_one (by unfold re; rw [if_neg (by omega), if_neg (by omega), if_neg (by omega), if_neg (by omega), if_neg (by omega), if_neg (by omega), if_neg (by omega), if_neg (by omega), if_pos hx]) (by omega)
    refine c_rn0 hI q1 hr h14 h19 hrt htk ha0 (by omega) (by omega) (fun w dv M1 hw1 hdv hdvi hJ hT hrt1 e8 e38 hLl => ?_)
    have hw : w = 9 := by
      rcases hw1 with z | z
      · exact z.symm
      · exact absurd (show (9 : Int) = 7 from z.1) (by decide)
    clear hw1
    subst hw
    dsimp only
    unfold gN
    exact ⟨fun z => by omega, fun _ => ⟨fun z => by omega, fun z => by omega, fun z => by omega, fun z => by omega, fun z => by omega, fun z => c_readTime hJ hT hty1 hty2 hnm q1 (by omega) hrt1 (by omega) hpq34 hqn34 hwd (by rw [e8]; exact h8) hkp (by omega) hx rfl rfl (by omega) hKf' hKs', fun z => by omega, fun z => by omega, fun z => by omega, fun z => by omega⟩⟩
  · have hr : rst R false (x :: r) = (12, x.2.1, R 6 x.2.1, 0) :: rst R false r := rst_one (by unfold re; rw [if_neg (by omega), if_neg (by omega), if_neg (by omega), if_neg (by omega), if_neg (by omega), if_neg (by omega), if_neg (by omega), if_pos hx]; rfl) (by omega)
    refine c_rn0 hI q1 hr h14 h19 hrt htk ha0 (by omega) (by omega) (fun w dv M1 hw1 hdv hdvi hJ hT hrt1 e8 e38 hLl => ?_)
    have hw : w = 12 := by
      rcases hw1 with z | z
      · exact z.symm
      · exact absurd (show (12 : Int) = 7 from z.1) (by decide)
    clear hw1
    subst hw
    dsimp only
    unfold gN
    exact ⟨fun z => by omega, fun _ => ⟨fun z => by omega, fun z => by omega, fun z => by omega, fun z => by omega, fun z => by omega, fun z => by omega, fun z => by omega, fun z => c_readBound hJ hT hty1 hty2 q1 hap.1 hpq hrt1 (by omega) hpq34 hqn34 hwd (by rw [e8]; exact h8) hkp (by omega) hpk (by omega) hLl hx rfl rfl rfl (by omega) hKf' hKs', fun z => by omega, fun z => by omega⟩⟩
  · obtain ⟨y0, r', hr0, hy0, hyo⟩ := q1.2.2.2.2.2.2.2.1 hx
    have hr : rst R false (x :: r) = (13, x.2.1, R 6 x.2.1, 0) :: rst R false r.tail := by
      rw [hr0]
      show re R false x ++ rst R (decide (x.1 = 104)) (y0 :: r') = _
      rw [show re R false x = [] from if_pos hx, show decide (x.1 = 104) = true from decide_eq_true hx]
      show re R true y0 ++ rst R (decide (y0.1 = 104)) r' = _
      rw [show decide (y0.1 = 104) = false from decide_eq_false (by omega), show re R true y0 = [(13, y0.2.1, R 6 y0.2.1, 0)] from by unfold re; rw [if_neg (by omega), if_neg (by omega), if_neg (by omega), if_neg (by omega), if_neg (by omega), if_neg (by omega), if_neg (by omega), if_pos hy0]; rfl, hyo]
      rfl
    refine c_rn0 hI q1 hr h14 h19 hrt htk ha0 (by omega) (by omega) (fun w dv M1 hw1 hdv hdvi hJ hT hrt1 e8 e38 hLl => ?_)
    have hw : w = 13 := by
      rcases hw1 with z | z
      · exact z.symm
      · exact absurd (show (13 : Int) = 7 from z.1) (by decide)
    clear hw1
    subst hw
    dsimp only
    unfold gN
    exact ⟨fun z => by omega, fun _ => ⟨fun z => by omega, fun z => by omega, fun z => by omega, fun z => by omega, fun z => by omega, fun z => by omega, fun z => by omega, fun z => by omega, fun z => c_readSecond hJ hT hty1 hty2 q1 hu98 hap.1 hpq hrt1 (by omega) hpq34 hqn34 hwd (by rw [e8]; exact h8) hkp (by omega) hpk (by omega) hLl hx rfl rfl rfl (by omega) hKf' hKs', fun z => by omega⟩⟩
  · have hr : rst R false (x :: r) = (6, x.2.1, 0, 0) :: rst R false r := rst_one (by unfold re; rw [if_neg (by omega), if_neg (by omega), if_neg (by omega), if_neg (by omega), if_neg (by omega), if_neg (by omega), if_neg (by omega), if_neg (by omega), if_neg (by omega), if_pos hx]) (by omega)
    refine c_rn0 hI q1 hr h14 h19 hrt htk ha0 (by omega) (by omega) (fun w dv M1 hw1 hdv hdvi hJ hT hrt1 e8 e38 hLl => ?_)
    have hw : w = 6 := by
      rcases hw1 with z | z
      · exact z.symm
      · exact absurd (show (6 : Int) = 7 from z.1) (by decide)
    clear hw1
    subst hw
    dsimp only
    unfold gN
    exact ⟨fun z => by omega, fun _ => ⟨fun z => by omega, fun z => by omega, fun z => by omega, fun z => by omega, fun z => by omega, fun z => by omega, fun z => by omega, fun z => by omega, fun z => by omega, fun z => c_readSign hJ hT hty1 hty2 hkw q1 q6 (by omega) (Or.inr (Or.inl ⟨hx, rfl, rfl⟩)) rfl (by omega) hKf' hKs'⟩⟩
  · have hr : rst R false (x :: r) = (7, x.2.1, 0, 0) :: rst R false r := rst_one (by unfold re; rw [if_neg (by omega), if_neg (by omega), if_neg (by omega), if_neg (by omega), if_neg (by omega), if_neg (by omega), if_neg (by omega), if_neg (by omega), if_neg (by omega), if_neg (by omega), if_pos hx]) (by omega)
    refine c_rn0 hI q1 hr h14 h19 hrt htk ha0 (by omega) (by omega) (fun w dv M1 hw1 hdv hdvi hJ hT hrt1 e8 e38 hLl => ?_)
    have hw : w = 7 ∨ w = 11 := by
      rcases hw1 with z | z
      · exact Or.inl z.symm
      · exact Or.inr z.2
    clear hw1
    dsimp only
    unfold gN
    exact ⟨fun z => by omega, fun _ => ⟨fun z => by omega, fun z => by omega, fun z => by omega, fun z => by omega, fun z => by omega, fun z => by omega, fun z => by omega, fun z => by omega, fun z => by omega, fun z => c_readSign hJ hT hty1 hty2 hkw q1 q6 (by omega) (Or.inr (Or.inr ⟨hx, hw⟩)) rfl (by omega) hKf' hKs'⟩⟩
  · have hr : rst R false (x :: r) = (4, x.2.1, x.2.2.1, 0) :: rst R false r := rst_one (by unfold re; rw [if_neg (by omega), if_neg (by omega), if_neg (by omega), if_neg (by omega), if_neg (by omega), if_neg (by omega), if_neg (by omega), if_neg (by omega), if_neg (by omega), if_neg (by omega), if_neg (by omega)]) (by omega)
    refine c_rn0 hI q1 hr h14 h19 hrt htk ha0 (by omega) (by omega) (fun w dv M1 hw1 hdv hdvi hJ hT hrt1 e8 e38 hLl => ?_)
    have hw : w = 4 := by
      rcases hw1 with z | z
      · exact z.symm
      · exact absurd (show (4 : Int) = 7 from z.1) (by decide)
    clear hw1
    subst hw
    dsimp only
    unfold gN
    exact ⟨fun z => by omega, fun _ => ⟨fun z => by omega, fun z => by omega, fun z => by omega, fun z => c_readName hJ hT hty1 hty2 q1 q7 (by omega) hx rfl rfl rfl (by omega) hKf' hKs', fun z => by omega, fun z => by omega, fun z => by omega, fun z => by omega, fun z => by omega, fun z => by omega⟩⟩
end RPAR14

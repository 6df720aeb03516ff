/-! the check that is read, by hand: it is taken as it wraps -/
set_option maxRecDepth 20000 in
set_option maxHeartbeats 4000000 in
theorem k_Journal_soundLength_74' {g : im_g} {d : Nat} {e : im_E} {M : im_M} {K : im_K} {p1 p4 p5 : Int} (hd : 1 ≤ d) (hP : (im_i32 p5) ∧ (im_i32 (((M 2068 1) + p1) - 4)) ∧ (((((M 2068 1) + p1) - 4) ≤ p5 → im_T g (d - 1) 32 0 [some (.ref 2068), some (vI (((M 2068 1) + p1) - 4)), some (vI 4), none, none, none] [] e M (im_rl (fun x9 e_ M8 => e = e_ ∧ im_T g (d - 1) 33 0 [some (vI p4), some (vI (M8 2068 1)), none, none] [] e M8 (im_ri (fun x12 e_ M11 => e = e_ ∧ (im_i32 x12) ∧ ((∀ x16 : Int, (((¬ x9.bmod 4294967296 = x12) ∧ x16 = 0) ∨ ((x9.bmod 4294967296 = x12) ∧ x16 = p1)) → K (.inl (some (vI x16))) e M11))))))) ∧ (p5 < (((M 2068 1) + p1) - 4) → (0 ≤ p5 ∧ p5 < 16384) ∧ im_T g (d - 1) 31 0 [some (vI p4), some (vI (M 2069 p5))] [] e M (im_ri (fun x23 e_ M22 => e = e_ ∧ im_T g d 25 74 [some (.ref 2068), some (vI p1), none, none, some (vI x23), some (vI (p5 + 1)), none] [] e M22 K))))) : im_T g d 25 74 [some (.ref 2068), some (vI p1), none, none, some (vI p4), some (vI p5), none] [] e M K := by
  refine im_ld (q := 76) (i := 5) D25_74 rfl rfl rfl ?_
  refine im_ld (q := 77) (i := 0) D25_76 rfl rfl rfl ?_
  refine im_rng (j := 1) sf_2068 (by decide) (by decide) (fun hr1 => ?_)
  refine im_gfI (q := 80) D25_77 (im_fl cn_25 fl_1_19) sf_2068 rfl rfl tI_1_1 rfl ?_
  refine im_ld (q := 81) (i := 1) D25_80 rfl rfl rfl ?_
  refine im_iadd (q := 82) D25_81 ?_
  refine im_iconst (q := 83) D25_82 ?_
  refine im_isub (q := 84) D25_83 ?_
  obtain ⟨hg2, hP⟩ := hP
  obtain ⟨hg3, hP⟩ := hP
  refine im_icmp (q := 87) (t := 107) D25_84 rfl hg2 hg3 (fun hc4 => ?_) (fun hc4 => ?_)
  · replace hP := hP.1 hc4
    refine im_ld (q := 108) (i := 0) D25_107 rfl rfl rfl ?_
    refine im_ld (q := 109) (i := 0) D25_108 rfl rfl rfl ?_
    refine im_gfI (q := 112) D25_109 (im_fl cn_25 fl_1_19) sf_2068 rfl rfl tI_1_1 rfl ?_
    refine im_ld (q := 113) (i := 1) D25_112 rfl rfl rfl ?_
    refine im_iadd (q := 114) D25_113 ?_
    refine im_iconst (q := 115) D25_114 ?_
    refine im_isub (q := 116) D25_115 ?_
    refine im_iconst (q := 117) D25_116 ?_
    refine im_callV (q := 120) (kd := 1) (y := 32) (n := 2) (ci := 1) (a := 2068) (vs := [.ref 2068, vI (((M 2068 1) + p1) - 4), vI 4]) (r := []) (L2 := [some (.ref 2068), some (vI (((M 2068 1) + p1) - 4)), some (vI 4), none, none, none]) D25_117 (im_cal cn_25 cl_1_76) (Or.inl rfl) rfl sf_2068 rfl rfl rfl rfl hd ⟨rfl, rfl, rfl, trivial⟩ ?_
    refine hP.mono ?_
    rintro _ e21 M8 ⟨x9, rfl, rfl, hP⟩
    refine im_bkS ?_
    refine im_st2 (q := 122) (i := 5) (L' := [some (.ref 2068), some (vI p1), none, none, some (vI p4), some (vL x9), none]) D25_120 (Or.inr rfl) (Nat.le_of_ble_eq_true rfl) rfl ?_
    refine im_ld (q := 124) (i := 5) D25_122 rfl rfl rfl ?_
    refine im_l2i (q := 125) D25_124 ?_
    rw [← vI_bm x9]
    refine im_ld (q := 127) (i := 4) D25_125 rfl rfl rfl ?_
    refine im_ld (q := 128) (i := 0) D25_127 rfl rfl rfl ?_
    refine im_rng (j := 1) sf_2068 (by decide) (by decide) (fun hr10 => ?_)
    refine im_gfI (q := 131) D25_128 (im_fl cn_25 fl_1_19) sf_2068 rfl rfl tI_1_1 rfl ?_
    refine im_callS (q := 134) (kd := 0) (y := 33) (n := 2) (z := 1) (vs := [vI p4, vI (M8 2068 1)]) (r := [vI (x9.bmod 4294967296)]) (L2 := [some (vI p4), some (vI (M8 2068 1)), none, none]) D25_131 rfl (im_cal cn_25 cl_1_55) (Or.inl rfl) rfl rfl rfl rfl rfl hd ⟨rfl, rfl, trivial⟩ ?_
    refine hP.mono ?_
    rintro _ e20 M11 ⟨x12, rfl, rfl, hP⟩
    refine im_bkS ?_
    have hg13 : im_i32 (x9.bmod 4294967296) := bm_i32 _
    obtain ⟨hg14, hP⟩ := hP
    have hJ17 := hP
    have kJ18 : ∀ x16 : Int, (((¬ x9.bmod 4294967296 = x12) ∧ x16 = 0) ∨ ((x9.bmod 4294967296 = x12) ∧ x16 = p1)) → im_T g d 25 142 [none, none, none, none, none, none, none] [vI x16] e M11 K := by
      intro x16 hx19
      have hP := hJ17 x16 hx19
      exact im_iret (q := 143) D25_142 rfl hP
    refine im_icmp (q := 137) (t := 141) D25_134 rfl hg13 hg14 (fun hc15 => ?_) (fun hc15 => ?_)
    · refine im_iconst (q := 142) D25_141 ?_
      exact (kJ18 (0) (Or.inl ⟨hc15, rfl⟩)).wk trivial
    · refine im_ld (q := 138) (i := 1) D25_137 rfl rfl rfl ?_
      refine im_goto (q := 141) (t := 142) D25_138 rfl ?_
      exact (kJ18 (p1) (Or.inr ⟨(Decidable.not_not.mp hc15), rfl⟩)).wk trivial
  · replace hP := hP.2 (Int.not_le.mp hc4)
    refine im_ld (q := 89) (i := 4) D25_87 rfl rfl rfl ?_
    refine im_ld (q := 90) (i := 0) D25_89 rfl rfl rfl ?_
    refine im_gfR (q := 93) (b := 2069) D25_90 (im_fl cn_25 fl_1_9) sf_2068 rfl rfl tR_1_0 rfl ?_
    refine im_ld (q := 95) (i := 5) D25_93 rfl rfl rfl ?_
    obtain ⟨hg6, hP⟩ := hP
    refine im_rng (j := p5) sf_2069 hg6.1 hg6.2 (fun hr7 => ?_)
    refine im_bald (q := 96) D25_95 sf_2069 (Or.inl rfl) hg6.1 hg6.2 (by decide) rfl ?_
    refine im_callS (q := 99) (kd := 0) (y := 31) (n := 2) (z := 1) (vs := [vI p4, vI (M 2069 p5)]) (r := []) (L2 := [some (vI p4), some (vI (M 2069 p5))]) D25_96 rfl (im_cal cn_25 cl_1_61) (Or.inl rfl) rfl rfl rfl rfl rfl hd ⟨rfl, rfl, trivial⟩ ?_
    refine hP.mono ?_
    rintro _ e24 M22 ⟨x23, rfl, rfl, hP⟩
    refine im_bkS ?_
    refine im_st1 (q := 101) (i := 4) (L' := [some (.ref 2068), some (vI p1), none, none, some (vI x23), some (vI p5), none]) D25_99 (Or.inr rfl) (Nat.le_of_ble_eq_true rfl) rfl ?_
    refine im_iinc (q := 104) (i := 5) (L' := [some (.ref 2068), some (vI p1), none, none, some (vI x23), some (vI (p5 + 1)), none]) D25_101 rfl (Nat.le_of_ble_eq_true rfl) rfl ?_
    refine im_goto (q := 107) (t := 74) D25_104 rfl ?_
    exact hP.wk ⟨rfl, rfl, rfl, rfl, trivial⟩

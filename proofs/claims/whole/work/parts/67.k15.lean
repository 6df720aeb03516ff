/-! blocks of the class -/
theorem D258_0 {g : im_g} : im_D g 258 0 (.iload_n 1) 1 := im_D.of (by decide +kernel)
theorem D258_1 {g : im_g} : im_D g 258 1 (.ifCond .lt 13) 4 := im_D.of (by decide +kernel)
theorem D258_4 {g : im_g} : im_D g 258 4 (.iload_n 1) 5 := im_D.of (by decide +kernel)
theorem D258_5 {g : im_g} : im_D g 258 5 (.bipush 7) 7 := im_D.of (by decide +kernel)
theorem D258_7 {g : im_g} : im_D g 258 7 (.if_icmp .gt 7) 10 := im_D.of (by decide +kernel)
theorem D258_10 {g : im_g} : im_D g 258 10 (.iconst 1) 11 := im_D.of (by decide +kernel)
theorem D258_11 {g : im_g} : im_D g 258 11 (.goto 4) 14 := im_D.of (by decide +kernel)
theorem D258_14 {g : im_g} : im_D g 258 14 (.iconst 0) 15 := im_D.of (by decide +kernel)
theorem D258_15 {g : im_g} : im_D g 258 15 (.invokestatic 195) 18 := im_D.of (by decide +kernel)
theorem D258_18 {g : im_g} : im_D g 258 18 (.iload_n 1) 19 := im_D.of (by decide +kernel)
theorem D258_19 {g : im_g} : im_D g 258 19 (.tableswitch 88 0 6 #[41, 46, 51, 56, 64, 72, 80]) 20 := im_D.of (by decide +kernel)
theorem D258_60 {g : im_g} : im_D g 258 60 (.aload_n 0) 61 := im_D.of (by decide +kernel)
theorem D258_61 {g : im_g} : im_D g 258 61 (.invokevirtual 442) 64 := im_D.of (by decide +kernel)
theorem D258_64 {g : im_g} : im_D g 258 64 (.ireturn) 65 := im_D.of (by decide +kernel)
theorem D258_65 {g : im_g} : im_D g 258 65 (.aload_n 0) 66 := im_D.of (by decide +kernel)
theorem D258_66 {g : im_g} : im_D g 258 66 (.invokevirtual 445) 69 := im_D.of (by decide +kernel)
theorem D258_69 {g : im_g} : im_D g 258 69 (.ireturn) 70 := im_D.of (by decide +kernel)
theorem D258_70 {g : im_g} : im_D g 258 70 (.aload_n 0) 71 := im_D.of (by decide +kernel)
theorem D258_71 {g : im_g} : im_D g 258 71 (.getfield 127) 74 := im_D.of (by decide +kernel)
theorem D258_74 {g : im_g} : im_D g 258 74 (.ireturn) 75 := im_D.of (by decide +kernel)
theorem D258_75 {g : im_g} : im_D g 258 75 (.aload_n 0) 76 := im_D.of (by decide +kernel)
theorem D258_76 {g : im_g} : im_D g 258 76 (.getfield 113) 79 := im_D.of (by decide +kernel)
theorem D258_79 {g : im_g} : im_D g 258 79 (.getfield 448) 82 := im_D.of (by decide +kernel)
theorem D258_82 {g : im_g} : im_D g 258 82 (.ireturn) 83 := im_D.of (by decide +kernel)
theorem D258_83 {g : im_g} : im_D g 258 83 (.aload_n 0) 84 := im_D.of (by decide +kernel)
theorem D258_84 {g : im_g} : im_D g 258 84 (.getfield 113) 87 := im_D.of (by decide +kernel)
theorem D258_87 {g : im_g} : im_D g 258 87 (.getfield 439) 90 := im_D.of (by decide +kernel)
theorem D258_90 {g : im_g} : im_D g 258 90 (.ireturn) 91 := im_D.of (by decide +kernel)
theorem D258_91 {g : im_g} : im_D g 258 91 (.aload_n 0) 92 := im_D.of (by decide +kernel)
theorem D258_92 {g : im_g} : im_D g 258 92 (.getfield 36) 95 := im_D.of (by decide +kernel)
theorem D258_95 {g : im_g} : im_D g 258 95 (.getfield 224) 98 := im_D.of (by decide +kernel)
theorem D258_98 {g : im_g} : im_D g 258 98 (.ireturn) 99 := im_D.of (by decide +kernel)
theorem D258_99 {g : im_g} : im_D g 258 99 (.aload_n 0) 100 := im_D.of (by decide +kernel)
theorem D258_100 {g : im_g} : im_D g 258 100 (.getfield 64) 103 := im_D.of (by decide +kernel)
theorem D258_103 {g : im_g} : im_D g 258 103 (.getfield 271) 106 := im_D.of (by decide +kernel)
theorem D258_106 {g : im_g} : im_D g 258 106 (.ireturn) 107 := im_D.of (by decide +kernel)
theorem D258_107 {g : im_g} : im_D g 258 107 (.aload_n 0) 108 := im_D.of (by decide +kernel)
theorem D258_108 {g : im_g} : im_D g 258 108 (.getfield 113) 111 := im_D.of (by decide +kernel)
theorem D258_111 {g : im_g} : im_D g 258 111 (.getfield 411) 114 := im_D.of (by decide +kernel)
theorem D258_114 {g : im_g} : im_D g 258 114 (.ifCond .eq 7) 117 := im_D.of (by decide +kernel)
theorem D258_117 {g : im_g} : im_D g 258 117 (.iconst 1) 118 := im_D.of (by decide +kernel)
theorem D258_118 {g : im_g} : im_D g 258 118 (.goto 4) 121 := im_D.of (by decide +kernel)
theorem D258_121 {g : im_g} : im_D g 258 121 (.iconst 0) 122 := im_D.of (by decide +kernel)
theorem D258_122 {g : im_g} : im_D g 258 122 (.ireturn) 123 := im_D.of (by decide +kernel)
theorem D259_0 {g : im_g} : im_D g 259 0 (.iconst 0) 1 := im_D.of (by decide +kernel)
theorem D259_1 {g : im_g} : im_D g 259 1 (.istore_n 1) 2 := im_D.of (by decide +kernel)
theorem D259_2 {g : im_g} : im_D g 259 2 (.iconst 0) 3 := im_D.of (by decide +kernel)
theorem D259_3 {g : im_g} : im_D g 259 3 (.istore_n 2) 4 := im_D.of (by decide +kernel)
theorem D259_4 {g : im_g} : im_D g 259 4 (.iload_n 2) 5 := im_D.of (by decide +kernel)
theorem D259_5 {g : im_g} : im_D g 259 5 (.bipush 16) 7 := im_D.of (by decide +kernel)
theorem D259_7 {g : im_g} : im_D g 259 7 (.if_icmp .ge 27) 10 := im_D.of (by decide +kernel)
theorem D259_10 {g : im_g} : im_D g 259 10 (.iload_n 1) 11 := im_D.of (by decide +kernel)
theorem D259_11 {g : im_g} : im_D g 259 11 (.aload_n 0) 12 := im_D.of (by decide +kernel)
theorem D259_12 {g : im_g} : im_D g 259 12 (.getfield 49) 15 := im_D.of (by decide +kernel)
theorem D259_15 {g : im_g} : im_D g 259 15 (.iload_n 2) 16 := im_D.of (by decide +kernel)
theorem D259_16 {g : im_g} : im_D g 259 16 (.iaload) 17 := im_D.of (by decide +kernel)
theorem D259_17 {g : im_g} : im_D g 259 17 (.iconst (-1)) 18 := im_D.of (by decide +kernel)
theorem D259_18 {g : im_g} : im_D g 259 18 (.if_icmp .eq 7) 21 := im_D.of (by decide +kernel)
theorem D259_21 {g : im_g} : im_D g 259 21 (.iconst 1) 22 := im_D.of (by decide +kernel)
theorem D259_22 {g : im_g} : im_D g 259 22 (.goto 4) 25 := im_D.of (by decide +kernel)
theorem D259_25 {g : im_g} : im_D g 259 25 (.iconst 0) 26 := im_D.of (by decide +kernel)
theorem D259_26 {g : im_g} : im_D g 259 26 (.iadd) 27 := im_D.of (by decide +kernel)
theorem D259_27 {g : im_g} : im_D g 259 27 (.istore_n 1) 28 := im_D.of (by decide +kernel)
theorem D259_28 {g : im_g} : im_D g 259 28 (.iinc 2 1) 31 := im_D.of (by decide +kernel)
theorem D259_31 {g : im_g} : im_D g 259 31 (.goto (-27)) 34 := im_D.of (by decide +kernel)
theorem D259_34 {g : im_g} : im_D g 259 34 (.iload_n 1) 35 := im_D.of (by decide +kernel)
theorem D259_35 {g : im_g} : im_D g 259 35 (.ireturn) 36 := im_D.of (by decide +kernel)
theorem D260_0 {g : im_g} : im_D g 260 0 (.iconst 0) 1 := im_D.of (by decide +kernel)
theorem D260_1 {g : im_g} : im_D g 260 1 (.istore_n 1) 2 := im_D.of (by decide +kernel)
theorem D260_2 {g : im_g} : im_D g 260 2 (.iconst 0) 3 := im_D.of (by decide +kernel)
theorem D260_3 {g : im_g} : im_D g 260 3 (.istore_n 2) 4 := im_D.of (by decide +kernel)
theorem D260_4 {g : im_g} : im_D g 260 4 (.iload_n 2) 5 := im_D.of (by decide +kernel)
theorem D260_5 {g : im_g} : im_D g 260 5 (.bipush 16) 7 := im_D.of (by decide +kernel)
theorem D260_7 {g : im_g} : im_D g 260 7 (.if_icmp .ge 29) 10 := im_D.of (by decide +kernel)
theorem D260_10 {g : im_g} : im_D g 260 10 (.iload_n 1) 11 := im_D.of (by decide +kernel)
theorem D260_11 {g : im_g} : im_D g 260 11 (.aload_n 0) 12 := im_D.of (by decide +kernel)
theorem D260_12 {g : im_g} : im_D g 260 12 (.getfield 55) 15 := im_D.of (by decide +kernel)
theorem D260_15 {g : im_g} : im_D g 260 15 (.iload_n 2) 16 := im_D.of (by decide +kernel)
theorem D260_16 {g : im_g} : im_D g 260 16 (.aaload) 17 := im_D.of (by decide +kernel)
theorem D260_17 {g : im_g} : im_D g 260 17 (.getfield 290) 20 := im_D.of (by decide +kernel)
theorem D260_20 {g : im_g} : im_D g 260 20 (.ifCond .eq 7) 23 := im_D.of (by decide +kernel)
theorem D260_23 {g : im_g} : im_D g 260 23 (.iconst 1) 24 := im_D.of (by decide +kernel)
theorem D260_24 {g : im_g} : im_D g 260 24 (.goto 4) 27 := im_D.of (by decide +kernel)
theorem D260_27 {g : im_g} : im_D g 260 27 (.iconst 0) 28 := im_D.of (by decide +kernel)
theorem D260_28 {g : im_g} : im_D g 260 28 (.iadd) 29 := im_D.of (by decide +kernel)
theorem D260_29 {g : im_g} : im_D g 260 29 (.istore_n 1) 30 := im_D.of (by decide +kernel)
theorem D260_30 {g : im_g} : im_D g 260 30 (.iinc 2 1) 33 := im_D.of (by decide +kernel)
theorem D260_33 {g : im_g} : im_D g 260 33 (.goto (-29)) 36 := im_D.of (by decide +kernel)
theorem D260_36 {g : im_g} : im_D g 260 36 (.iload_n 1) 37 := im_D.of (by decide +kernel)
theorem D260_37 {g : im_g} : im_D g 260 37 (.ireturn) 38 := im_D.of (by decide +kernel)
set_option maxRecDepth 20000 in
set_option maxHeartbeats 4000000 in
theorem k_P_told_0 {g : im_g} {d : Nat} {e : im_E} {M : im_M} {K : im_K} {p1 : Int} (hd : 1 ≤ d) (hP : (im_i32 p1) ∧ ((((0 ≤ p1 → ((p1 ≤ 7 → im_T g (d - 1) 168 0 [some (vI 1)] [] e M (im_rx (im_r0 (fun  e_ M38 => e = e_ ∧ ((p1 = 0 → im_T g (d - 1) 259 0 [some (.ref 0), none, none] [] e M38 (im_ri (fun x44 e_ M41 => e = e_ ∧ K (.inl (some (vI x44))) e M41))) ∧ (p1 = 1 → im_T g (d - 1) 260 0 [some (.ref 0), none, none] [] e M38 (im_ri (fun x49 e_ M46 => e = e_ ∧ K (.inl (some (vI x49))) e M46))) ∧ (p1 = 2 → K (.inl (some (vI (M38 0 1)))) e M38) ∧ (p1 = 3 → K (.inl (some (vI (M38 2068 1)))) e M38) ∧ (p1 = 4 → K (.inl (some (vI (M38 2068 2)))) e M38) ∧ (p1 = 5 → K (.inl (some (vI (M38 13 8)))) e M38) ∧ (p1 = 6 → K (.inl (some (vI (M38 30 4)))) e M38) ∧ (p1 < 0 ∨ 6 < p1 → ((∀ x63 : Int, ((((M38 2068 4) = 0) ∧ x63 = 0) ∨ ((¬ (M38 2068 4) = 0) ∧ x63 = 1)) → K (.inl (some (vI x63))) e M38)))))) (fun E_ e_ M_ => K (.inr E_) e_ M_))))))) ∧ ((((p1 < 0)) ∨ ((0 ≤ p1) ∧ (7 < p1))) → im_T g (d - 1) 168 0 [some (vI 0)] [] e M (im_rx (im_r0 (fun  e_ M7 => e = e_ ∧ ((p1 = 0 → im_T g (d - 1) 259 0 [some (.ref 0), none, none] [] e M7 (im_ri (fun x13 e_ M10 => e = e_ ∧ K (.inl (some (vI x13))) e M10))) ∧ (p1 = 1 → im_T g (d - 1) 260 0 [some (.ref 0), none, none] [] e M7 (im_ri (fun x18 e_ M15 => e = e_ ∧ K (.inl (some (vI x18))) e M15))) ∧ (p1 = 2 → K (.inl (some (vI (M7 0 1)))) e M7) ∧ (p1 = 3 → K (.inl (some (vI (M7 2068 1)))) e M7) ∧ (p1 = 4 → K (.inl (some (vI (M7 2068 2)))) e M7) ∧ (p1 = 5 → K (.inl (some (vI (M7 13 8)))) e M7) ∧ (p1 = 6 → K (.inl (some (vI (M7 30 4)))) e M7) ∧ (p1 < 0 ∨ 6 < p1 → ((∀ x32 : Int, ((((M7 2068 4) = 0) ∧ x32 = 0) ∨ ((¬ (M7 2068 4) = 0) ∧ x32 = 1)) → K (.inl (some (vI x32))) e M7)))))) (fun E_ e_ M_ => K (.inr E_) e_ M_))))) : im_T g d 258 0 [some (.ref 0), some (vI p1)] [] e M K := by
  refine im_ld (q := 1) (i := 1) D258_0 rfl rfl rfl ?_
  obtain ⟨hg1, hP⟩ := hP
  obtain ⟨hP, hJ4⟩ := hP
  have kJ5 : (((p1 < 0)) ∨ ((0 ≤ p1) ∧ (7 < p1))) → im_T g d 258 14 [some (.ref 0), some (vI p1)] [] e M K := by
    intro  hx6
    have hP := hJ4  hx6
    refine im_iconst (q := 15) D258_14 ?_
    refine im_callS (q := 18) (kd := 0) (y := 168) (n := 1) (z := 11) (vs := [vI 0]) (r := []) (L2 := [some (vI 0)]) D258_15 rfl (im_cal cn_258 cl_11_195) (Or.inl rfl) rfl rfl rfl rfl rfl hd ⟨rfl, trivial⟩ ?_
    refine hP.mono ?_
    rintro _ e37 M7 (⟨rfl, rfl, hP⟩ | ⟨E_, rfl, hX⟩)
    · refine im_bkN ?_
      refine im_ld (q := 19) (i := 1) D258_18 rfl rfl rfl ?_
      by_cases hc14 : p1 = 0
      · refine im_tsw (q := 20) (t := 60) D258_19 hg1 (fun _ => by rcases hc14 with hc14 <;> (rw [hc14]; rfl)) (by rcases hc14 with hc14 <;> (rw [hc14]; rfl)) ?_
        replace hP := hP.1 hc14
        refine im_ld (q := 61) (i := 0) D258_60 rfl rfl rfl ?_
        refine im_callV (q := 64) (kd := 1) (y := 259) (n := 0) (ci := 11) (a := 0) (vs := [.ref 0]) (r := []) (L2 := [some (.ref 0), none, none]) D258_61 (im_cal cn_258 cl_11_442) (Or.inl rfl) rfl sf_0 rfl rfl rfl rfl hd ⟨rfl, trivial⟩ ?_
        refine hP.mono ?_
        rintro _ e11 M10 ⟨x13, rfl, rfl, hP⟩
        refine im_bkS ?_
        exact im_iret (q := 65) D258_64 rfl hP
      by_cases hc19 : p1 = 1
      · refine im_tsw (q := 20) (t := 65) D258_19 hg1 (fun _ => by rcases hc19 with hc19 <;> (rw [hc19]; rfl)) (by rcases hc19 with hc19 <;> (rw [hc19]; rfl)) ?_
        replace hP := hP.2.1 hc19
        refine im_ld (q := 66) (i := 0) D258_65 rfl rfl rfl ?_
        refine im_callV (q := 69) (kd := 1) (y := 260) (n := 0) (ci := 11) (a := 0) (vs := [.ref 0]) (r := []) (L2 := [some (.ref 0), none, none]) D258_66 (im_cal cn_258 cl_11_445) (Or.inl rfl) rfl sf_0 rfl rfl rfl rfl hd ⟨rfl, trivial⟩ ?_
        refine hP.mono ?_
        rintro _ e16 M15 ⟨x18, rfl, rfl, hP⟩
        refine im_bkS ?_
        exact im_iret (q := 70) D258_69 rfl hP
      by_cases hc21 : p1 = 2
      · refine im_tsw (q := 20) (t := 70) D258_19 hg1 (fun _ => by rcases hc21 with hc21 <;> (rw [hc21]; rfl)) (by rcases hc21 with hc21 <;> (rw [hc21]; rfl)) ?_
        replace hP := hP.2.2.1 hc21
        refine im_ld (q := 71) (i := 0) D258_70 rfl rfl rfl ?_
        refine im_rng (j := 1) sf_0 (by decide) (by decide) (fun hr20 => ?_)
        refine im_gfI (q := 74) D258_71 (im_fl cn_258 fl_11_127) sf_0 rfl rfl tI_11_1 rfl ?_
        exact im_iret (q := 75) D258_74 rfl hP
      by_cases hc23 : p1 = 3
      · refine im_tsw (q := 20) (t := 75) D258_19 hg1 (fun _ => by rcases hc23 with hc23 <;> (rw [hc23]; rfl)) (by rcases hc23 with hc23 <;> (rw [hc23]; rfl)) ?_
        replace hP := hP.2.2.2.1 hc23
        refine im_ld (q := 76) (i := 0) D258_75 rfl rfl rfl ?_
        refine im_gfR (q := 79) (b := 2068) D258_76 (im_fl cn_258 fl_11_113) sf_0 rfl rfl tR_11_17 rfl ?_
        refine im_rng (j := 1) sf_2068 (by decide) (by decide) (fun hr22 => ?_)
        refine im_gfI (q := 82) D258_79 (im_fl cn_258 fl_11_448) sf_2068 rfl rfl tI_1_1 rfl ?_
        exact im_iret (q := 83) D258_82 rfl hP
      by_cases hc25 : p1 = 4
      · refine im_tsw (q := 20) (t := 83) D258_19 hg1 (fun _ => by rcases hc25 with hc25 <;> (rw [hc25]; rfl)) (by rcases hc25 with hc25 <;> (rw [hc25]; rfl)) ?_
        replace hP := hP.2.2.2.2.1 hc25
        refine im_ld (q := 84) (i := 0) D258_83 rfl rfl rfl ?_
        refine im_gfR (q := 87) (b := 2068) D258_84 (im_fl cn_258 fl_11_113) sf_0 rfl rfl tR_11_17 rfl ?_
        refine im_rng (j := 2) sf_2068 (by decide) (by decide) (fun hr24 => ?_)
        refine im_gfI (q := 90) D258_87 (im_fl cn_258 fl_11_439) sf_2068 rfl rfl tI_1_2 rfl ?_
        exact im_iret (q := 91) D258_90 rfl hP
      by_cases hc27 : p1 = 5
      · refine im_tsw (q := 20) (t := 91) D258_19 hg1 (fun _ => by rcases hc27 with hc27 <;> (rw [hc27]; rfl)) (by rcases hc27 with hc27 <;> (rw [hc27]; rfl)) ?_
        replace hP := hP.2.2.2.2.2.1 hc27
        refine im_ld (q := 92) (i := 0) D258_91 rfl rfl rfl ?_
        refine im_gfR (q := 95) (b := 13) D258_92 (im_fl cn_258 fl_11_36) sf_0 rfl rfl tR_11_4 rfl ?_
        refine im_rng (j := 8) sf_13 (by decide) (by decide) (fun hr26 => ?_)
        refine im_gfI (q := 98) D258_95 (im_fl cn_258 fl_11_224) sf_13 rfl rfl tI_5_8 rfl ?_
        exact im_iret (q := 99) D258_98 rfl hP
      by_cases hc29 : p1 = 6
      · refine im_tsw (q := 20) (t := 99) D258_19 hg1 (fun _ => by rcases hc29 with hc29 <;> (rw [hc29]; rfl)) (by rcases hc29 with hc29 <;> (rw [hc29]; rfl)) ?_
        replace hP := hP.2.2.2.2.2.2.1 hc29
        refine im_ld (q := 100) (i := 0) D258_99 rfl rfl rfl ?_
        refine im_gfR (q := 103) (b := 30) D258_100 (im_fl cn_258 fl_11_64) sf_0 rfl rfl tR_11_8 rfl ?_
        refine im_rng (j := 4) sf_30 (by decide) (by decide) (fun hr28 => ?_)
        refine im_gfI (q := 106) D258_103 (im_fl cn_258 fl_11_271) sf_30 rfl rfl tI_0_4 rfl ?_
        exact im_iret (q := 107) D258_106 rfl hP
      have hd36 : p1 < 0 ∨ 6 < p1 := by clear hP; omega
      refine im_tsw (q := 20) (t := 107) D258_19 hg1 (fun z9 => absurd hd36 z9) (by rw [if_pos hd36]; rfl) ?_
      replace hP := hP.2.2.2.2.2.2.2 hd36
      refine im_ld (q := 108) (i := 0) D258_107 rfl rfl rfl ?_
      refine im_gfR (q := 111) (b := 2068) D258_108 (im_fl cn_258 fl_11_113) sf_0 rfl rfl tR_11_17 rfl ?_
      refine im_rng (j := 4) sf_2068 (by decide) (by decide) (fun hr30 => ?_)
      refine im_gfI (q := 114) D258_111 (im_fl cn_258 fl_11_411) sf_2068 rfl rfl tI_1_4 rfl ?_
      have hJ33 := hP
      have kJ34 : ∀ x32 : Int, ((((M7 2068 4) = 0) ∧ x32 = 0) ∨ ((¬ (M7 2068 4) = 0) ∧ x32 = 1)) → im_T g d 258 122 [none, none] [vI x32] e M7 K := by
        intro x32 hx35
        have hP := hJ33 x32 hx35
        exact im_iret (q := 123) D258_122 rfl hP
      refine im_ifc (q := 117) (t := 121) D258_114 rfl (im_z32 hr30) (fun hc31 => ?_) (fun hc31 => ?_)
      · refine im_iconst (q := 122) D258_121 ?_
        exact (kJ34 (0) (Or.inl ⟨hc31, rfl⟩)).wk trivial
      · refine im_iconst (q := 118) D258_117 ?_
        refine im_goto (q := 121) (t := 122) D258_118 rfl ?_
        exact (kJ34 (1) (Or.inr ⟨hc31, rfl⟩)).wk trivial
    · exact im_bkE rfl hX
  refine im_ifc (q := 4) (t := 14) D258_1 rfl hg1 (fun hc2 => ?_) (fun hc2 => ?_)
  · exact (kJ5  (Or.inl hc2)).wk ⟨rfl, rfl, trivial⟩
  · replace hP := hP (Int.not_lt.mp hc2)
    refine im_ld (q := 5) (i := 1) D258_4 rfl rfl rfl ?_
    refine im_bipush (q := 7) D258_5 rfl ?_
    refine im_icmp (q := 10) (t := 14) D258_7 rfl hg1 (by decide) (fun hc3 => ?_) (fun hc3 => ?_)
    · exact (kJ5  (Or.inr ⟨(Int.not_lt.mp hc2), hc3⟩)).wk ⟨rfl, rfl, trivial⟩
    · replace hP := hP (Int.not_lt.mp hc3)
      refine im_iconst (q := 11) D258_10 ?_
      refine im_goto (q := 14) (t := 15) D258_11 rfl ?_
      refine im_callS (q := 18) (kd := 0) (y := 168) (n := 1) (z := 11) (vs := [vI 1]) (r := []) (L2 := [some (vI 1)]) D258_15 rfl (im_cal cn_258 cl_11_195) (Or.inl rfl) rfl rfl rfl rfl rfl hd ⟨rfl, trivial⟩ ?_
      refine hP.mono ?_
      rintro _ e68 M38 (⟨rfl, rfl, hP⟩ | ⟨E_, rfl, hX⟩)
      · refine im_bkN ?_
        refine im_ld (q := 19) (i := 1) D258_18 rfl rfl rfl ?_
        by_cases hc45 : p1 = 0
        · refine im_tsw (q := 20) (t := 60) D258_19 hg1 (fun _ => by rcases hc45 with hc45 <;> (rw [hc45]; rfl)) (by rcases hc45 with hc45 <;> (rw [hc45]; rfl)) ?_
          replace hP := hP.1 hc45
          refine im_ld (q := 61) (i := 0) D258_60 rfl rfl rfl ?_
          refine im_callV (q := 64) (kd := 1) (y := 259) (n := 0) (ci := 11) (a := 0) (vs := [.ref 0]) (r := []) (L2 := [some (.ref 0), none, none]) D258_61 (im_cal cn_258 cl_11_442) (Or.inl rfl) rfl sf_0 rfl rfl rfl rfl hd ⟨rfl, trivial⟩ ?_
          refine hP.mono ?_
          rintro _ e42 M41 ⟨x44, rfl, rfl, hP⟩
          refine im_bkS ?_
          exact im_iret (q := 65) D258_64 rfl hP
        by_cases hc50 : p1 = 1
        · refine im_tsw (q := 20) (t := 65) D258_19 hg1 (fun _ => by rcases hc50 with hc50 <;> (rw [hc50]; rfl)) (by rcases hc50 with hc50 <;> (rw [hc50]; rfl)) ?_
          replace hP := hP.2.1 hc50
          refine im_ld (q := 66) (i := 0) D258_65 rfl rfl rfl ?_
          refine im_callV (q := 69) (kd := 1) (y := 260) (n := 0) (ci := 11) (a := 0) (vs := [.ref 0]) (r := []) (L2 := [some (.ref 0), none, none]) D258_66 (im_cal cn_258 cl_11_445) (Or.inl rfl) rfl sf_0 rfl rfl rfl rfl hd ⟨rfl, trivial⟩ ?_
          refine hP.mono ?_
          rintro _ e47 M46 ⟨x49, rfl, rfl, hP⟩
          refine im_bkS ?_
          exact im_iret (q := 70) D258_69 rfl hP
        by_cases hc52 : p1 = 2
        · refine im_tsw (q := 20) (t := 70) D258_19 hg1 (fun _ => by rcases hc52 with hc52 <;> (rw [hc52]; rfl)) (by rcases hc52 with hc52 <;> (rw [hc52]; rfl)) ?_
          replace hP := hP.2.2.1 hc52
          refine im_ld (q := 71) (i := 0) D258_70 rfl rfl rfl ?_
          refine im_rng (j := 1) sf_0 (by decide) (by decide) (fun hr51 => ?_)
          refine im_gfI (q := 74) D258_71 (im_fl cn_258 fl_11_127) sf_0 rfl rfl tI_11_1 rfl ?_
          exact im_iret (q := 75) D258_74 rfl hP
        by_cases hc54 : p1 = 3
        · refine im_tsw (q := 20) (t := 75) D258_19 hg1 (fun _ => by rcases hc54 with hc54 <;> (rw [hc54]; rfl)) (by rcases hc54 with hc54 <;> (rw [hc54]; rfl)) ?_
          replace hP := hP.2.2.2.1 hc54
          refine im_ld (q := 76) (i := 0) D258_75 rfl rfl rfl ?_
          refine im_gfR (q := 79) (b := 2068) D258_76 (im_fl cn_258 fl_11_113) sf_0 rfl rfl tR_11_17 rfl ?_
          refine im_rng (j := 1) sf_2068 (by decide) (by decide) (fun hr53 => ?_)
          refine im_gfI (q := 82) D258_79 (im_fl cn_258 fl_11_448) sf_2068 rfl rfl tI_1_1 rfl ?_
          exact im_iret (q := 83) D258_82 rfl hP
        by_cases hc56 : p1 = 4
        · refine im_tsw (q := 20) (t := 83) D258_19 hg1 (fun _ => by rcases hc56 with hc56 <;> (rw [hc56]; rfl)) (by rcases hc56 with hc56 <;> (rw [hc56]; rfl)) ?_
          replace hP := hP.2.2.2.2.1 hc56
          refine im_ld (q := 84) (i := 0) D258_83 rfl rfl rfl ?_
          refine im_gfR (q := 87) (b := 2068) D258_84 (im_fl cn_258 fl_11_113) sf_0 rfl rfl tR_11_17 rfl ?_
          refine im_rng (j := 2) sf_2068 (by decide) (by decide) (fun hr55 => ?_)
          refine im_gfI (q := 90) D258_87 (im_fl cn_258 fl_11_439) sf_2068 rfl rfl tI_1_2 rfl ?_
          exact im_iret (q := 91) D258_90 rfl hP
        by_cases hc58 : p1 = 5
        · refine im_tsw (q := 20) (t := 91) D258_19 hg1 (fun _ => by rcases hc58 with hc58 <;> (rw [hc58]; rfl)) (by rcases hc58 with hc58 <;> (rw [hc58]; rfl)) ?_
          replace hP := hP.2.2.2.2.2.1 hc58
          refine im_ld (q := 92) (i := 0) D258_91 rfl rfl rfl ?_
          refine im_gfR (q := 95) (b := 13) D258_92 (im_fl cn_258 fl_11_36) sf_0 rfl rfl tR_11_4 rfl ?_
          refine im_rng (j := 8) sf_13 (by decide) (by decide) (fun hr57 => ?_)
          refine im_gfI (q := 98) D258_95 (im_fl cn_258 fl_11_224) sf_13 rfl rfl tI_5_8 rfl ?_
          exact im_iret (q := 99) D258_98 rfl hP
        by_cases hc60 : p1 = 6
        · refine im_tsw (q := 20) (t := 99) D258_19 hg1 (fun _ => by rcases hc60 with hc60 <;> (rw [hc60]; rfl)) (by rcases hc60 with hc60 <;> (rw [hc60]; rfl)) ?_
          replace hP := hP.2.2.2.2.2.2.1 hc60
          refine im_ld (q := 100) (i := 0) D258_99 rfl rfl rfl ?_
          refine im_gfR (q := 103) (b := 30) D258_100 (im_fl cn_258 fl_11_64) sf_0 rfl rfl tR_11_8 rfl ?_
          refine im_rng (j := 4) sf_30 (by decide) (by decide) (fun hr59 => ?_)
          refine im_gfI (q := 106) D258_103 (im_fl cn_258 fl_11_271) sf_30 rfl rfl tI_0_4 rfl ?_
          exact im_iret (q := 107) D258_106 rfl hP
        have hd67 : p1 < 0 ∨ 6 < p1 := by clear hP; omega
        refine im_tsw (q := 20) (t := 107) D258_19 hg1 (fun z9 => absurd hd67 z9) (by rw [if_pos hd67]; rfl) ?_
        replace hP := hP.2.2.2.2.2.2.2 hd67
        refine im_ld (q := 108) (i := 0) D258_107 rfl rfl rfl ?_
        refine im_gfR (q := 111) (b := 2068) D258_108 (im_fl cn_258 fl_11_113) sf_0 rfl rfl tR_11_17 rfl ?_
        refine im_rng (j := 4) sf_2068 (by decide) (by decide) (fun hr61 => ?_)
        refine im_gfI (q := 114) D258_111 (im_fl cn_258 fl_11_411) sf_2068 rfl rfl tI_1_4 rfl ?_
        have hJ64 := hP
        have kJ65 : ∀ x63 : Int, ((((M38 2068 4) = 0) ∧ x63 = 0) ∨ ((¬ (M38 2068 4) = 0) ∧ x63 = 1)) → im_T g d 258 122 [none, none] [vI x63] e M38 K := by
          intro x63 hx66
          have hP := hJ64 x63 hx66
          exact im_iret (q := 123) D258_122 rfl hP
        refine im_ifc (q := 117) (t := 121) D258_114 rfl (im_z32 hr61) (fun hc62 => ?_) (fun hc62 => ?_)
        · refine im_iconst (q := 122) D258_121 ?_
          exact (kJ65 (0) (Or.inl ⟨hc62, rfl⟩)).wk trivial
        · refine im_iconst (q := 118) D258_117 ?_
          refine im_goto (q := 121) (t := 122) D258_118 rfl ?_
          exact (kJ65 (1) (Or.inr ⟨hc62, rfl⟩)).wk trivial
      · exact im_bkE rfl hX
set_option maxRecDepth 20000 in
set_option maxHeartbeats 4000000 in
theorem k_P_contractsKept_0 {g : im_g} {d : Nat} {e : im_E} {M : im_M} {K : im_K} (hP : im_T g d 259 4 [some (.ref 0), some (vI 0), some (vI 0)] [] e M K) : im_T g d 259 0 [some (.ref 0), none, none] [] e M K := by
  refine im_iconst (q := 1) D259_0 ?_
  refine im_st1 (q := 2) (i := 1) (L' := [some (.ref 0), some (vI 0), none]) D259_1 (Or.inl ⟨_, rfl, rfl⟩) (Nat.le_of_ble_eq_true rfl) rfl ?_
  refine im_iconst (q := 3) D259_2 ?_
  refine im_st1 (q := 4) (i := 2) (L' := [some (.ref 0), some (vI 0), some (vI 0)]) D259_3 (Or.inl ⟨_, rfl, rfl⟩) (Nat.le_of_ble_eq_true rfl) rfl ?_
  exact hP.wk ⟨rfl, rfl, rfl, trivial⟩
set_option maxRecDepth 20000 in
set_option maxHeartbeats 4000000 in
theorem k_P_contractsKept_4 {g : im_g} {d : Nat} {e : im_E} {M : im_M} {K : im_K} {p1 p2 : Int} (hP : (im_i32 p2) ∧ ((((16 ≤ p2 → K (.inl (some (vI p1))) e M) ∧ (p2 < 16 → (0 ≤ p2 ∧ p2 < 16)))) ∧ (∀ x6 : Int, (((p2 < 16) ∧ ((M 28 p2) = (-1)) ∧ x6 = 0) ∨ ((p2 < 16) ∧ (¬ (M 28 p2) = (-1)) ∧ x6 = 1)) → im_T g d 259 4 [some (.ref 0), some (vI (p1 + x6)), some (vI (p2 + 1))] [] e M K))) : im_T g d 259 4 [some (.ref 0), some (vI p1), some (vI p2)] [] e M K := by
  refine im_ld (q := 5) (i := 2) D259_4 rfl rfl rfl ?_
  refine im_bipush (q := 7) D259_5 rfl ?_
  obtain ⟨hg1, hP⟩ := hP
  obtain ⟨hP, hJ7⟩ := hP
  have kJ8 : ∀ x6 : Int, (((p2 < 16) ∧ ((M 28 p2) = (-1)) ∧ x6 = 0) ∨ ((p2 < 16) ∧ (¬ (M 28 p2) = (-1)) ∧ x6 = 1)) → im_T g d 259 26 [some (.ref 0), none, some (vI p2)] [vI x6, vI p1] e M K := by
    intro x6 hx9
    have hP := hJ7 x6 hx9
    refine im_iadd (q := 27) D259_26 ?_
    refine im_st1 (q := 28) (i := 1) (L' := [some (.ref 0), some (vI (p1 + x6)), some (vI p2)]) D259_27 (Or.inl ⟨_, rfl, rfl⟩) (Nat.le_of_ble_eq_true rfl) rfl ?_
    refine im_iinc (q := 31) (i := 2) (L' := [some (.ref 0), some (vI (p1 + x6)), some (vI (p2 + 1))]) D259_28 rfl (Nat.le_of_ble_eq_true rfl) rfl ?_
    refine im_goto (q := 34) (t := 4) D259_31 rfl ?_
    exact hP.wk ⟨rfl, rfl, rfl, trivial⟩
  refine im_icmp (q := 10) (t := 34) D259_7 rfl hg1 (by decide) (fun hc2 => ?_) (fun hc2 => ?_)
  · replace hP := hP.1 hc2
    refine im_ld (q := 35) (i := 1) D259_34 rfl rfl rfl ?_
    exact im_iret (q := 36) D259_35 rfl hP
  · replace hP := hP.2 (Int.not_le.mp hc2)
    refine im_ld (q := 11) (i := 1) D259_10 rfl rfl rfl ?_
    refine im_ld (q := 12) (i := 0) D259_11 rfl rfl rfl ?_
    refine im_gfR (q := 15) (b := 28) D259_12 (im_fl cn_259 fl_11_49) sf_0 rfl rfl tR_11_6 rfl ?_
    refine im_ld (q := 16) (i := 2) D259_15 rfl rfl rfl ?_
    have hg3 := hP
    refine im_rng (j := p2) sf_28 hg3.1 hg3.2 (fun hr4 => ?_)
    refine im_iald (q := 17) D259_16 sf_28 hg3.1 hg3.2 (by decide) rfl ?_
    refine im_iconst (q := 18) D259_17 ?_
    refine im_icmp (q := 21) (t := 25) D259_18 rfl hr4 (by decide) (fun hc5 => ?_) (fun hc5 => ?_)
    · refine im_iconst (q := 26) D259_25 ?_
      exact (kJ8 (0) (Or.inl ⟨(Int.not_le.mp hc2), hc5, rfl⟩)).wk ⟨rfl, rfl, trivial⟩
    · refine im_iconst (q := 22) D259_21 ?_
      refine im_goto (q := 25) (t := 26) D259_22 rfl ?_
      exact (kJ8 (1) (Or.inr ⟨(Int.not_le.mp hc2), hc5, rfl⟩)).wk ⟨rfl, rfl, trivial⟩
set_option maxRecDepth 20000 in
set_option maxHeartbeats 4000000 in
theorem k_P_instancesBegun_0 {g : im_g} {d : Nat} {e : im_E} {M : im_M} {K : im_K} (hP : im_T g d 260 4 [some (.ref 0), some (vI 0), some (vI 0)] [] e M K) : im_T g d 260 0 [some (.ref 0), none, none] [] e M K := by
  refine im_iconst (q := 1) D260_0 ?_
  refine im_st1 (q := 2) (i := 1) (L' := [some (.ref 0), some (vI 0), none]) D260_1 (Or.inl ⟨_, rfl, rfl⟩) (Nat.le_of_ble_eq_true rfl) rfl ?_
  refine im_iconst (q := 3) D260_2 ?_
  refine im_st1 (q := 4) (i := 2) (L' := [some (.ref 0), some (vI 0), some (vI 0)]) D260_3 (Or.inl ⟨_, rfl, rfl⟩) (Nat.le_of_ble_eq_true rfl) rfl ?_
  exact hP.wk ⟨rfl, rfl, rfl, trivial⟩
set_option maxRecDepth 20000 in
set_option maxHeartbeats 4000000 in
theorem k_P_instancesBegun_4 {g : im_g} {d : Nat} {e : im_E} {M : im_M} {K : im_K} {p1 p2 : Int} (hP : (im_i32 p2) ∧ ((16 ≤ p2 → K (.inl (some (vI p1))) e M) ∧ (p2 < 16 → (0 ≤ p2 ∧ p2 < 16) ∧ ∃ b4 : Nat, ((M 29 p2) = (b4 : Int)) ∧ (im_state e b4) ∧ ((∀ x9 : Int, ((((M b4 6) = 0) ∧ x9 = 0) ∨ ((¬ (M b4 6) = 0) ∧ x9 = 1)) → im_T g d 260 4 [some (.ref 0), some (vI (p1 + x9)), some (vI (p2 + 1))] [] e M K))))) : im_T g d 260 4 [some (.ref 0), some (vI p1), some (vI p2)] [] e M K := by
  refine im_ld (q := 5) (i := 2) D260_4 rfl rfl rfl ?_
  refine im_bipush (q := 7) D260_5 rfl ?_
  obtain ⟨hg1, hP⟩ := hP
  refine im_icmp (q := 10) (t := 36) D260_7 rfl hg1 (by decide) (fun hc2 => ?_) (fun hc2 => ?_)
  · replace hP := hP.1 hc2
    refine im_ld (q := 37) (i := 1) D260_36 rfl rfl rfl ?_
    exact im_iret (q := 38) D260_37 rfl hP
  · replace hP := hP.2 (Int.not_le.mp hc2)
    refine im_ld (q := 11) (i := 1) D260_10 rfl rfl rfl ?_
    refine im_ld (q := 12) (i := 0) D260_11 rfl rfl rfl ?_
    refine im_gfR (q := 15) (b := 29) D260_12 (im_fl cn_260 fl_11_55) sf_0 rfl rfl tR_11_7 rfl ?_
    refine im_ld (q := 16) (i := 2) D260_15 rfl rfl rfl ?_
    obtain ⟨hg3, hP⟩ := hP
    obtain ⟨b4, hb5, hP⟩ := hP
    obtain ⟨hb6, hP⟩ := hP
    refine im_aald (q := 17) D260_16 sf_29 (Or.inr rfl) hg3.1 hg3.2 (by decide) hb5 ?_
    refine im_rng (j := 6) hb6.1 (by decide) (show (6 : Int) < ((7 : Nat) : Int) by decide) (fun hr7 => ?_)
    refine im_gfI (q := 20) D260_17 (im_fl cn_260 fl_11_290) hb6.1 rfl rfl tI_9_6 rfl ?_
    have hJ10 := hP
    have kJ11 : ∀ x9 : Int, ((((M b4 6) = 0) ∧ x9 = 0) ∨ ((¬ (M b4 6) = 0) ∧ x9 = 1)) → im_T g d 260 28 [some (.ref 0), none, some (vI p2)] [vI x9, vI p1] e M K := by
      intro x9 hx12
      have hP := hJ10 x9 hx12
      refine im_iadd (q := 29) D260_28 ?_
      refine im_st1 (q := 30) (i := 1) (L' := [some (.ref 0), some (vI (p1 + x9)), some (vI p2)]) D260_29 (Or.inl ⟨_, rfl, rfl⟩) (Nat.le_of_ble_eq_true rfl) rfl ?_
      refine im_iinc (q := 33) (i := 2) (L' := [some (.ref 0), some (vI (p1 + x9)), some (vI (p2 + 1))]) D260_30 rfl (Nat.le_of_ble_eq_true rfl) rfl ?_
      refine im_goto (q := 36) (t := 4) D260_33 rfl ?_
      exact hP.wk ⟨rfl, rfl, rfl, trivial⟩
    refine im_ifc (q := 23) (t := 27) D260_20 rfl (im_z32 hr7) (fun hc8 => ?_) (fun hc8 => ?_)
    · refine im_iconst (q := 28) D260_27 ?_
      exact (kJ11 (0) (Or.inl ⟨hc8, rfl⟩)).wk ⟨rfl, rfl, trivial⟩
    · refine im_iconst (q := 24) D260_23 ?_
      refine im_goto (q := 27) (t := 28) D260_24 rfl ?_
      exact (kJ11 (1) (Or.inr ⟨hc8, rfl⟩)).wk ⟨rfl, rfl, trivial⟩

/-! blocks of the class -/
theorem D232_0 {g : im_g} : im_D g 232 0 (.aload_n 0) 1 := im_D.of (by decide +kernel)
theorem D232_1 {g : im_g} : im_D g 232 1 (.invokevirtual 124) 4 := im_D.of (by decide +kernel)
theorem D232_4 {g : im_g} : im_D g 232 4 (.aload_n 0) 5 := im_D.of (by decide +kernel)
theorem D232_5 {g : im_g} : im_D g 232 5 (.getfield 16) 8 := im_D.of (by decide +kernel)
theorem D232_8 {g : im_g} : im_D g 232 8 (.lload_n 1) 9 := im_D.of (by decide +kernel)
theorem D232_9 {g : im_g} : im_D g 232 9 (.invokevirtual 299) 12 := im_D.of (by decide +kernel)
theorem D232_12 {g : im_g} : im_D g 232 12 (.ifCond .eq 16) 15 := im_D.of (by decide +kernel)
theorem D232_15 {g : im_g} : im_D g 232 15 (.iload_n 3) 16 := im_D.of (by decide +kernel)
theorem D232_16 {g : im_g} : im_D g 232 16 (.ifCond .lt 12) 19 := im_D.of (by decide +kernel)
theorem D232_19 {g : im_g} : im_D g 232 19 (.iload_n 3) 20 := im_D.of (by decide +kernel)
theorem D232_20 {g : im_g} : im_D g 232 20 (.iconst 3) 21 := im_D.of (by decide +kernel)
theorem D232_21 {g : im_g} : im_D g 232 21 (.if_icmp .gt 7) 24 := im_D.of (by decide +kernel)
theorem D232_24 {g : im_g} : im_D g 232 24 (.iconst 1) 25 := im_D.of (by decide +kernel)
theorem D232_25 {g : im_g} : im_D g 232 25 (.goto 4) 28 := im_D.of (by decide +kernel)
theorem D232_28 {g : im_g} : im_D g 232 28 (.iconst 0) 29 := im_D.of (by decide +kernel)
theorem D232_29 {g : im_g} : im_D g 232 29 (.invokestatic 195) 32 := im_D.of (by decide +kernel)
theorem D232_32 {g : im_g} : im_D g 232 32 (.iload_n 3) 33 := im_D.of (by decide +kernel)
theorem D232_33 {g : im_g} : im_D g 232 33 (.iconst 3) 34 := im_D.of (by decide +kernel)
theorem D232_34 {g : im_g} : im_D g 232 34 (.if_icmp .ne 17) 37 := im_D.of (by decide +kernel)
theorem D232_37 {g : im_g} : im_D g 232 37 (.aload_n 0) 38 := im_D.of (by decide +kernel)
theorem D232_38 {g : im_g} : im_D g 232 38 (.aload_n 0) 39 := im_D.of (by decide +kernel)
theorem D232_39 {g : im_g} : im_D g 232 39 (.getfield 71) 42 := im_D.of (by decide +kernel)
theorem D232_42 {g : im_g} : im_D g 232 42 (.lload_n 1) 43 := im_D.of (by decide +kernel)
theorem D232_43 {g : im_g} : im_D g 232 43 (.lconst 0) 44 := im_D.of (by decide +kernel)
theorem D232_44 {g : im_g} : im_D g 232 44 (.invokevirtual 372) 47 := im_D.of (by decide +kernel)
theorem D232_47 {g : im_g} : im_D g 232 47 (.invokevirtual 280) 50 := im_D.of (by decide +kernel)
theorem D232_50 {g : im_g} : im_D g 232 50 (.ireturn) 51 := im_D.of (by decide +kernel)
theorem D232_51 {g : im_g} : im_D g 232 51 (.aload_n 0) 52 := im_D.of (by decide +kernel)
theorem D232_52 {g : im_g} : im_D g 232 52 (.getfield 120) 55 := im_D.of (by decide +kernel)
theorem D232_55 {g : im_g} : im_D g 232 55 (.invokevirtual 376) 58 := im_D.of (by decide +kernel)
theorem D232_58 {g : im_g} : im_D g 232 58 (.iload_n 3) 59 := im_D.of (by decide +kernel)
theorem D232_59 {g : im_g} : im_D g 232 59 (.iconst 1) 60 := im_D.of (by decide +kernel)
theorem D232_60 {g : im_g} : im_D g 232 60 (.if_icmp .eq 15) 63 := im_D.of (by decide +kernel)
theorem D232_63 {g : im_g} : im_D g 232 63 (.aload_n 0) 64 := im_D.of (by decide +kernel)
theorem D232_64 {g : im_g} : im_D g 232 64 (.getfield 68) 67 := im_D.of (by decide +kernel)
theorem D232_67 {g : im_g} : im_D g 232 67 (.lload_n 1) 68 := im_D.of (by decide +kernel)
theorem D232_68 {g : im_g} : im_D g 232 68 (.aload_n 0) 69 := im_D.of (by decide +kernel)
theorem D232_69 {g : im_g} : im_D g 232 69 (.getfield 120) 72 := im_D.of (by decide +kernel)
theorem D232_72 {g : im_g} : im_D g 232 72 (.invokevirtual 377) 75 := im_D.of (by decide +kernel)
theorem D232_75 {g : im_g} : im_D g 232 75 (.iconst 0) 76 := im_D.of (by decide +kernel)
theorem D232_76 {g : im_g} : im_D g 232 76 (.istore 4) 78 := im_D.of (by decide +kernel)
theorem D232_78 {g : im_g} : im_D g 232 78 (.iload 4) 80 := im_D.of (by decide +kernel)
theorem D232_80 {g : im_g} : im_D g 232 80 (.bipush 16) 82 := im_D.of (by decide +kernel)
theorem D232_82 {g : im_g} : im_D g 232 82 (.if_icmp .ge 44) 85 := im_D.of (by decide +kernel)
theorem D232_85 {g : im_g} : im_D g 232 85 (.iload_n 3) 86 := im_D.of (by decide +kernel)
theorem D232_86 {g : im_g} : im_D g 232 86 (.ifCond .eq 40) 89 := im_D.of (by decide +kernel)
theorem D232_89 {g : im_g} : im_D g 232 89 (.aload_n 0) 90 := im_D.of (by decide +kernel)
theorem D232_90 {g : im_g} : im_D g 232 90 (.getfield 55) 93 := im_D.of (by decide +kernel)
theorem D232_93 {g : im_g} : im_D g 232 93 (.iload 4) 95 := im_D.of (by decide +kernel)
theorem D232_95 {g : im_g} : im_D g 232 95 (.aaload) 96 := im_D.of (by decide +kernel)
theorem D232_96 {g : im_g} : im_D g 232 96 (.getfield 290) 99 := im_D.of (by decide +kernel)
theorem D232_99 {g : im_g} : im_D g 232 99 (.ifCond .eq 21) 102 := im_D.of (by decide +kernel)
theorem D232_102 {g : im_g} : im_D g 232 102 (.aload_n 0) 103 := im_D.of (by decide +kernel)
theorem D232_103 {g : im_g} : im_D g 232 103 (.getfield 55) 106 := im_D.of (by decide +kernel)
theorem D232_106 {g : im_g} : im_D g 232 106 (.iload 4) 108 := im_D.of (by decide +kernel)
theorem D232_108 {g : im_g} : im_D g 232 108 (.aaload) 109 := im_D.of (by decide +kernel)
theorem D232_109 {g : im_g} : im_D g 232 109 (.getfield 296) 112 := im_D.of (by decide +kernel)
theorem D232_112 {g : im_g} : im_D g 232 112 (.lload_n 1) 113 := im_D.of (by decide +kernel)
theorem D232_113 {g : im_g} : im_D g 232 113 (.aload_n 0) 114 := im_D.of (by decide +kernel)
theorem D232_114 {g : im_g} : im_D g 232 114 (.getfield 120) 117 := im_D.of (by decide +kernel)
theorem D232_117 {g : im_g} : im_D g 232 117 (.invokevirtual 377) 120 := im_D.of (by decide +kernel)
theorem D232_120 {g : im_g} : im_D g 232 120 (.iinc 4 1) 123 := im_D.of (by decide +kernel)
theorem D232_123 {g : im_g} : im_D g 232 123 (.goto (-45)) 126 := im_D.of (by decide +kernel)
theorem D232_126 {g : im_g} : im_D g 232 126 (.aload_n 0) 127 := im_D.of (by decide +kernel)
theorem D232_127 {g : im_g} : im_D g 232 127 (.aload_n 0) 128 := im_D.of (by decide +kernel)
theorem D232_128 {g : im_g} : im_D g 232 128 (.getfield 120) 131 := im_D.of (by decide +kernel)
theorem D232_131 {g : im_g} : im_D g 232 131 (.invokevirtual 280) 134 := im_D.of (by decide +kernel)
theorem D232_134 {g : im_g} : im_D g 232 134 (.ireturn) 135 := im_D.of (by decide +kernel)
theorem D233_0 {g : im_g} : im_D g 233 0 (.iconst 0) 1 := im_D.of (by decide +kernel)
theorem D233_1 {g : im_g} : im_D g 233 1 (.istore 4) 3 := im_D.of (by decide +kernel)
theorem D233_3 {g : im_g} : im_D g 233 3 (.iload 4) 5 := im_D.of (by decide +kernel)
theorem D233_5 {g : im_g} : im_D g 233 5 (.aload_n 0) 6 := im_D.of (by decide +kernel)
theorem D233_6 {g : im_g} : im_D g 233 6 (.getfield 29) 9 := im_D.of (by decide +kernel)
theorem D233_9 {g : im_g} : im_D g 233 9 (.if_icmp .ge 33) 12 := im_D.of (by decide +kernel)
theorem D233_12 {g : im_g} : im_D g 233 12 (.aload_n 0) 13 := im_D.of (by decide +kernel)
theorem D233_13 {g : im_g} : im_D g 233 13 (.getfield 22) 16 := im_D.of (by decide +kernel)
theorem D233_16 {g : im_g} : im_D g 233 16 (.iload 4) 18 := im_D.of (by decide +kernel)
theorem D233_18 {g : im_g} : im_D g 233 18 (.laload) 19 := im_D.of (by decide +kernel)
theorem D233_19 {g : im_g} : im_D g 233 19 (.lload_n 1) 20 := im_D.of (by decide +kernel)
theorem D233_20 {g : im_g} : im_D g 233 20 (.lcmp) 21 := im_D.of (by decide +kernel)
theorem D233_21 {g : im_g} : im_D g 233 21 (.ifCond .ne 15) 24 := im_D.of (by decide +kernel)
theorem D233_24 {g : im_g} : im_D g 233 24 (.aload_n 3) 25 := im_D.of (by decide +kernel)
theorem D233_25 {g : im_g} : im_D g 233 25 (.aload_n 0) 26 := im_D.of (by decide +kernel)
theorem D233_26 {g : im_g} : im_D g 233 26 (.getfield 25) 29 := im_D.of (by decide +kernel)
theorem D233_29 {g : im_g} : im_D g 233 29 (.iload 4) 31 := im_D.of (by decide +kernel)
theorem D233_31 {g : im_g} : im_D g 233 31 (.aaload) 32 := im_D.of (by decide +kernel)
theorem D233_32 {g : im_g} : im_D g 233 32 (.invokevirtual 54) 35 := im_D.of (by decide +kernel)
theorem D233_35 {g : im_g} : im_D g 233 35 (.pop) 36 := im_D.of (by decide +kernel)
theorem D233_36 {g : im_g} : im_D g 233 36 (.iinc 4 1) 39 := im_D.of (by decide +kernel)
theorem D233_39 {g : im_g} : im_D g 233 39 (.goto (-36)) 42 := im_D.of (by decide +kernel)
theorem D233_42 {g : im_g} : im_D g 233 42 (.return_) 43 := im_D.of (by decide +kernel)
theorem D235_0 {g : im_g} : im_D g 235 0 (.aload_n 0) 1 := im_D.of (by decide +kernel)
theorem D235_1 {g : im_g} : im_D g 235 1 (.invokevirtual 124) 4 := im_D.of (by decide +kernel)
theorem D235_4 {g : im_g} : im_D g 235 4 (.aload_n 0) 5 := im_D.of (by decide +kernel)
theorem D235_5 {g : im_g} : im_D g 235 5 (.getfield 68) 8 := im_D.of (by decide +kernel)
theorem D235_8 {g : im_g} : im_D g 235 8 (.getfield 271) 11 := im_D.of (by decide +kernel)
theorem D235_11 {g : im_g} : im_D g 235 11 (.ireturn) 12 := im_D.of (by decide +kernel)
set_option maxRecDepth 20000 in
set_option maxHeartbeats 4000000 in
theorem k_P_total_0 {g : im_g} {d : Nat} {e : im_E} {M : im_M} {K : im_K} {p1 p3 : Int} (hd : 1 ≤ d) (hP : im_T g (d - 1) 152 0 [some (.ref 0)] [] e M (im_rx (im_r0 (fun  e_ M1 => e = e_ ∧ im_T g (d - 1) 95 0 [some (.ref 2), some (vL p1), none, none, none, none] [] e M1 (im_ri (fun x3 e_ M2 => e = e_ ∧ (im_i32 x3) ∧ ((((¬ x3 = 0 → (im_i32 p3) ∧ ((0 ≤ p3 → ((p3 ≤ 3 → im_T g (d - 1) 168 0 [some (vI 1)] [] e M2 (im_rx (im_r0 (fun  e_ M28 => e = e_ ∧ ((¬ p3 = 3 → im_T g (d - 1) 101 0 [some (.ref 2070)] [] e M28 (im_r0 (fun  e_ M30 => e = e_ ∧ ((p3 = 1 → im_T g d 232 78 [some (.ref 0), some (vL p1), none, some (vI p3), some (vI 0)] [] e M30 K) ∧ (¬ p3 = 1 → im_T g (d - 1) 233 0 [some (.ref 76), some (vL p1), none, some (.ref 2070), none] [] e M30 (im_r0 (fun  e_ M32 => e = e_ ∧ im_T g d 232 78 [some (.ref 0), some (vL p1), none, some (vI p3), some (vI 0)] [] e M32 K))))))) ∧ (p3 = 3 → im_T g (d - 1) 89 0 [some (.ref 202), some (vL p1), none, some (vL 0), none, none] [] e M28 (im_rr (fun a36 e_ M35 => e = e_ ∧ im_num e a36 ∧ im_T g (d - 1) 215 0 [some (.ref 0), some (.ref a36)] [] e M35 (im_ri (fun x39 e_ M38 => e = e_ ∧ K (.inl (some (vI x39))) e M38)))))))) (fun E_ e_ M_ => K (.inr E_) e_ M_))))))))) ∧ ((((x3 = 0)) ∨ ((¬ x3 = 0) ∧ (p3 < 0)) ∨ ((¬ x3 = 0) ∧ (0 ≤ p3) ∧ (3 < p3))) → im_T g (d - 1) 168 0 [some (vI 0)] [] e M2 (im_rx (im_r0 (fun  e_ M12 => e = e_ ∧ (im_i32 p3) ∧ ((¬ p3 = 3 → im_T g (d - 1) 101 0 [some (.ref 2070)] [] e M12 (im_r0 (fun  e_ M15 => e = e_ ∧ ((p3 = 1 → im_T g d 232 78 [some (.ref 0), some (vL p1), none, some (vI p3), some (vI 0)] [] e M15 K) ∧ (¬ p3 = 1 → im_T g (d - 1) 233 0 [some (.ref 76), some (vL p1), none, some (.ref 2070), none] [] e M15 (im_r0 (fun  e_ M17 => e = e_ ∧ im_T g d 232 78 [some (.ref 0), some (vL p1), none, some (vI p3), some (vI 0)] [] e M17 K))))))) ∧ (p3 = 3 → im_T g (d - 1) 89 0 [some (.ref 202), some (vL p1), none, some (vL 0), none, none] [] e M12 (im_rr (fun a21 e_ M20 => e = e_ ∧ im_num e a21 ∧ im_T g (d - 1) 215 0 [some (.ref 0), some (.ref a21)] [] e M20 (im_ri (fun x24 e_ M23 => e = e_ ∧ K (.inl (some (vI x24))) e M23)))))))) (fun E_ e_ M_ => K (.inr E_) e_ M_)))))))) (fun E_ e_ M_ => K (.inr E_) e_ M_))) : im_T g d 232 0 [some (.ref 0), some (vL p1), none, some (vI p3), none] [] e M K := by
  refine im_ld (q := 1) (i := 0) D232_0 rfl rfl rfl ?_
  refine im_callV (q := 4) (kd := 1) (y := 152) (n := 0) (ci := 11) (a := 0) (vs := [.ref 0]) (r := []) (L2 := [some (.ref 0)]) D232_1 (im_cal cn_232 cl_11_124) (Or.inl rfl) rfl sf_0 rfl rfl rfl rfl hd ⟨rfl, trivial⟩ ?_
  refine hP.mono ?_
  rintro _ e44 M1 (⟨rfl, rfl, hP⟩ | ⟨E_, rfl, hX⟩)
  · refine im_bkN ?_
    refine im_ld (q := 5) (i := 0) D232_4 rfl rfl rfl ?_
    refine im_gfR (q := 8) (b := 2) D232_5 (im_fl cn_232 fl_11_16) sf_0 rfl rfl tR_11_2 rfl ?_
    refine im_ld (q := 9) (i := 1) D232_8 rfl rfl rfl ?_
    refine im_callV (q := 12) (kd := 1) (y := 95) (n := 1) (ci := 6) (a := 2) (vs := [.ref 2, vL p1]) (r := []) (L2 := [some (.ref 2), some (vL p1), none, none, none, none]) D232_9 (im_cal cn_232 cl_11_299) (Or.inl rfl) rfl sf_2 rfl rfl rfl rfl hd ⟨rfl, rfl, trivial⟩ ?_
    refine hP.mono ?_
    rintro _ e43 M2 ⟨x3, rfl, rfl, hP⟩
    refine im_bkS ?_
    obtain ⟨hg4, hP⟩ := hP
    obtain ⟨hP, hJ9⟩ := hP
    have kJ10 : (((x3 = 0)) ∨ ((¬ x3 = 0) ∧ (p3 < 0)) ∨ ((¬ x3 = 0) ∧ (0 ≤ p3) ∧ (3 < p3))) → im_T g d 232 28 [some (.ref 0), some (vL p1), none, some (vI p3), none] [] e M2 K := by
      intro  hx11
      have hP := hJ9  hx11
      refine im_iconst (q := 29) D232_28 ?_
      refine im_callS (q := 32) (kd := 0) (y := 168) (n := 1) (z := 11) (vs := [vI 0]) (r := []) (L2 := [some (vI 0)]) D232_29 rfl (im_cal cn_232 cl_11_195) (Or.inl rfl) rfl rfl rfl rfl rfl hd ⟨rfl, trivial⟩ ?_
      refine hP.mono ?_
      rintro _ e27 M12 (⟨rfl, rfl, hP⟩ | ⟨E_, rfl, hX⟩)
      · refine im_bkN ?_
        refine im_ld (q := 33) (i := 3) D232_32 rfl rfl rfl ?_
        refine im_iconst (q := 34) D232_33 ?_
        obtain ⟨hg13, hP⟩ := hP
        refine im_icmp (q := 37) (t := 51) D232_34 rfl hg13 (by decide) (fun hc14 => ?_) (fun hc14 => ?_)
        · replace hP := hP.1 hc14
          refine im_ld (q := 52) (i := 0) D232_51 rfl rfl rfl ?_
          refine im_gfR (q := 55) (b := 2070) D232_52 (im_fl cn_232 fl_11_120) sf_0 rfl rfl tR_11_18 rfl ?_
          refine im_callV (q := 58) (kd := 1) (y := 101) (n := 0) (ci := 3) (a := 2070) (vs := [.ref 2070]) (r := []) (L2 := [some (.ref 2070)]) D232_55 (im_cal cn_232 cl_11_376) (Or.inl rfl) rfl sf_2070 rfl rfl rfl rfl hd ⟨rfl, trivial⟩ ?_
          refine hP.mono ?_
          rintro _ e19 M15 ⟨rfl, rfl, hP⟩
          refine im_bkN ?_
          refine im_ld (q := 59) (i := 3) D232_58 rfl rfl rfl ?_
          refine im_iconst (q := 60) D232_59 ?_
          refine im_icmp (q := 63) (t := 75) D232_60 rfl hg13 (by decide) (fun hc16 => ?_) (fun hc16 => ?_)
          · replace hP := hP.1 hc16
            refine im_iconst (q := 76) D232_75 ?_
            refine im_st1 (q := 78) (i := 4) (L' := [some (.ref 0), some (vL p1), none, some (vI p3), some (vI 0)]) D232_76 (Or.inr rfl) (Nat.le_of_ble_eq_true rfl) rfl ?_
            exact hP.wk ⟨rfl, rfl, rfl, rfl, trivial⟩
          · replace hP := hP.2 hc16
            refine im_ld (q := 64) (i := 0) D232_63 rfl rfl rfl ?_
            refine im_gfR (q := 67) (b := 76) D232_64 (im_fl cn_232 fl_11_68) sf_0 rfl rfl tR_11_9 rfl ?_
            refine im_ld (q := 68) (i := 1) D232_67 rfl rfl rfl ?_
            refine im_ld (q := 69) (i := 0) D232_68 rfl rfl rfl ?_
            refine im_gfR (q := 72) (b := 2070) D232_69 (im_fl cn_232 fl_11_120) sf_0 rfl rfl tR_11_18 rfl ?_
            refine im_callV (q := 75) (kd := 1) (y := 233) (n := 2) (ci := 0) (a := 76) (vs := [.ref 76, vL p1, .ref 2070]) (r := []) (L2 := [some (.ref 76), some (vL p1), none, some (.ref 2070), none]) D232_72 (im_cal cn_232 cl_11_377) (Or.inl rfl) rfl sf_76 rfl rfl rfl rfl hd ⟨rfl, rfl, rfl, trivial⟩ ?_
            refine hP.mono ?_
            rintro _ e18 M17 ⟨rfl, rfl, hP⟩
            refine im_bkN ?_
            refine im_iconst (q := 76) D232_75 ?_
            refine im_st1 (q := 78) (i := 4) (L' := [some (.ref 0), some (vL p1), none, some (vI p3), some (vI 0)]) D232_76 (Or.inr rfl) (Nat.le_of_ble_eq_true rfl) rfl ?_
            exact hP.wk ⟨rfl, rfl, rfl, rfl, trivial⟩
        · replace hP := hP.2 (Decidable.not_not.mp hc14)
          refine im_ld (q := 38) (i := 0) D232_37 rfl rfl rfl ?_
          refine im_ld (q := 39) (i := 0) D232_38 rfl rfl rfl ?_
          refine im_gfR (q := 42) (b := 202) D232_39 (im_fl cn_232 fl_11_71) sf_0 rfl rfl tR_11_10 rfl ?_
          refine im_ld (q := 43) (i := 1) D232_42 rfl rfl rfl ?_
          refine im_lconst (q := 44) (z := 0) D232_43 rfl ?_
          refine im_callV (q := 47) (kd := 1) (y := 89) (n := 2) (ci := 0) (a := 202) (vs := [.ref 202, vL p1, vL 0]) (r := [.ref 0]) (L2 := [some (.ref 202), some (vL p1), none, some (vL 0), none, none]) D232_44 (im_cal cn_232 cl_11_372) (Or.inl rfl) rfl sf_202 rfl rfl rfl rfl hd ⟨rfl, rfl, rfl, trivial⟩ ?_
          refine hP.mono ?_
          rintro _ e26 M20 ⟨a21, rfl, rfl, hP⟩
          refine im_bkS ?_
          obtain ⟨hb22, hP⟩ := hP
          refine im_callV (q := 50) (kd := 1) (y := 215) (n := 1) (ci := 11) (a := 0) (vs := [.ref 0, .ref a21]) (r := []) (L2 := [some (.ref 0), some (.ref a21)]) D232_47 (im_cal cn_232 cl_11_280) (Or.inl rfl) rfl sf_0 rfl rfl rfl rfl hd ⟨rfl, rfl, trivial⟩ ?_
          refine hP.mono ?_
          rintro _ e25 M23 ⟨x24, rfl, rfl, hP⟩
          refine im_bkS ?_
          exact im_iret (q := 51) D232_50 rfl hP
      · exact im_bkE rfl hX
    refine im_ifc (q := 15) (t := 28) D232_12 rfl hg4 (fun hc5 => ?_) (fun hc5 => ?_)
    · exact (kJ10  (Or.inl hc5)).wk ⟨rfl, rfl, rfl, trivial⟩
    · replace hP := hP hc5
      refine im_ld (q := 16) (i := 3) D232_15 rfl rfl rfl ?_
      obtain ⟨hg6, hP⟩ := hP
      refine im_ifc (q := 19) (t := 28) D232_16 rfl hg6 (fun hc7 => ?_) (fun hc7 => ?_)
      · exact (kJ10  (Or.inr (Or.inl ⟨hc5, hc7⟩))).wk ⟨rfl, rfl, rfl, trivial⟩
      · replace hP := hP (Int.not_lt.mp hc7)
        refine im_ld (q := 20) (i := 3) D232_19 rfl rfl rfl ?_
        refine im_iconst (q := 21) D232_20 ?_
        refine im_icmp (q := 24) (t := 28) D232_21 rfl hg6 (by decide) (fun hc8 => ?_) (fun hc8 => ?_)
        · exact (kJ10  (Or.inr (Or.inr ⟨hc5, (Int.not_lt.mp hc7), hc8⟩))).wk ⟨rfl, rfl, rfl, trivial⟩
        · replace hP := hP (Int.not_lt.mp hc8)
          refine im_iconst (q := 25) D232_24 ?_
          refine im_goto (q := 28) (t := 29) D232_25 rfl ?_
          refine im_callS (q := 32) (kd := 0) (y := 168) (n := 1) (z := 11) (vs := [vI 1]) (r := []) (L2 := [some (vI 1)]) D232_29 rfl (im_cal cn_232 cl_11_195) (Or.inl rfl) rfl rfl rfl rfl rfl hd ⟨rfl, trivial⟩ ?_
          refine hP.mono ?_
          rintro _ e42 M28 (⟨rfl, rfl, hP⟩ | ⟨E_, rfl, hX⟩)
          · refine im_bkN ?_
            refine im_ld (q := 33) (i := 3) D232_32 rfl rfl rfl ?_
            refine im_iconst (q := 34) D232_33 ?_
            refine im_icmp (q := 37) (t := 51) D232_34 rfl hg6 (by decide) (fun hc29 => ?_) (fun hc29 => ?_)
            · replace hP := hP.1 hc29
              refine im_ld (q := 52) (i := 0) D232_51 rfl rfl rfl ?_
              refine im_gfR (q := 55) (b := 2070) D232_52 (im_fl cn_232 fl_11_120) sf_0 rfl rfl tR_11_18 rfl ?_
              refine im_callV (q := 58) (kd := 1) (y := 101) (n := 0) (ci := 3) (a := 2070) (vs := [.ref 2070]) (r := []) (L2 := [some (.ref 2070)]) D232_55 (im_cal cn_232 cl_11_376) (Or.inl rfl) rfl sf_2070 rfl rfl rfl rfl hd ⟨rfl, trivial⟩ ?_
              refine hP.mono ?_
              rintro _ e34 M30 ⟨rfl, rfl, hP⟩
              refine im_bkN ?_
              refine im_ld (q := 59) (i := 3) D232_58 rfl rfl rfl ?_
              refine im_iconst (q := 60) D232_59 ?_
              refine im_icmp (q := 63) (t := 75) D232_60 rfl hg6 (by decide) (fun hc31 => ?_) (fun hc31 => ?_)
              · replace hP := hP.1 hc31
                refine im_iconst (q := 76) D232_75 ?_
                refine im_st1 (q := 78) (i := 4) (L' := [some (.ref 0), some (vL p1), none, some (vI p3), some (vI 0)]) D232_76 (Or.inr rfl) (Nat.le_of_ble_eq_true rfl) rfl ?_
                exact hP.wk ⟨rfl, rfl, rfl, rfl, trivial⟩
              · replace hP := hP.2 hc31
                refine im_ld (q := 64) (i := 0) D232_63 rfl rfl rfl ?_
                refine im_gfR (q := 67) (b := 76) D232_64 (im_fl cn_232 fl_11_68) sf_0 rfl rfl tR_11_9 rfl ?_
                refine im_ld (q := 68) (i := 1) D232_67 rfl rfl rfl ?_
                refine im_ld (q := 69) (i := 0) D232_68 rfl rfl rfl ?_
                refine im_gfR (q := 72) (b := 2070) D232_69 (im_fl cn_232 fl_11_120) sf_0 rfl rfl tR_11_18 rfl ?_
                refine im_callV (q := 75) (kd := 1) (y := 233) (n := 2) (ci := 0) (a := 76) (vs := [.ref 76, vL p1, .ref 2070]) (r := []) (L2 := [some (.ref 76), some (vL p1), none, some (.ref 2070), none]) D232_72 (im_cal cn_232 cl_11_377) (Or.inl rfl) rfl sf_76 rfl rfl rfl rfl hd ⟨rfl, rfl, rfl, trivial⟩ ?_
                refine hP.mono ?_
                rintro _ e33 M32 ⟨rfl, rfl, hP⟩
                refine im_bkN ?_
                refine im_iconst (q := 76) D232_75 ?_
                refine im_st1 (q := 78) (i := 4) (L' := [some (.ref 0), some (vL p1), none, some (vI p3), some (vI 0)]) D232_76 (Or.inr rfl) (Nat.le_of_ble_eq_true rfl) rfl ?_
                exact hP.wk ⟨rfl, rfl, rfl, rfl, trivial⟩
            · replace hP := hP.2 (Decidable.not_not.mp hc29)
              refine im_ld (q := 38) (i := 0) D232_37 rfl rfl rfl ?_
              refine im_ld (q := 39) (i := 0) D232_38 rfl rfl rfl ?_
              refine im_gfR (q := 42) (b := 202) D232_39 (im_fl cn_232 fl_11_71) sf_0 rfl rfl tR_11_10 rfl ?_
              refine im_ld (q := 43) (i := 1) D232_42 rfl rfl rfl ?_
              refine im_lconst (q := 44) (z := 0) D232_43 rfl ?_
              refine im_callV (q := 47) (kd := 1) (y := 89) (n := 2) (ci := 0) (a := 202) (vs := [.ref 202, vL p1, vL 0]) (r := [.ref 0]) (L2 := [some (.ref 202), some (vL p1), none, some (vL 0), none, none]) D232_44 (im_cal cn_232 cl_11_372) (Or.inl rfl) rfl sf_202 rfl rfl rfl rfl hd ⟨rfl, rfl, rfl, trivial⟩ ?_
              refine hP.mono ?_
              rintro _ e41 M35 ⟨a36, rfl, rfl, hP⟩
              refine im_bkS ?_
              obtain ⟨hb37, hP⟩ := hP
              refine im_callV (q := 50) (kd := 1) (y := 215) (n := 1) (ci := 11) (a := 0) (vs := [.ref 0, .ref a36]) (r := []) (L2 := [some (.ref 0), some (.ref a36)]) D232_47 (im_cal cn_232 cl_11_280) (Or.inl rfl) rfl sf_0 rfl rfl rfl rfl hd ⟨rfl, rfl, trivial⟩ ?_
              refine hP.mono ?_
              rintro _ e40 M38 ⟨x39, rfl, rfl, hP⟩
              refine im_bkS ?_
              exact im_iret (q := 51) D232_50 rfl hP
          · exact im_bkE rfl hX
  · exact im_bkE rfl hX
set_option maxRecDepth 20000 in
set_option maxHeartbeats 4000000 in
theorem k_P_total_78 {g : im_g} {d : Nat} {e : im_E} {M : im_M} {K : im_K} {p1 p3 p4 : Int} (hd : 1 ≤ d) (hP : (im_i32 p4) ∧ ((((p4 < 16 → (im_i32 p3) ∧ ((¬ p3 = 0 → (0 ≤ p4 ∧ p4 < 16) ∧ ∃ b12 : Nat, ((M 29 p4) = (b12 : Int)) ∧ (im_state e b12) ∧ (((M b12 6) = 0 → im_T g d 232 78 [some (.ref 0), some (vL p1), none, some (vI p3), some (vI (p4 + 1))] [] e M K) ∧ (¬ (M b12 6) = 0 → ∃ b17 : Nat, ((M 29 p4) = (b17 : Int)) ∧ (im_state e b17) ∧ im_T g (d - 1) 233 0 [some (.ref (b17 + 1)), some (vL p1), none, some (.ref 2070), none] [] e M (im_r0 (fun  e_ M20 => e = e_ ∧ im_T g d 232 78 [some (.ref 0), some (vL p1), none, some (vI p3), some (vI (p4 + 1))] [] e M20 K))))))))) ∧ ((((16 ≤ p4)) ∨ ((p4 < 16) ∧ (p3 = 0))) → im_T g (d - 1) 215 0 [some (.ref 0), some (.ref 2070)] [] e M (im_ri (fun x9 e_ M8 => e = e_ ∧ K (.inl (some (vI x9))) e M8))))) : im_T g d 232 78 [some (.ref 0), some (vL p1), none, some (vI p3), some (vI p4)] [] e M K := by
  refine im_ld (q := 80) (i := 4) D232_78 rfl rfl rfl ?_
  refine im_bipush (q := 82) D232_80 rfl ?_
  obtain ⟨hg1, hP⟩ := hP
  obtain ⟨hP, hJ5⟩ := hP
  have kJ6 : (((16 ≤ p4)) ∨ ((p4 < 16) ∧ (p3 = 0))) → im_T g d 232 126 [some (.ref 0), none, none, none, none] [] e M K := by
    intro  hx7
    have hP := hJ5  hx7
    refine im_ld (q := 127) (i := 0) D232_126 rfl rfl rfl ?_
    refine im_ld (q := 128) (i := 0) D232_127 rfl rfl rfl ?_
    refine im_gfR (q := 131) (b := 2070) D232_128 (im_fl cn_232 fl_11_120) sf_0 rfl rfl tR_11_18 rfl ?_
    refine im_callV (q := 134) (kd := 1) (y := 215) (n := 1) (ci := 11) (a := 0) (vs := [.ref 0, .ref 2070]) (r := []) (L2 := [some (.ref 0), some (.ref 2070)]) D232_131 (im_cal cn_232 cl_11_280) (Or.inl rfl) rfl sf_0 rfl rfl rfl rfl hd ⟨rfl, rfl, trivial⟩ ?_
    refine hP.mono ?_
    rintro _ e10 M8 ⟨x9, rfl, rfl, hP⟩
    refine im_bkS ?_
    exact im_iret (q := 135) D232_134 rfl hP
  refine im_icmp (q := 85) (t := 126) D232_82 rfl hg1 (by decide) (fun hc2 => ?_) (fun hc2 => ?_)
  · exact (kJ6  (Or.inl hc2)).wk ⟨rfl, trivial⟩
  · replace hP := hP (Int.not_le.mp hc2)
    refine im_ld (q := 86) (i := 3) D232_85 rfl rfl rfl ?_
    obtain ⟨hg3, hP⟩ := hP
    refine im_ifc (q := 89) (t := 126) D232_86 rfl hg3 (fun hc4 => ?_) (fun hc4 => ?_)
    · exact (kJ6  (Or.inr ⟨(Int.not_le.mp hc2), hc4⟩)).wk ⟨rfl, trivial⟩
    · replace hP := hP hc4
      refine im_ld (q := 90) (i := 0) D232_89 rfl rfl rfl ?_
      refine im_gfR (q := 93) (b := 29) D232_90 (im_fl cn_232 fl_11_55) sf_0 rfl rfl tR_11_7 rfl ?_
      refine im_ld (q := 95) (i := 4) D232_93 rfl rfl rfl ?_
      obtain ⟨hg11, hP⟩ := hP
      obtain ⟨b12, hb13, hP⟩ := hP
      obtain ⟨hb14, hP⟩ := hP
      refine im_aald (q := 96) D232_95 sf_29 (Or.inr rfl) hg11.1 hg11.2 (by decide) hb13 ?_
      refine im_rng (j := 6) hb14.1 (by decide) (show (6 : Int) < ((7 : Nat) : Int) by decide) (fun hr15 => ?_)
      refine im_gfI (q := 99) D232_96 (im_fl cn_232 fl_11_290) hb14.1 rfl rfl tI_9_6 rfl ?_
      refine im_ifc (q := 102) (t := 120) D232_99 rfl (im_z32 hr15) (fun hc16 => ?_) (fun hc16 => ?_)
      · replace hP := hP.1 hc16
        refine im_iinc (q := 123) (i := 4) (L' := [some (.ref 0), some (vL p1), none, some (vI p3), some (vI (p4 + 1))]) D232_120 rfl (Nat.le_of_ble_eq_true rfl) rfl ?_
        refine im_goto (q := 126) (t := 78) D232_123 rfl ?_
        exact hP.wk ⟨rfl, rfl, rfl, rfl, trivial⟩
      · replace hP := hP.2 hc16
        refine im_ld (q := 103) (i := 0) D232_102 rfl rfl rfl ?_
        refine im_gfR (q := 106) (b := 29) D232_103 (im_fl cn_232 fl_11_55) sf_0 rfl rfl tR_11_7 rfl ?_
        refine im_ld (q := 108) (i := 4) D232_106 rfl rfl rfl ?_
        obtain ⟨b17, hb18, hP⟩ := hP
        obtain ⟨hb19, hP⟩ := hP
        refine im_aald (q := 109) D232_108 sf_29 (Or.inr rfl) hg11.1 hg11.2 (by decide) hb18 ?_
        refine im_gfR (q := 112) (b := (b17 + 1)) D232_109 (im_fl cn_232 fl_11_296) hb19.1 rfl rfl tR_9_0 rfl ?_
        refine im_ld (q := 113) (i := 1) D232_112 rfl rfl rfl ?_
        refine im_ld (q := 114) (i := 0) D232_113 rfl rfl rfl ?_
        refine im_gfR (q := 117) (b := 2070) D232_114 (im_fl cn_232 fl_11_120) sf_0 rfl rfl tR_11_18 rfl ?_
        refine im_callV (q := 120) (kd := 1) (y := 233) (n := 2) (ci := 0) (a := (b17 + 1)) (vs := [.ref (b17 + 1), vL p1, .ref 2070]) (r := []) (L2 := [some (.ref (b17 + 1)), some (vL p1), none, some (.ref 2070), none]) D232_117 (im_cal cn_232 cl_11_377) (Or.inl rfl) rfl hb19.2.1.1 rfl rfl rfl rfl hd ⟨rfl, rfl, rfl, trivial⟩ ?_
        refine hP.mono ?_
        rintro _ e21 M20 ⟨rfl, rfl, hP⟩
        refine im_bkN ?_
        refine im_iinc (q := 123) (i := 4) (L' := [some (.ref 0), some (vL p1), none, some (vI p3), some (vI (p4 + 1))]) D232_120 rfl (Nat.le_of_ble_eq_true rfl) rfl ?_
        refine im_goto (q := 126) (t := 78) D232_123 rfl ?_
        exact hP.wk ⟨rfl, rfl, rfl, rfl, trivial⟩
set_option maxRecDepth 20000 in
set_option maxHeartbeats 4000000 in
theorem k_Book_addAll_0 {g : im_g} {d : Nat} {e : im_E} {M : im_M} {K : im_K} {p1 : Int} {a0 na0 : Nat} (ha0 : im_book e a0 na0) {p3 : Nat} (hp3 : im_num e p3) (hP : im_T g d 233 3 [some (.ref a0), some (vL p1), none, some (.ref p3), some (vI 0)] [] e M K) : im_T g d 233 0 [some (.ref a0), some (vL p1), none, some (.ref p3), none] [] e M K := by
  refine im_iconst (q := 1) D233_0 ?_
  refine im_st1 (q := 3) (i := 4) (L' := [some (.ref a0), some (vL p1), none, some (.ref p3), some (vI 0)]) D233_1 (Or.inr rfl) (Nat.le_of_ble_eq_true rfl) rfl ?_
  exact hP.wk ⟨rfl, rfl, rfl, rfl, trivial⟩
set_option maxRecDepth 20000 in
set_option maxHeartbeats 4000000 in
theorem k_Book_addAll_3 {g : im_g} {d : Nat} {e : im_E} {M : im_M} {K : im_K} {p1 p4 : Int} {a0 na0 : Nat} (ha0 : im_book e a0 na0) {p3 : Nat} (hp3 : im_num e p3) (hd : 1 ≤ d) (hP : (im_i32 p4) ∧ (((M a0 4) ≤ p4 → K (.inl none) e M) ∧ (p4 < (M a0 4) → (0 ≤ p4 ∧ p4 < na0) ∧ (im_i64 p1) ∧ ((¬ (M (a0 + 4) p4) = p1 → im_T g d 233 3 [some (.ref a0), some (vL p1), none, some (.ref p3), some (vI (p4 + 1))] [] e M K) ∧ ((M (a0 + 4) p4) = p1 → ∃ b8 : Nat, ((M (a0 + 5) p4) = (b8 : Int)) ∧ (im_num e b8) ∧ im_T g (d - 1) 97 0 [some (.ref p3), some (.ref b8), none, none, none, none] [] e M (im_ri (fun x12 e_ M11 => e = e_ ∧ im_T g d 233 3 [some (.ref a0), some (vL p1), none, some (.ref p3), some (vI (p4 + 1))] [] e M11 K))))))) : im_T g d 233 3 [some (.ref a0), some (vL p1), none, some (.ref p3), some (vI p4)] [] e M K := by
  refine im_ld (q := 5) (i := 4) D233_3 rfl rfl rfl ?_
  refine im_ld (q := 6) (i := 0) D233_5 rfl rfl rfl ?_
  refine im_rng (j := 4) ha0.1 (by decide) (show (4 : Int) < ((5 : Nat) : Int) by decide) (fun hr1 => ?_)
  refine im_gfI (q := 9) D233_6 (im_fl cn_233 fl_0_29) ha0.1 rfl rfl tI_0_4 rfl ?_
  obtain ⟨hg2, hP⟩ := hP
  refine im_icmp (q := 12) (t := 42) D233_9 rfl hg2 hr1 (fun hc3 => ?_) (fun hc3 => ?_)
  · replace hP := hP.1 hc3
    exact im_vret (q := 43) D233_42 rfl hP
  · replace hP := hP.2 (Int.not_le.mp hc3)
    refine im_ld (q := 13) (i := 0) D233_12 rfl rfl rfl ?_
    refine im_gfR (q := 16) (b := (a0 + 4)) D233_13 (im_fl cn_233 fl_0_22) ha0.1 rfl rfl tR_0_1 rfl ?_
    refine im_ld (q := 18) (i := 4) D233_16 rfl rfl rfl ?_
    obtain ⟨hg4, hP⟩ := hP
    refine im_rng (j := p4) ha0.2.2.1 hg4.1 hg4.2 (fun hr5 => ?_)
    refine im_lald (q := 19) D233_18 ha0.2.2.1 hg4.1 hg4.2 (Nat.le_trans ha0.2.2.2.2.2 (by decide)) rfl ?_
    refine im_ld (q := 20) (i := 1) D233_19 rfl rfl rfl ?_
    obtain ⟨hg6, hP⟩ := hP
    refine im_lif (q := 21) (q2 := 24) (t := 36) D233_20 D233_21 rfl hr5 hg6 (fun hc7 => ?_) (fun hc7 => ?_)
    · replace hP := hP.1 hc7
      refine im_iinc (q := 39) (i := 4) (L' := [some (.ref a0), some (vL p1), none, some (.ref p3), some (vI (p4 + 1))]) D233_36 rfl (Nat.le_of_ble_eq_true rfl) rfl ?_
      refine im_goto (q := 42) (t := 3) D233_39 rfl ?_
      exact hP.wk ⟨rfl, rfl, rfl, rfl, trivial⟩
    · replace hP := hP.2 (Decidable.not_not.mp hc7)
      refine im_ld (q := 25) (i := 3) D233_24 rfl rfl rfl ?_
      refine im_ld (q := 26) (i := 0) D233_25 rfl rfl rfl ?_
      refine im_gfR (q := 29) (b := (a0 + 5)) D233_26 (im_fl cn_233 fl_0_25) ha0.1 rfl rfl tR_0_2 rfl ?_
      refine im_ld (q := 31) (i := 4) D233_29 rfl rfl rfl ?_
      obtain ⟨b8, hb9, hP⟩ := hP
      obtain ⟨hb10, hP⟩ := hP
      refine im_aald (q := 32) D233_31 ha0.2.2.2.1 (Or.inl rfl) hg4.1 hg4.2 (Nat.le_trans ha0.2.2.2.2.2 (by decide)) hb9 ?_
      refine im_callV (q := 35) (kd := 1) (y := 97) (n := 1) (ci := 3) (a := p3) (vs := [.ref p3, .ref b8]) (r := []) (L2 := [some (.ref p3), some (.ref b8), none, none, none, none]) D233_32 (im_cal cn_233 cl_0_54) (Or.inl rfl) rfl hp3.1 rfl rfl rfl rfl hd ⟨rfl, rfl, trivial⟩ ?_
      refine hP.mono ?_
      rintro _ e13 M11 ⟨x12, rfl, rfl, hP⟩
      refine im_bkS ?_
      refine im_pop (q := 36) D233_35 rfl ?_
      refine im_iinc (q := 39) (i := 4) (L' := [some (.ref a0), some (vL p1), none, some (.ref p3), some (vI (p4 + 1))]) D233_36 rfl (Nat.le_of_ble_eq_true rfl) rfl ?_
      refine im_goto (q := 42) (t := 3) D233_39 rfl ?_
      exact hP.wk ⟨rfl, rfl, rfl, rfl, trivial⟩
set_option maxRecDepth 20000 in
set_option maxHeartbeats 4000000 in
theorem k_P_wallets_0 {g : im_g} {d : Nat} {e : im_E} {M : im_M} {K : im_K} (hd : 1 ≤ d) (hP : im_T g (d - 1) 152 0 [some (.ref 0)] [] e M (im_rx (im_r0 (fun  e_ M1 => e = e_ ∧ K (.inl (some (vI (M1 76 4)))) e M1)) (fun E_ e_ M_ => K (.inr E_) e_ M_))) : im_T g d 235 0 [some (.ref 0)] [] e M K := by
  refine im_ld (q := 1) (i := 0) D235_0 rfl rfl rfl ?_
  refine im_callV (q := 4) (kd := 1) (y := 152) (n := 0) (ci := 11) (a := 0) (vs := [.ref 0]) (r := []) (L2 := [some (.ref 0)]) D235_1 (im_cal cn_235 cl_11_124) (Or.inl rfl) rfl sf_0 rfl rfl rfl rfl hd ⟨rfl, trivial⟩ ?_
  refine hP.mono ?_
  rintro _ e3 M1 (⟨rfl, rfl, hP⟩ | ⟨E_, rfl, hX⟩)
  · refine im_bkN ?_
    refine im_ld (q := 5) (i := 0) D235_4 rfl rfl rfl ?_
    refine im_gfR (q := 8) (b := 76) D235_5 (im_fl cn_235 fl_11_68) sf_0 rfl rfl tR_11_9 rfl ?_
    refine im_rng (j := 4) sf_76 (by decide) (by decide) (fun hr2 => ?_)
    refine im_gfI (q := 11) D235_8 (im_fl cn_235 fl_11_271) sf_76 rfl rfl tI_0_4 rfl ?_
    exact im_iret (q := 12) D235_11 rfl hP
  · exact im_bkE rfl hX

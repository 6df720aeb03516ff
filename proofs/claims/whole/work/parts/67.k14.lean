/-! blocks of the class -/
theorem D246_0 {g : im_g} : im_D g 246 0 (.iconst 0) 1 := im_D.of (by decide +kernel)
theorem D246_1 {g : im_g} : im_D g 246 1 (.istore_n 2) 2 := im_D.of (by decide +kernel)
theorem D246_2 {g : im_g} : im_D g 246 2 (.iload_n 2) 3 := im_D.of (by decide +kernel)
theorem D246_3 {g : im_g} : im_D g 246 3 (.aload_n 0) 4 := im_D.of (by decide +kernel)
theorem D246_4 {g : im_g} : im_D g 246 4 (.getfield 22) 7 := im_D.of (by decide +kernel)
theorem D246_7 {g : im_g} : im_D g 246 7 (.getfield 91) 10 := im_D.of (by decide +kernel)
theorem D246_10 {g : im_g} : im_D g 246 10 (.if_icmp .ge 143) 13 := im_D.of (by decide +kernel)
theorem D246_13 {g : im_g} : im_D g 246 13 (.aload_n 0) 14 := im_D.of (by decide +kernel)
theorem D246_14 {g : im_g} : im_D g 246 14 (.getfield 22) 17 := im_D.of (by decide +kernel)
theorem D246_17 {g : im_g} : im_D g 246 17 (.getfield 81) 20 := im_D.of (by decide +kernel)
theorem D246_20 {g : im_g} : im_D g 246 20 (.iload_n 2) 21 := im_D.of (by decide +kernel)
theorem D246_21 {g : im_g} : im_D g 246 21 (.iaload) 22 := im_D.of (by decide +kernel)
theorem D246_22 {g : im_g} : im_D g 246 22 (.istore_n 3) 23 := im_D.of (by decide +kernel)
theorem D246_23 {g : im_g} : im_D g 246 23 (.iload_n 3) 24 := im_D.of (by decide +kernel)
theorem D246_24 {g : im_g} : im_D g 246 24 (.iconst (-1)) 25 := im_D.of (by decide +kernel)
theorem D246_25 {g : im_g} : im_D g 246 25 (.if_icmp .ne 13) 28 := im_D.of (by decide +kernel)
theorem D246_28 {g : im_g} : im_D g 246 28 (.aload_n 1) 29 := im_D.of (by decide +kernel)
theorem D246_29 {g : im_g} : im_D g 246 29 (.ldc2_w 175) 32 := im_D.of (by decide +kernel)
theorem D246_32 {g : im_g} : im_D g 246 32 (.invokevirtual 177) 35 := im_D.of (by decide +kernel)
theorem D246_35 {g : im_g} : im_D g 246 35 (.goto 8) 38 := im_D.of (by decide +kernel)
theorem D246_38 {g : im_g} : im_D g 246 38 (.aload_n 1) 39 := im_D.of (by decide +kernel)
theorem D246_39 {g : im_g} : im_D g 246 39 (.iload_n 3) 40 := im_D.of (by decide +kernel)
theorem D246_40 {g : im_g} : im_D g 246 40 (.invokevirtual 183) 43 := im_D.of (by decide +kernel)
theorem D246_43 {g : im_g} : im_D g 246 43 (.iload_n 3) 44 := im_D.of (by decide +kernel)
theorem D246_44 {g : im_g} : im_D g 246 44 (.bipush 28) 46 := im_D.of (by decide +kernel)
theorem D246_46 {g : im_g} : im_D g 246 46 (.if_icmp .eq 9) 49 := im_D.of (by decide +kernel)
theorem D246_49 {g : im_g} : im_D g 246 49 (.iload_n 3) 50 := im_D.of (by decide +kernel)
theorem D246_50 {g : im_g} : im_D g 246 50 (.bipush 29) 52 := im_D.of (by decide +kernel)
theorem D246_52 {g : im_g} : im_D g 246 52 (.if_icmp .ne 29) 55 := im_D.of (by decide +kernel)
theorem D246_55 {g : im_g} : im_D g 246 55 (.aload_n 1) 56 := im_D.of (by decide +kernel)
theorem D246_56 {g : im_g} : im_D g 246 56 (.aload_n 0) 57 := im_D.of (by decide +kernel)
theorem D246_57 {g : im_g} : im_D g 246 57 (.getfield 22) 60 := im_D.of (by decide +kernel)
theorem D246_60 {g : im_g} : im_D g 246 60 (.getfield 186) 63 := im_D.of (by decide +kernel)
theorem D246_63 {g : im_g} : im_D g 246 63 (.iload_n 2) 64 := im_D.of (by decide +kernel)
theorem D246_64 {g : im_g} : im_D g 246 64 (.laload) 65 := im_D.of (by decide +kernel)
theorem D246_65 {g : im_g} : im_D g 246 65 (.invokevirtual 177) 68 := im_D.of (by decide +kernel)
theorem D246_68 {g : im_g} : im_D g 246 68 (.aload_n 1) 69 := im_D.of (by decide +kernel)
theorem D246_69 {g : im_g} : im_D g 246 69 (.aload_n 0) 70 := im_D.of (by decide +kernel)
theorem D246_70 {g : im_g} : im_D g 246 70 (.getfield 22) 73 := im_D.of (by decide +kernel)
theorem D246_73 {g : im_g} : im_D g 246 73 (.getfield 187) 76 := im_D.of (by decide +kernel)
theorem D246_76 {g : im_g} : im_D g 246 76 (.iload_n 2) 77 := im_D.of (by decide +kernel)
theorem D246_77 {g : im_g} : im_D g 246 77 (.laload) 78 := im_D.of (by decide +kernel)
theorem D246_78 {g : im_g} : im_D g 246 78 (.invokevirtual 177) 81 := im_D.of (by decide +kernel)
theorem D246_81 {g : im_g} : im_D g 246 81 (.iload_n 3) 82 := im_D.of (by decide +kernel)
theorem D246_82 {g : im_g} : im_D g 246 82 (.bipush 28) 84 := im_D.of (by decide +kernel)
theorem D246_84 {g : im_g} : im_D g 246 84 (.if_icmp .ne 16) 87 := im_D.of (by decide +kernel)
theorem D246_87 {g : im_g} : im_D g 246 87 (.aload_n 1) 88 := im_D.of (by decide +kernel)
theorem D246_88 {g : im_g} : im_D g 246 88 (.aload_n 0) 89 := im_D.of (by decide +kernel)
theorem D246_89 {g : im_g} : im_D g 246 89 (.getfield 22) 92 := im_D.of (by decide +kernel)
theorem D246_92 {g : im_g} : im_D g 246 92 (.getfield 188) 95 := im_D.of (by decide +kernel)
theorem D246_95 {g : im_g} : im_D g 246 95 (.iload_n 2) 96 := im_D.of (by decide +kernel)
theorem D246_96 {g : im_g} : im_D g 246 96 (.laload) 97 := im_D.of (by decide +kernel)
theorem D246_97 {g : im_g} : im_D g 246 97 (.invokevirtual 177) 100 := im_D.of (by decide +kernel)
theorem D246_100 {g : im_g} : im_D g 246 100 (.iload_n 3) 101 := im_D.of (by decide +kernel)
theorem D246_101 {g : im_g} : im_D g 246 101 (.bipush 28) 103 := im_D.of (by decide +kernel)
theorem D246_103 {g : im_g} : im_D g 246 103 (.if_icmp .eq 9) 106 := im_D.of (by decide +kernel)
theorem D246_106 {g : im_g} : im_D g 246 106 (.iload_n 3) 107 := im_D.of (by decide +kernel)
theorem D246_107 {g : im_g} : im_D g 246 107 (.bipush 29) 109 := im_D.of (by decide +kernel)
theorem D246_109 {g : im_g} : im_D g 246 109 (.if_icmp .ne 16) 112 := im_D.of (by decide +kernel)
theorem D246_112 {g : im_g} : im_D g 246 112 (.aload_n 1) 113 := im_D.of (by decide +kernel)
theorem D246_113 {g : im_g} : im_D g 246 113 (.aload_n 0) 114 := im_D.of (by decide +kernel)
theorem D246_114 {g : im_g} : im_D g 246 114 (.getfield 22) 117 := im_D.of (by decide +kernel)
theorem D246_117 {g : im_g} : im_D g 246 117 (.getfield 148) 120 := im_D.of (by decide +kernel)
theorem D246_120 {g : im_g} : im_D g 246 120 (.iload_n 2) 121 := im_D.of (by decide +kernel)
theorem D246_121 {g : im_g} : im_D g 246 121 (.aaload) 122 := im_D.of (by decide +kernel)
theorem D246_122 {g : im_g} : im_D g 246 122 (.invokevirtual 189) 125 := im_D.of (by decide +kernel)
theorem D246_125 {g : im_g} : im_D g 246 125 (.iload_n 3) 126 := im_D.of (by decide +kernel)
theorem D246_126 {g : im_g} : im_D g 246 126 (.iconst (-1)) 127 := im_D.of (by decide +kernel)
theorem D246_127 {g : im_g} : im_D g 246 127 (.if_icmp .eq 10) 130 := im_D.of (by decide +kernel)
theorem D246_130 {g : im_g} : im_D g 246 130 (.aload_n 1) 131 := im_D.of (by decide +kernel)
theorem D246_131 {g : im_g} : im_D g 246 131 (.ldc2_w 192) 134 := im_D.of (by decide +kernel)
theorem D246_134 {g : im_g} : im_D g 246 134 (.invokevirtual 177) 137 := im_D.of (by decide +kernel)
theorem D246_137 {g : im_g} : im_D g 246 137 (.aload_n 1) 138 := im_D.of (by decide +kernel)
theorem D246_138 {g : im_g} : im_D g 246 138 (.aload_n 0) 139 := im_D.of (by decide +kernel)
theorem D246_139 {g : im_g} : im_D g 246 139 (.getfield 26) 142 := im_D.of (by decide +kernel)
theorem D246_142 {g : im_g} : im_D g 246 142 (.iload_n 2) 143 := im_D.of (by decide +kernel)
theorem D246_143 {g : im_g} : im_D g 246 143 (.laload) 144 := im_D.of (by decide +kernel)
theorem D246_144 {g : im_g} : im_D g 246 144 (.invokevirtual 194) 147 := im_D.of (by decide +kernel)
theorem D246_147 {g : im_g} : im_D g 246 147 (.iinc 2 1) 150 := im_D.of (by decide +kernel)
theorem D246_150 {g : im_g} : im_D g 246 150 (.goto (-148)) 153 := im_D.of (by decide +kernel)
theorem D246_153 {g : im_g} : im_D g 246 153 (.return_) 154 := im_D.of (by decide +kernel)
theorem D248_0 {g : im_g} : im_D g 248 0 (.aload_n 0) 1 := im_D.of (by decide +kernel)
theorem D248_1 {g : im_g} : im_D g 248 1 (.invokevirtual 124) 4 := im_D.of (by decide +kernel)
theorem D248_4 {g : im_g} : im_D g 248 4 (.aload_n 0) 5 := im_D.of (by decide +kernel)
theorem D248_5 {g : im_g} : im_D g 248 5 (.getfield 106) 8 := im_D.of (by decide +kernel)
theorem D248_8 {g : im_g} : im_D g 248 8 (.getfield 402) 11 := im_D.of (by decide +kernel)
theorem D248_11 {g : im_g} : im_D g 248 11 (.ireturn) 12 := im_D.of (by decide +kernel)
theorem D250_0 {g : im_g} : im_D g 250 0 (.aload_n 0) 1 := im_D.of (by decide +kernel)
theorem D250_1 {g : im_g} : im_D g 250 1 (.invokevirtual 124) 4 := im_D.of (by decide +kernel)
theorem D250_4 {g : im_g} : im_D g 250 4 (.iload_n 1) 5 := im_D.of (by decide +kernel)
theorem D250_5 {g : im_g} : im_D g 250 5 (.iconst (-1)) 6 := im_D.of (by decide +kernel)
theorem D250_6 {g : im_g} : im_D g 250 6 (.if_icmp .lt 7) 9 := im_D.of (by decide +kernel)
theorem D250_9 {g : im_g} : im_D g 250 9 (.iconst 1) 10 := im_D.of (by decide +kernel)
theorem D250_10 {g : im_g} : im_D g 250 10 (.goto 4) 13 := im_D.of (by decide +kernel)
theorem D250_13 {g : im_g} : im_D g 250 13 (.iconst 0) 14 := im_D.of (by decide +kernel)
theorem D250_14 {g : im_g} : im_D g 250 14 (.invokestatic 195) 17 := im_D.of (by decide +kernel)
theorem D250_17 {g : im_g} : im_D g 250 17 (.aload_n 0) 18 := im_D.of (by decide +kernel)
theorem D250_18 {g : im_g} : im_D g 250 18 (.getfield 113) 21 := im_D.of (by decide +kernel)
theorem D250_21 {g : im_g} : im_D g 250 21 (.iload_n 1) 22 := im_D.of (by decide +kernel)
theorem D250_22 {g : im_g} : im_D g 250 22 (.putfield 405) 25 := im_D.of (by decide +kernel)
theorem D250_25 {g : im_g} : im_D g 250 25 (.return_) 26 := im_D.of (by decide +kernel)
theorem D252_0 {g : im_g} : im_D g 252 0 (.iload_n 1) 1 := im_D.of (by decide +kernel)
theorem D252_1 {g : im_g} : im_D g 252 1 (.sipush 16384) 4 := im_D.of (by decide +kernel)
theorem D252_4 {g : im_g} : im_D g 252 4 (.invokestatic 183) 7 := im_D.of (by decide +kernel)
theorem D252_7 {g : im_g} : im_D g 252 7 (.aload_n 0) 8 := im_D.of (by decide +kernel)
theorem D252_8 {g : im_g} : im_D g 252 8 (.getfield 113) 11 := im_D.of (by decide +kernel)
theorem D252_11 {g : im_g} : im_D g 252 11 (.getfield 408) 14 := im_D.of (by decide +kernel)
theorem D252_14 {g : im_g} : im_D g 252 14 (.iload_n 1) 15 := im_D.of (by decide +kernel)
theorem D252_15 {g : im_g} : im_D g 252 15 (.baload) 16 := im_D.of (by decide +kernel)
theorem D252_16 {g : im_g} : im_D g 252 16 (.sipush 255) 19 := im_D.of (by decide +kernel)
theorem D252_19 {g : im_g} : im_D g 252 19 (.iand) 20 := im_D.of (by decide +kernel)
theorem D252_20 {g : im_g} : im_D g 252 20 (.ireturn) 21 := im_D.of (by decide +kernel)
theorem D254_0 {g : im_g} : im_D g 254 0 (.iload_n 1) 1 := im_D.of (by decide +kernel)
theorem D254_1 {g : im_g} : im_D g 254 1 (.sipush 16384) 4 := im_D.of (by decide +kernel)
theorem D254_4 {g : im_g} : im_D g 254 4 (.invokestatic 183) 7 := im_D.of (by decide +kernel)
theorem D254_7 {g : im_g} : im_D g 254 7 (.iload_n 2) 8 := im_D.of (by decide +kernel)
theorem D254_8 {g : im_g} : im_D g 254 8 (.ifCond .lt 14) 11 := im_D.of (by decide +kernel)
theorem D254_11 {g : im_g} : im_D g 254 11 (.iload_n 2) 12 := im_D.of (by decide +kernel)
theorem D254_12 {g : im_g} : im_D g 254 12 (.sipush 255) 15 := im_D.of (by decide +kernel)
theorem D254_15 {g : im_g} : im_D g 254 15 (.if_icmp .gt 7) 18 := im_D.of (by decide +kernel)
theorem D254_18 {g : im_g} : im_D g 254 18 (.iconst 1) 19 := im_D.of (by decide +kernel)
theorem D254_19 {g : im_g} : im_D g 254 19 (.goto 4) 22 := im_D.of (by decide +kernel)
theorem D254_22 {g : im_g} : im_D g 254 22 (.iconst 0) 23 := im_D.of (by decide +kernel)
theorem D254_23 {g : im_g} : im_D g 254 23 (.invokestatic 195) 26 := im_D.of (by decide +kernel)
theorem D254_26 {g : im_g} : im_D g 254 26 (.aload_n 0) 27 := im_D.of (by decide +kernel)
theorem D254_27 {g : im_g} : im_D g 254 27 (.getfield 113) 30 := im_D.of (by decide +kernel)
theorem D254_30 {g : im_g} : im_D g 254 30 (.getfield 411) 33 := im_D.of (by decide +kernel)
theorem D254_33 {g : im_g} : im_D g 254 33 (.invokestatic 187) 36 := im_D.of (by decide +kernel)
theorem D254_36 {g : im_g} : im_D g 254 36 (.aload_n 0) 37 := im_D.of (by decide +kernel)
theorem D254_37 {g : im_g} : im_D g 254 37 (.getfield 113) 40 := im_D.of (by decide +kernel)
theorem D254_40 {g : im_g} : im_D g 254 40 (.getfield 408) 43 := im_D.of (by decide +kernel)
theorem D254_43 {g : im_g} : im_D g 254 43 (.iload_n 1) 44 := im_D.of (by decide +kernel)
theorem D254_44 {g : im_g} : im_D g 254 44 (.baload) 45 := im_D.of (by decide +kernel)
theorem D254_45 {g : im_g} : im_D g 254 45 (.sipush 255) 48 := im_D.of (by decide +kernel)
theorem D254_48 {g : im_g} : im_D g 254 48 (.iand) 49 := im_D.of (by decide +kernel)
theorem D254_49 {g : im_g} : im_D g 254 49 (.istore_n 3) 50 := im_D.of (by decide +kernel)
theorem D254_50 {g : im_g} : im_D g 254 50 (.aload_n 0) 51 := im_D.of (by decide +kernel)
theorem D254_51 {g : im_g} : im_D g 254 51 (.getfield 113) 54 := im_D.of (by decide +kernel)
theorem D254_54 {g : im_g} : im_D g 254 54 (.getfield 408) 57 := im_D.of (by decide +kernel)
theorem D254_57 {g : im_g} : im_D g 254 57 (.iload_n 1) 58 := im_D.of (by decide +kernel)
theorem D254_58 {g : im_g} : im_D g 254 58 (.iload_n 2) 59 := im_D.of (by decide +kernel)
theorem D254_59 {g : im_g} : im_D g 254 59 (.i2b) 60 := im_D.of (by decide +kernel)
theorem D254_60 {g : im_g} : im_D g 254 60 (.bastore) 61 := im_D.of (by decide +kernel)
theorem D254_61 {g : im_g} : im_D g 254 61 (.iload_n 3) 62 := im_D.of (by decide +kernel)
theorem D254_62 {g : im_g} : im_D g 254 62 (.ireturn) 63 := im_D.of (by decide +kernel)
theorem D256_0 {g : im_g} : im_D g 256 0 (.aload_n 0) 1 := im_D.of (by decide +kernel)
theorem D256_1 {g : im_g} : im_D g 256 1 (.invokevirtual 124) 4 := im_D.of (by decide +kernel)
theorem D256_4 {g : im_g} : im_D g 256 4 (.aload_n 0) 5 := im_D.of (by decide +kernel)
theorem D256_5 {g : im_g} : im_D g 256 5 (.getfield 113) 8 := im_D.of (by decide +kernel)
theorem D256_8 {g : im_g} : im_D g 256 8 (.iconst 1) 9 := im_D.of (by decide +kernel)
theorem D256_9 {g : im_g} : im_D g 256 9 (.putfield 411) 12 := im_D.of (by decide +kernel)
theorem D256_12 {g : im_g} : im_D g 256 12 (.return_) 13 := im_D.of (by decide +kernel)
set_option maxRecDepth 20000 in
set_option maxHeartbeats 4000000 in
theorem k_Search_tellPath_0 {g : im_g} {d : Nat} {e : im_E} {M : im_M} {K : im_K} (hP : im_T g d 246 2 [some (.ref 1793), some (.ref 7), some (vI 0), none] [] e M K) : im_T g d 246 0 [some (.ref 1793), some (.ref 7), none, none] [] e M K := by
  refine im_iconst (q := 1) D246_0 ?_
  refine im_st1 (q := 2) (i := 2) (L' := [some (.ref 1793), some (.ref 7), some (vI 0), none]) D246_1 (Or.inl ⟨_, rfl, rfl⟩) (Nat.le_of_ble_eq_true rfl) rfl ?_
  exact hP.wk ⟨rfl, rfl, rfl, trivial⟩
set_option maxRecDepth 20000 in
set_option maxHeartbeats 4000000 in
theorem k_Search_tellPath_2 {g : im_g} {d : Nat} {e : im_E} {M : im_M} {K : im_K} {p2 : Int} (hd : 1 ≤ d) (hP : (im_i32 p2) ∧ (((M 1795 5) ≤ p2 → K (.inl none) e M) ∧ (p2 < (M 1795 5) → (0 ≤ p2 ∧ p2 < 128) ∧ ((¬ (M 1796 p2) = (-1) → im_T g (d - 1) 182 0 [some (.ref 7), some (vI (M 1796 p2))] [] e M (im_r0 (fun  e_ M7 => e = e_ ∧ ((((¬ (M 1796 p2) = 28 → ((¬ (M 1796 p2) = 29 → ((¬ (M 1796 p2) = 28 → ((((¬ (M 1796 p2) = 28 → ((¬ (M 1796 p2) = 29 → (((M 1796 p2) = (-1) → im_T g (d - 1) 187 0 [some (.ref 7), some (vL (M7 2057 p2)), none] [] e M7 (im_r0 (fun  e_ M125 => e = e_ ∧ im_T g d 246 2 [some (.ref 1793), some (.ref 7), some (vI (p2 + 1)), none] [] e M125 K))) ∧ (¬ (M 1796 p2) = (-1) → im_T g (d - 1) 183 0 [some (.ref 7), some (vL 24948), none] [] e M7 (im_r0 (fun  e_ M128 => e = e_ ∧ im_T g (d - 1) 187 0 [some (.ref 7), some (vL (M128 2057 p2)), none] [] e M128 (im_r0 (fun  e_ M132 => e = e_ ∧ im_T g d 246 2 [some (.ref 1793), some (.ref 7), some (vI (p2 + 1)), none] [] e M132 K))))))))))) ∧ (((((M 1796 p2) = 28)) ∨ ((¬ (M 1796 p2) = 28) ∧ ((M 1796 p2) = 29))) → ∃ b105 : Nat, ((M7 1800 p2) = (b105 : Int)) ∧ (im_num e b105) ∧ im_T g (d - 1) 177 0 [some (.ref 7), some (.ref b105), none, none, none, none] [] e M7 (im_r0 (fun  e_ M108 => e = e_ ∧ (((M 1796 p2) = (-1) → im_T g (d - 1) 187 0 [some (.ref 7), some (vL (M108 2057 p2)), none] [] e M108 (im_r0 (fun  e_ M113 => e = e_ ∧ im_T g d 246 2 [some (.ref 1793), some (.ref 7), some (vI (p2 + 1)), none] [] e M113 K))) ∧ (¬ (M 1796 p2) = (-1) → im_T g (d - 1) 183 0 [some (.ref 7), some (vL 24948), none] [] e M108 (im_r0 (fun  e_ M116 => e = e_ ∧ im_T g (d - 1) 187 0 [some (.ref 7), some (vL (M116 2057 p2)), none] [] e M116 (im_r0 (fun  e_ M120 => e = e_ ∧ im_T g d 246 2 [some (.ref 1793), some (.ref 7), some (vI (p2 + 1)), none] [] e M120 K))))))))))) ∧ ((M 1796 p2) = 28 → im_T g (d - 1) 183 0 [some (.ref 7), some (vL (M7 1799 p2)), none] [] e M7 (im_r0 (fun  e_ M135 => e = e_ ∧ ((((¬ (M 1796 p2) = 28 → ((¬ (M 1796 p2) = 29 → (((M 1796 p2) = (-1) → im_T g (d - 1) 187 0 [some (.ref 7), some (vL (M135 2057 p2)), none] [] e M135 (im_r0 (fun  e_ M163 => e = e_ ∧ im_T g d 246 2 [some (.ref 1793), some (.ref 7), some (vI (p2 + 1)), none] [] e M163 K))) ∧ (¬ (M 1796 p2) = (-1) → im_T g (d - 1) 183 0 [some (.ref 7), some (vL 24948), none] [] e M135 (im_r0 (fun  e_ M166 => e = e_ ∧ im_T g (d - 1) 187 0 [some (.ref 7), some (vL (M166 2057 p2)), none] [] e M166 (im_r0 (fun  e_ M170 => e = e_ ∧ im_T g d 246 2 [some (.ref 1793), some (.ref 7), some (vI (p2 + 1)), none] [] e M170 K))))))))))) ∧ (((((M 1796 p2) = 28)) ∨ ((¬ (M 1796 p2) = 28) ∧ ((M 1796 p2) = 29))) → ∃ b143 : Nat, ((M135 1800 p2) = (b143 : Int)) ∧ (im_num e b143) ∧ im_T g (d - 1) 177 0 [some (.ref 7), some (.ref b143), none, none, none, none] [] e M135 (im_r0 (fun  e_ M146 => e = e_ ∧ (((M 1796 p2) = (-1) → im_T g (d - 1) 187 0 [some (.ref 7), some (vL (M146 2057 p2)), none] [] e M146 (im_r0 (fun  e_ M151 => e = e_ ∧ im_T g d 246 2 [some (.ref 1793), some (.ref 7), some (vI (p2 + 1)), none] [] e M151 K))) ∧ (¬ (M 1796 p2) = (-1) → im_T g (d - 1) 183 0 [some (.ref 7), some (vL 24948), none] [] e M146 (im_r0 (fun  e_ M154 => e = e_ ∧ im_T g (d - 1) 187 0 [some (.ref 7), some (vL (M154 2057 p2)), none] [] e M154 (im_r0 (fun  e_ M158 => e = e_ ∧ im_T g d 246 2 [some (.ref 1793), some (.ref 7), some (vI (p2 + 1)), none] [] e M158 K))))))))))))))))))) ∧ (((((M 1796 p2) = 28)) ∨ ((¬ (M 1796 p2) = 28) ∧ ((M 1796 p2) = 29))) → im_T g (d - 1) 183 0 [some (.ref 7), some (vL (M7 1797 p2)), none] [] e M7 (im_r0 (fun  e_ M16 => e = e_ ∧ im_T g (d - 1) 183 0 [some (.ref 7), some (vL (M16 1798 p2)), none] [] e M16 (im_r0 (fun  e_ M20 => e = e_ ∧ ((¬ (M 1796 p2) = 28 → ((((¬ (M 1796 p2) = 28 → ((¬ (M 1796 p2) = 29 → (((M 1796 p2) = (-1) → im_T g (d - 1) 187 0 [some (.ref 7), some (vL (M20 2057 p2)), none] [] e M20 (im_r0 (fun  e_ M50 => e = e_ ∧ im_T g d 246 2 [some (.ref 1793), some (.ref 7), some (vI (p2 + 1)), none] [] e M50 K))) ∧ (¬ (M 1796 p2) = (-1) → im_T g (d - 1) 183 0 [some (.ref 7), some (vL 24948), none] [] e M20 (im_r0 (fun  e_ M53 => e = e_ ∧ im_T g (d - 1) 187 0 [some (.ref 7), some (vL (M53 2057 p2)), none] [] e M53 (im_r0 (fun  e_ M57 => e = e_ ∧ im_T g d 246 2 [some (.ref 1793), some (.ref 7), some (vI (p2 + 1)), none] [] e M57 K))))))))))) ∧ (((((M 1796 p2) = 28)) ∨ ((¬ (M 1796 p2) = 28) ∧ ((M 1796 p2) = 29))) → ∃ b30 : Nat, ((M20 1800 p2) = (b30 : Int)) ∧ (im_num e b30) ∧ im_T g (d - 1) 177 0 [some (.ref 7), some (.ref b30), none, none, none, none] [] e M20 (im_r0 (fun  e_ M33 => e = e_ ∧ (((M 1796 p2) = (-1) → im_T g (d - 1) 187 0 [some (.ref 7), some (vL (M33 2057 p2)), none] [] e M33 (im_r0 (fun  e_ M38 => e = e_ ∧ im_T g d 246 2 [some (.ref 1793), some (.ref 7), some (vI (p2 + 1)), none] [] e M38 K))) ∧ (¬ (M 1796 p2) = (-1) → im_T g (d - 1) 183 0 [some (.ref 7), some (vL 24948), none] [] e M33 (im_r0 (fun  e_ M41 => e = e_ ∧ im_T g (d - 1) 187 0 [some (.ref 7), some (vL (M41 2057 p2)), none] [] e M41 (im_r0 (fun  e_ M45 => e = e_ ∧ im_T g d 246 2 [some (.ref 1793), some (.ref 7), some (vI (p2 + 1)), none] [] e M45 K))))))))))) ∧ ((M 1796 p2) = 28 → im_T g (d - 1) 183 0 [some (.ref 7), some (vL (M20 1799 p2)), none] [] e M20 (im_r0 (fun  e_ M60 => e = e_ ∧ ((((¬ (M 1796 p2) = 28 → ((¬ (M 1796 p2) = 29 → (((M 1796 p2) = (-1) → im_T g (d - 1) 187 0 [some (.ref 7), some (vL (M60 2057 p2)), none] [] e M60 (im_r0 (fun  e_ M88 => e = e_ ∧ im_T g d 246 2 [some (.ref 1793), some (.ref 7), some (vI (p2 + 1)), none] [] e M88 K))) ∧ (¬ (M 1796 p2) = (-1) → im_T g (d - 1) 183 0 [some (.ref 7), some (vL 24948), none] [] e M60 (im_r0 (fun  e_ M91 => e = e_ ∧ im_T g (d - 1) 187 0 [some (.ref 7), some (vL (M91 2057 p2)), none] [] e M91 (im_r0 (fun  e_ M95 => e = e_ ∧ im_T g d 246 2 [some (.ref 1793), some (.ref 7), some (vI (p2 + 1)), none] [] e M95 K))))))))))) ∧ (((((M 1796 p2) = 28)) ∨ ((¬ (M 1796 p2) = 28) ∧ ((M 1796 p2) = 29))) → ∃ b68 : Nat, ((M60 1800 p2) = (b68 : Int)) ∧ (im_num e b68) ∧ im_T g (d - 1) 177 0 [some (.ref 7), some (.ref b68), none, none, none, none] [] e M60 (im_r0 (fun  e_ M71 => e = e_ ∧ (((M 1796 p2) = (-1) → im_T g (d - 1) 187 0 [some (.ref 7), some (vL (M71 2057 p2)), none] [] e M71 (im_r0 (fun  e_ M76 => e = e_ ∧ im_T g d 246 2 [some (.ref 1793), some (.ref 7), some (vI (p2 + 1)), none] [] e M76 K))) ∧ (¬ (M 1796 p2) = (-1) → im_T g (d - 1) 183 0 [some (.ref 7), some (vL 24948), none] [] e M71 (im_r0 (fun  e_ M79 => e = e_ ∧ im_T g (d - 1) 187 0 [some (.ref 7), some (vL (M79 2057 p2)), none] [] e M79 (im_r0 (fun  e_ M83 => e = e_ ∧ im_T g d 246 2 [some (.ref 1793), some (.ref 7), some (vI (p2 + 1)), none] [] e M83 K))))))))))))))))))))))) ∧ ((M 1796 p2) = (-1) → im_T g (d - 1) 183 0 [some (.ref 7), some (vL 2002872692), none] [] e M (im_r0 (fun  e_ M173 => e = e_ ∧ ((((¬ (M 1796 p2) = 28 → ((¬ (M 1796 p2) = 29 → ((¬ (M 1796 p2) = 28 → ((((¬ (M 1796 p2) = 28 → ((¬ (M 1796 p2) = 29 → (((M 1796 p2) = (-1) → im_T g (d - 1) 187 0 [some (.ref 7), some (vL (M173 2057 p2)), none] [] e M173 (im_r0 (fun  e_ M291 => e = e_ ∧ im_T g d 246 2 [some (.ref 1793), some (.ref 7), some (vI (p2 + 1)), none] [] e M291 K))) ∧ (¬ (M 1796 p2) = (-1) → im_T g (d - 1) 183 0 [some (.ref 7), some (vL 24948), none] [] e M173 (im_r0 (fun  e_ M294 => e = e_ ∧ im_T g (d - 1) 187 0 [some (.ref 7), some (vL (M294 2057 p2)), none] [] e M294 (im_r0 (fun  e_ M298 => e = e_ ∧ im_T g d 246 2 [some (.ref 1793), some (.ref 7), some (vI (p2 + 1)), none] [] e M298 K))))))))))) ∧ (((((M 1796 p2) = 28)) ∨ ((¬ (M 1796 p2) = 28) ∧ ((M 1796 p2) = 29))) → ∃ b271 : Nat, ((M173 1800 p2) = (b271 : Int)) ∧ (im_num e b271) ∧ im_T g (d - 1) 177 0 [some (.ref 7), some (.ref b271), none, none, none, none] [] e M173 (im_r0 (fun  e_ M274 => e = e_ ∧ (((M 1796 p2) = (-1) → im_T g (d - 1) 187 0 [some (.ref 7), some (vL (M274 2057 p2)), none] [] e M274 (im_r0 (fun  e_ M279 => e = e_ ∧ im_T g d 246 2 [some (.ref 1793), some (.ref 7), some (vI (p2 + 1)), none] [] e M279 K))) ∧ (¬ (M 1796 p2) = (-1) → im_T g (d - 1) 183 0 [some (.ref 7), some (vL 24948), none] [] e M274 (im_r0 (fun  e_ M282 => e = e_ ∧ im_T g (d - 1) 187 0 [some (.ref 7), some (vL (M282 2057 p2)), none] [] e M282 (im_r0 (fun  e_ M286 => e = e_ ∧ im_T g d 246 2 [some (.ref 1793), some (.ref 7), some (vI (p2 + 1)), none] [] e M286 K))))))))))) ∧ ((M 1796 p2) = 28 → im_T g (d - 1) 183 0 [some (.ref 7), some (vL (M173 1799 p2)), none] [] e M173 (im_r0 (fun  e_ M301 => e = e_ ∧ ((((¬ (M 1796 p2) = 28 → ((¬ (M 1796 p2) = 29 → (((M 1796 p2) = (-1) → im_T g (d - 1) 187 0 [some (.ref 7), some (vL (M301 2057 p2)), none] [] e M301 (im_r0 (fun  e_ M329 => e = e_ ∧ im_T g d 246 2 [some (.ref 1793), some (.ref 7), some (vI (p2 + 1)), none] [] e M329 K))) ∧ (¬ (M 1796 p2) = (-1) → im_T g (d - 1) 183 0 [some (.ref 7), some (vL 24948), none] [] e M301 (im_r0 (fun  e_ M332 => e = e_ ∧ im_T g (d - 1) 187 0 [some (.ref 7), some (vL (M332 2057 p2)), none] [] e M332 (im_r0 (fun  e_ M336 => e = e_ ∧ im_T g d 246 2 [some (.ref 1793), some (.ref 7), some (vI (p2 + 1)), none] [] e M336 K))))))))))) ∧ (((((M 1796 p2) = 28)) ∨ ((¬ (M 1796 p2) = 28) ∧ ((M 1796 p2) = 29))) → ∃ b309 : Nat, ((M301 1800 p2) = (b309 : Int)) ∧ (im_num e b309) ∧ im_T g (d - 1) 177 0 [some (.ref 7), some (.ref b309), none, none, none, none] [] e M301 (im_r0 (fun  e_ M312 => e = e_ ∧ (((M 1796 p2) = (-1) → im_T g (d - 1) 187 0 [some (.ref 7), some (vL (M312 2057 p2)), none] [] e M312 (im_r0 (fun  e_ M317 => e = e_ ∧ im_T g d 246 2 [some (.ref 1793), some (.ref 7), some (vI (p2 + 1)), none] [] e M317 K))) ∧ (¬ (M 1796 p2) = (-1) → im_T g (d - 1) 183 0 [some (.ref 7), some (vL 24948), none] [] e M312 (im_r0 (fun  e_ M320 => e = e_ ∧ im_T g (d - 1) 187 0 [some (.ref 7), some (vL (M320 2057 p2)), none] [] e M320 (im_r0 (fun  e_ M324 => e = e_ ∧ im_T g d 246 2 [some (.ref 1793), some (.ref 7), some (vI (p2 + 1)), none] [] e M324 K))))))))))))))))))) ∧ (((((M 1796 p2) = 28)) ∨ ((¬ (M 1796 p2) = 28) ∧ ((M 1796 p2) = 29))) → im_T g (d - 1) 183 0 [some (.ref 7), some (vL (M173 1797 p2)), none] [] e M173 (im_r0 (fun  e_ M182 => e = e_ ∧ im_T g (d - 1) 183 0 [some (.ref 7), some (vL (M182 1798 p2)), none] [] e M182 (im_r0 (fun  e_ M186 => e = e_ ∧ ((¬ (M 1796 p2) = 28 → ((((¬ (M 1796 p2) = 28 → ((¬ (M 1796 p2) = 29 → (((M 1796 p2) = (-1) → im_T g (d - 1) 187 0 [some (.ref 7), some (vL (M186 2057 p2)), none] [] e M186 (im_r0 (fun  e_ M216 => e = e_ ∧ im_T g d 246 2 [some (.ref 1793), some (.ref 7), some (vI (p2 + 1)), none] [] e M216 K))) ∧ (¬ (M 1796 p2) = (-1) → im_T g (d - 1) 183 0 [some (.ref 7), some (vL 24948), none] [] e M186 (im_r0 (fun  e_ M219 => e = e_ ∧ im_T g (d - 1) 187 0 [some (.ref 7), some (vL (M219 2057 p2)), none] [] e M219 (im_r0 (fun  e_ M223 => e = e_ ∧ im_T g d 246 2 [some (.ref 1793), some (.ref 7), some (vI (p2 + 1)), none] [] e M223 K))))))))))) ∧ (((((M 1796 p2) = 28)) ∨ ((¬ (M 1796 p2) = 28) ∧ ((M 1796 p2) = 29))) → ∃ b196 : Nat, ((M186 1800 p2) = (b196 : Int)) ∧ (im_num e b196) ∧ im_T g (d - 1) 177 0 [some (.ref 7), some (.ref b196), none, none, none, none] [] e M186 (im_r0 (fun  e_ M199 => e = e_ ∧ (((M 1796 p2) = (-1) → im_T g (d - 1) 187 0 [some (.ref 7), some (vL (M199 2057 p2)), none] [] e M199 (im_r0 (fun  e_ M204 => e = e_ ∧ im_T g d 246 2 [some (.ref 1793), some (.ref 7), some (vI (p2 + 1)), none] [] e M204 K))) ∧ (¬ (M 1796 p2) = (-1) → im_T g (d - 1) 183 0 [some (.ref 7), some (vL 24948), none] [] e M199 (im_r0 (fun  e_ M207 => e = e_ ∧ im_T g (d - 1) 187 0 [some (.ref 7), some (vL (M207 2057 p2)), none] [] e M207 (im_r0 (fun  e_ M211 => e = e_ ∧ im_T g d 246 2 [some (.ref 1793), some (.ref 7), some (vI (p2 + 1)), none] [] e M211 K))))))))))) ∧ ((M 1796 p2) = 28 → im_T g (d - 1) 183 0 [some (.ref 7), some (vL (M186 1799 p2)), none] [] e M186 (im_r0 (fun  e_ M226 => e = e_ ∧ ((((¬ (M 1796 p2) = 28 → ((¬ (M 1796 p2) = 29 → (((M 1796 p2) = (-1) → im_T g (d - 1) 187 0 [some (.ref 7), some (vL (M226 2057 p2)), none] [] e M226 (im_r0 (fun  e_ M254 => e = e_ ∧ im_T g d 246 2 [some (.ref 1793), some (.ref 7), some (vI (p2 + 1)), none] [] e M254 K))) ∧ (¬ (M 1796 p2) = (-1) → im_T g (d - 1) 183 0 [some (.ref 7), some (vL 24948), none] [] e M226 (im_r0 (fun  e_ M257 => e = e_ ∧ im_T g (d - 1) 187 0 [some (.ref 7), some (vL (M257 2057 p2)), none] [] e M257 (im_r0 (fun  e_ M261 => e = e_ ∧ im_T g d 246 2 [some (.ref 1793), some (.ref 7), some (vI (p2 + 1)), none] [] e M261 K))))))))))) ∧ (((((M 1796 p2) = 28)) ∨ ((¬ (M 1796 p2) = 28) ∧ ((M 1796 p2) = 29))) → ∃ b234 : Nat, ((M226 1800 p2) = (b234 : Int)) ∧ (im_num e b234) ∧ im_T g (d - 1) 177 0 [some (.ref 7), some (.ref b234), none, none, none, none] [] e M226 (im_r0 (fun  e_ M237 => e = e_ ∧ (((M 1796 p2) = (-1) → im_T g (d - 1) 187 0 [some (.ref 7), some (vL (M237 2057 p2)), none] [] e M237 (im_r0 (fun  e_ M242 => e = e_ ∧ im_T g d 246 2 [some (.ref 1793), some (.ref 7), some (vI (p2 + 1)), none] [] e M242 K))) ∧ (¬ (M 1796 p2) = (-1) → im_T g (d - 1) 183 0 [some (.ref 7), some (vL 24948), none] [] e M237 (im_r0 (fun  e_ M245 => e = e_ ∧ im_T g (d - 1) 187 0 [some (.ref 7), some (vL (M245 2057 p2)), none] [] e M245 (im_r0 (fun  e_ M249 => e = e_ ∧ im_T g d 246 2 [some (.ref 1793), some (.ref 7), some (vI (p2 + 1)), none] [] e M249 K))))))))))))))))))))))))))) : im_T g d 246 2 [some (.ref 1793), some (.ref 7), some (vI p2), none] [] e M K := by
  refine im_ld (q := 3) (i := 2) D246_2 rfl rfl rfl ?_
  refine im_ld (q := 4) (i := 0) D246_3 rfl rfl rfl ?_
  refine im_gfR (q := 7) (b := 1795) D246_4 (im_fl cn_246 fl_8_22) sf_1793 rfl rfl tR_8_3 rfl ?_
  refine im_rng (j := 5) sf_1795 (by decide) (by decide) (fun hr1 => ?_)
  refine im_gfI (q := 10) D246_7 (im_fl cn_246 fl_8_91) sf_1795 rfl rfl tI_7_5 rfl ?_
  obtain ⟨hg2, hP⟩ := hP
  refine im_icmp (q := 13) (t := 153) D246_10 rfl hg2 hr1 (fun hc3 => ?_) (fun hc3 => ?_)
  · replace hP := hP.1 hc3
    exact im_vret (q := 154) D246_153 rfl hP
  · replace hP := hP.2 (Int.not_le.mp hc3)
    refine im_ld (q := 14) (i := 0) D246_13 rfl rfl rfl ?_
    refine im_gfR (q := 17) (b := 1795) D246_14 (im_fl cn_246 fl_8_22) sf_1793 rfl rfl tR_8_3 rfl ?_
    refine im_gfR (q := 20) (b := 1796) D246_17 (im_fl cn_246 fl_8_81) sf_1795 rfl rfl tR_7_0 rfl ?_
    refine im_ld (q := 21) (i := 2) D246_20 rfl rfl rfl ?_
    obtain ⟨hg4, hP⟩ := hP
    refine im_rng (j := p2) sf_1796 hg4.1 hg4.2 (fun hr5 => ?_)
    refine im_iald (q := 22) D246_21 sf_1796 hg4.1 hg4.2 (by decide) rfl ?_
    refine im_st1 (q := 23) (i := 3) (L' := [some (.ref 1793), some (.ref 7), some (vI p2), some (vI (M 1796 p2))]) D246_22 (Or.inl ⟨_, rfl, rfl⟩) (Nat.le_of_ble_eq_true rfl) rfl ?_
    refine im_ld (q := 24) (i := 3) D246_23 rfl rfl rfl ?_
    refine im_iconst (q := 25) D246_24 ?_
    refine im_icmp (q := 28) (t := 38) D246_25 rfl hr5 (by decide) (fun hc6 => ?_) (fun hc6 => ?_)
    · replace hP := hP.1 hc6
      refine im_ld (q := 39) (i := 1) D246_38 rfl rfl rfl ?_
      refine im_ld (q := 40) (i := 3) D246_39 rfl rfl rfl ?_
      refine im_callV (q := 43) (kd := 1) (y := 182) (n := 1) (ci := 10) (a := 7) (vs := [.ref 7, vI (M 1796 p2)]) (r := []) (L2 := [some (.ref 7), some (vI (M 1796 p2))]) D246_40 (im_cal cn_246 cl_8_183) (Or.inl rfl) rfl sf_7 rfl rfl rfl rfl hd ⟨rfl, rfl, trivial⟩ ?_
      refine hP.mono ?_
      rintro _ e8 M7 ⟨rfl, rfl, hP⟩
      refine im_bkN ?_
      refine im_ld (q := 44) (i := 3) D246_43 rfl rfl rfl ?_
      refine im_bipush (q := 46) D246_44 rfl ?_
      obtain ⟨hP, hJ12⟩ := hP
      have kJ13 : ((((M 1796 p2) = 28)) ∨ ((¬ (M 1796 p2) = 28) ∧ ((M 1796 p2) = 29))) → im_T g d 246 55 [some (.ref 1793), some (.ref 7), some (vI p2), some (vI (M 1796 p2))] [] e M7 K := by
        intro  hx14
        have hP := hJ12  hx14
        refine im_ld (q := 56) (i := 1) D246_55 rfl rfl rfl ?_
        refine im_ld (q := 57) (i := 0) D246_56 rfl rfl rfl ?_
        refine im_gfR (q := 60) (b := 1795) D246_57 (im_fl cn_246 fl_8_22) sf_1793 rfl rfl tR_8_3 rfl ?_
        refine im_gfR (q := 63) (b := 1797) D246_60 (im_fl cn_246 fl_8_186) sf_1795 rfl rfl tR_7_1 rfl ?_
        refine im_ld (q := 64) (i := 2) D246_63 rfl rfl rfl ?_
        refine im_rng (j := p2) sf_1797 hg4.1 hg4.2 (fun hr15 => ?_)
        refine im_lald (q := 65) D246_64 sf_1797 hg4.1 hg4.2 (by decide) rfl ?_
        refine im_callV (q := 68) (kd := 1) (y := 183) (n := 1) (ci := 10) (a := 7) (vs := [.ref 7, vL (M7 1797 p2)]) (r := []) (L2 := [some (.ref 7), some (vL (M7 1797 p2)), none]) D246_65 (im_cal cn_246 cl_8_177) (Or.inl rfl) rfl sf_7 rfl rfl rfl rfl hd ⟨rfl, rfl, trivial⟩ ?_
        refine hP.mono ?_
        rintro _ e17 M16 ⟨rfl, rfl, hP⟩
        refine im_bkN ?_
        refine im_ld (q := 69) (i := 1) D246_68 rfl rfl rfl ?_
        refine im_ld (q := 70) (i := 0) D246_69 rfl rfl rfl ?_
        refine im_gfR (q := 73) (b := 1795) D246_70 (im_fl cn_246 fl_8_22) sf_1793 rfl rfl tR_8_3 rfl ?_
        refine im_gfR (q := 76) (b := 1798) D246_73 (im_fl cn_246 fl_8_187) sf_1795 rfl rfl tR_7_2 rfl ?_
        refine im_ld (q := 77) (i := 2) D246_76 rfl rfl rfl ?_
        refine im_rng (j := p2) sf_1798 hg4.1 hg4.2 (fun hr19 => ?_)
        refine im_lald (q := 78) D246_77 sf_1798 hg4.1 hg4.2 (by decide) rfl ?_
        refine im_callV (q := 81) (kd := 1) (y := 183) (n := 1) (ci := 10) (a := 7) (vs := [.ref 7, vL (M16 1798 p2)]) (r := []) (L2 := [some (.ref 7), some (vL (M16 1798 p2)), none]) D246_78 (im_cal cn_246 cl_8_177) (Or.inl rfl) rfl sf_7 rfl rfl rfl rfl hd ⟨rfl, rfl, trivial⟩ ?_
        refine hP.mono ?_
        rintro _ e21 M20 ⟨rfl, rfl, hP⟩
        refine im_bkN ?_
        refine im_ld (q := 82) (i := 3) D246_81 rfl rfl rfl ?_
        refine im_bipush (q := 84) D246_82 rfl ?_
        refine im_icmp (q := 87) (t := 100) D246_84 rfl hr5 (by decide) (fun hc23 => ?_) (fun hc23 => ?_)
        · replace hP := hP.1 hc23
          refine im_ld (q := 101) (i := 3) D246_100 rfl rfl rfl ?_
          refine im_bipush (q := 103) D246_101 rfl ?_
          obtain ⟨hP, hJ27⟩ := hP
          have kJ28 : ((((M 1796 p2) = 28)) ∨ ((¬ (M 1796 p2) = 28) ∧ ((M 1796 p2) = 29))) → im_T g d 246 112 [some (.ref 1793), some (.ref 7), some (vI p2), some (vI (M 1796 p2))] [] e M20 K := by
            intro  hx29
            have hP := hJ27  hx29
            refine im_ld (q := 113) (i := 1) D246_112 rfl rfl rfl ?_
            refine im_ld (q := 114) (i := 0) D246_113 rfl rfl rfl ?_
            refine im_gfR (q := 117) (b := 1795) D246_114 (im_fl cn_246 fl_8_22) sf_1793 rfl rfl tR_8_3 rfl ?_
            refine im_gfR (q := 120) (b := 1800) D246_117 (im_fl cn_246 fl_8_148) sf_1795 rfl rfl tR_7_4 rfl ?_
            refine im_ld (q := 121) (i := 2) D246_120 rfl rfl rfl ?_
            obtain ⟨b30, hb31, hP⟩ := hP
            obtain ⟨hb32, hP⟩ := hP
            refine im_aald (q := 122) D246_121 sf_1800 (Or.inl rfl) hg4.1 hg4.2 (by decide) hb31 ?_
            refine im_callV (q := 125) (kd := 1) (y := 177) (n := 1) (ci := 10) (a := 7) (vs := [.ref 7, .ref b30]) (r := []) (L2 := [some (.ref 7), some (.ref b30), none, none, none, none]) D246_122 (im_cal cn_246 cl_8_189) (Or.inl rfl) rfl sf_7 rfl rfl rfl rfl hd ⟨rfl, rfl, trivial⟩ ?_
            refine hP.mono ?_
            rintro _ e34 M33 ⟨rfl, rfl, hP⟩
            refine im_bkN ?_
            refine im_ld (q := 126) (i := 3) D246_125 rfl rfl rfl ?_
            refine im_iconst (q := 127) D246_126 ?_
            refine im_icmp (q := 130) (t := 137) D246_127 rfl hr5 (by decide) (fun hc36 => ?_) (fun hc36 => ?_)
            · replace hP := hP.1 hc36
              refine im_ld (q := 138) (i := 1) D246_137 rfl rfl rfl ?_
              refine im_ld (q := 139) (i := 0) D246_138 rfl rfl rfl ?_
              refine im_gfR (q := 142) (b := 2057) D246_139 (im_fl cn_246 fl_8_26) sf_1793 rfl rfl tR_8_4 rfl ?_
              refine im_ld (q := 143) (i := 2) D246_142 rfl rfl rfl ?_
              refine im_rng (j := p2) sf_2057 hg4.1 hg4.2 (fun hr37 => ?_)
              refine im_lald (q := 144) D246_143 sf_2057 hg4.1 hg4.2 (by decide) rfl ?_
              refine im_callV (q := 147) (kd := 1) (y := 187) (n := 1) (ci := 10) (a := 7) (vs := [.ref 7, vL (M33 2057 p2)]) (r := []) (L2 := [some (.ref 7), some (vL (M33 2057 p2)), none]) D246_144 (im_cal cn_246 cl_8_194) (Or.inl rfl) rfl sf_7 rfl rfl rfl rfl hd ⟨rfl, rfl, trivial⟩ ?_
              refine hP.mono ?_
              rintro _ e39 M38 ⟨rfl, rfl, hP⟩
              refine im_bkN ?_
              refine im_iinc (q := 150) (i := 2) (L' := [some (.ref 1793), some (.ref 7), some (vI (p2 + 1)), some (vI (M 1796 p2))]) D246_147 rfl (Nat.le_of_ble_eq_true rfl) rfl ?_
              refine im_goto (q := 153) (t := 2) D246_150 rfl ?_
              exact hP.wk ⟨rfl, rfl, rfl, trivial⟩
            · replace hP := hP.2 hc36
              refine im_ld (q := 131) (i := 1) D246_130 rfl rfl rfl ?_
              refine im_ldc2 (q := 134) (n := 24948) D246_131 rfl ?_
              refine im_callV (q := 137) (kd := 1) (y := 183) (n := 1) (ci := 10) (a := 7) (vs := [.ref 7, vL 24948]) (r := []) (L2 := [some (.ref 7), some (vL 24948), none]) D246_134 (im_cal cn_246 cl_8_177) (Or.inl rfl) rfl sf_7 rfl rfl rfl rfl hd ⟨rfl, rfl, trivial⟩ ?_
              refine hP.mono ?_
              rintro _ e42 M41 ⟨rfl, rfl, hP⟩
              refine im_bkN ?_
              refine im_ld (q := 138) (i := 1) D246_137 rfl rfl rfl ?_
              refine im_ld (q := 139) (i := 0) D246_138 rfl rfl rfl ?_
              refine im_gfR (q := 142) (b := 2057) D246_139 (im_fl cn_246 fl_8_26) sf_1793 rfl rfl tR_8_4 rfl ?_
              refine im_ld (q := 143) (i := 2) D246_142 rfl rfl rfl ?_
              refine im_rng (j := p2) sf_2057 hg4.1 hg4.2 (fun hr44 => ?_)
              refine im_lald (q := 144) D246_143 sf_2057 hg4.1 hg4.2 (by decide) rfl ?_
              refine im_callV (q := 147) (kd := 1) (y := 187) (n := 1) (ci := 10) (a := 7) (vs := [.ref 7, vL (M41 2057 p2)]) (r := []) (L2 := [some (.ref 7), some (vL (M41 2057 p2)), none]) D246_144 (im_cal cn_246 cl_8_194) (Or.inl rfl) rfl sf_7 rfl rfl rfl rfl hd ⟨rfl, rfl, trivial⟩ ?_
              refine hP.mono ?_
              rintro _ e46 M45 ⟨rfl, rfl, hP⟩
              refine im_bkN ?_
              refine im_iinc (q := 150) (i := 2) (L' := [some (.ref 1793), some (.ref 7), some (vI (p2 + 1)), some (vI (M 1796 p2))]) D246_147 rfl (Nat.le_of_ble_eq_true rfl) rfl ?_
              refine im_goto (q := 153) (t := 2) D246_150 rfl ?_
              exact hP.wk ⟨rfl, rfl, rfl, trivial⟩
          refine im_icmp (q := 106) (t := 112) D246_103 rfl hr5 (by decide) (fun hc25 => ?_) (fun hc25 => ?_)
          · exact (kJ28  (Or.inl hc25)).wk ⟨rfl, rfl, rfl, rfl, trivial⟩
          · replace hP := hP hc25
            refine im_ld (q := 107) (i := 3) D246_106 rfl rfl rfl ?_
            refine im_bipush (q := 109) D246_107 rfl ?_
            refine im_icmp (q := 112) (t := 125) D246_109 rfl hr5 (by decide) (fun hc26 => ?_) (fun hc26 => ?_)
            · replace hP := hP hc26
              refine im_ld (q := 126) (i := 3) D246_125 rfl rfl rfl ?_
              refine im_iconst (q := 127) D246_126 ?_
              refine im_icmp (q := 130) (t := 137) D246_127 rfl hr5 (by decide) (fun hc48 => ?_) (fun hc48 => ?_)
              · replace hP := hP.1 hc48
                refine im_ld (q := 138) (i := 1) D246_137 rfl rfl rfl ?_
                refine im_ld (q := 139) (i := 0) D246_138 rfl rfl rfl ?_
                refine im_gfR (q := 142) (b := 2057) D246_139 (im_fl cn_246 fl_8_26) sf_1793 rfl rfl tR_8_4 rfl ?_
                refine im_ld (q := 143) (i := 2) D246_142 rfl rfl rfl ?_
                refine im_rng (j := p2) sf_2057 hg4.1 hg4.2 (fun hr49 => ?_)
                refine im_lald (q := 144) D246_143 sf_2057 hg4.1 hg4.2 (by decide) rfl ?_
                refine im_callV (q := 147) (kd := 1) (y := 187) (n := 1) (ci := 10) (a := 7) (vs := [.ref 7, vL (M20 2057 p2)]) (r := []) (L2 := [some (.ref 7), some (vL (M20 2057 p2)), none]) D246_144 (im_cal cn_246 cl_8_194) (Or.inl rfl) rfl sf_7 rfl rfl rfl rfl hd ⟨rfl, rfl, trivial⟩ ?_
                refine hP.mono ?_
                rintro _ e51 M50 ⟨rfl, rfl, hP⟩
                refine im_bkN ?_
                refine im_iinc (q := 150) (i := 2) (L' := [some (.ref 1793), some (.ref 7), some (vI (p2 + 1)), some (vI (M 1796 p2))]) D246_147 rfl (Nat.le_of_ble_eq_true rfl) rfl ?_
                refine im_goto (q := 153) (t := 2) D246_150 rfl ?_
                exact hP.wk ⟨rfl, rfl, rfl, trivial⟩
              · replace hP := hP.2 hc48
                refine im_ld (q := 131) (i := 1) D246_130 rfl rfl rfl ?_
                refine im_ldc2 (q := 134) (n := 24948) D246_131 rfl ?_
                refine im_callV (q := 137) (kd := 1) (y := 183) (n := 1) (ci := 10) (a := 7) (vs := [.ref 7, vL 24948]) (r := []) (L2 := [some (.ref 7), some (vL 24948), none]) D246_134 (im_cal cn_246 cl_8_177) (Or.inl rfl) rfl sf_7 rfl rfl rfl rfl hd ⟨rfl, rfl, trivial⟩ ?_
                refine hP.mono ?_
                rintro _ e54 M53 ⟨rfl, rfl, hP⟩
                refine im_bkN ?_
                refine im_ld (q := 138) (i := 1) D246_137 rfl rfl rfl ?_
                refine im_ld (q := 139) (i := 0) D246_138 rfl rfl rfl ?_
                refine im_gfR (q := 142) (b := 2057) D246_139 (im_fl cn_246 fl_8_26) sf_1793 rfl rfl tR_8_4 rfl ?_
                refine im_ld (q := 143) (i := 2) D246_142 rfl rfl rfl ?_
                refine im_rng (j := p2) sf_2057 hg4.1 hg4.2 (fun hr56 => ?_)
                refine im_lald (q := 144) D246_143 sf_2057 hg4.1 hg4.2 (by decide) rfl ?_
                refine im_callV (q := 147) (kd := 1) (y := 187) (n := 1) (ci := 10) (a := 7) (vs := [.ref 7, vL (M53 2057 p2)]) (r := []) (L2 := [some (.ref 7), some (vL (M53 2057 p2)), none]) D246_144 (im_cal cn_246 cl_8_194) (Or.inl rfl) rfl sf_7 rfl rfl rfl rfl hd ⟨rfl, rfl, trivial⟩ ?_
                refine hP.mono ?_
                rintro _ e58 M57 ⟨rfl, rfl, hP⟩
                refine im_bkN ?_
                refine im_iinc (q := 150) (i := 2) (L' := [some (.ref 1793), some (.ref 7), some (vI (p2 + 1)), some (vI (M 1796 p2))]) D246_147 rfl (Nat.le_of_ble_eq_true rfl) rfl ?_
                refine im_goto (q := 153) (t := 2) D246_150 rfl ?_
                exact hP.wk ⟨rfl, rfl, rfl, trivial⟩
            · exact (kJ28  (Or.inr ⟨hc25, (Decidable.not_not.mp hc26)⟩)).wk ⟨rfl, rfl, rfl, rfl, trivial⟩
        · replace hP := hP.2 (Decidable.not_not.mp hc23)
          refine im_ld (q := 88) (i := 1) D246_87 rfl rfl rfl ?_
          refine im_ld (q := 89) (i := 0) D246_88 rfl rfl rfl ?_
          refine im_gfR (q := 92) (b := 1795) D246_89 (im_fl cn_246 fl_8_22) sf_1793 rfl rfl tR_8_3 rfl ?_
          refine im_gfR (q := 95) (b := 1799) D246_92 (im_fl cn_246 fl_8_188) sf_1795 rfl rfl tR_7_3 rfl ?_
          refine im_ld (q := 96) (i := 2) D246_95 rfl rfl rfl ?_
          refine im_rng (j := p2) sf_1799 hg4.1 hg4.2 (fun hr24 => ?_)
          refine im_lald (q := 97) D246_96 sf_1799 hg4.1 hg4.2 (by decide) rfl ?_
          refine im_callV (q := 100) (kd := 1) (y := 183) (n := 1) (ci := 10) (a := 7) (vs := [.ref 7, vL (M20 1799 p2)]) (r := []) (L2 := [some (.ref 7), some (vL (M20 1799 p2)), none]) D246_97 (im_cal cn_246 cl_8_177) (Or.inl rfl) rfl sf_7 rfl rfl rfl rfl hd ⟨rfl, rfl, trivial⟩ ?_
          refine hP.mono ?_
          rintro _ e61 M60 ⟨rfl, rfl, hP⟩
          refine im_bkN ?_
          refine im_ld (q := 101) (i := 3) D246_100 rfl rfl rfl ?_
          refine im_bipush (q := 103) D246_101 rfl ?_
          obtain ⟨hP, hJ65⟩ := hP
          have kJ66 : ((((M 1796 p2) = 28)) ∨ ((¬ (M 1796 p2) = 28) ∧ ((M 1796 p2) = 29))) → im_T g d 246 112 [some (.ref 1793), some (.ref 7), some (vI p2), some (vI (M 1796 p2))] [] e M60 K := by
            intro  hx67
            have hP := hJ65  hx67
            refine im_ld (q := 113) (i := 1) D246_112 rfl rfl rfl ?_
            refine im_ld (q := 114) (i := 0) D246_113 rfl rfl rfl ?_
            refine im_gfR (q := 117) (b := 1795) D246_114 (im_fl cn_246 fl_8_22) sf_1793 rfl rfl tR_8_3 rfl ?_
            refine im_gfR (q := 120) (b := 1800) D246_117 (im_fl cn_246 fl_8_148) sf_1795 rfl rfl tR_7_4 rfl ?_
            refine im_ld (q := 121) (i := 2) D246_120 rfl rfl rfl ?_
            obtain ⟨b68, hb69, hP⟩ := hP
            obtain ⟨hb70, hP⟩ := hP
            refine im_aald (q := 122) D246_121 sf_1800 (Or.inl rfl) hg4.1 hg4.2 (by decide) hb69 ?_
            refine im_callV (q := 125) (kd := 1) (y := 177) (n := 1) (ci := 10) (a := 7) (vs := [.ref 7, .ref b68]) (r := []) (L2 := [some (.ref 7), some (.ref b68), none, none, none, none]) D246_122 (im_cal cn_246 cl_8_189) (Or.inl rfl) rfl sf_7 rfl rfl rfl rfl hd ⟨rfl, rfl, trivial⟩ ?_
            refine hP.mono ?_
            rintro _ e72 M71 ⟨rfl, rfl, hP⟩
            refine im_bkN ?_
            refine im_ld (q := 126) (i := 3) D246_125 rfl rfl rfl ?_
            refine im_iconst (q := 127) D246_126 ?_
            refine im_icmp (q := 130) (t := 137) D246_127 rfl hr5 (by decide) (fun hc74 => ?_) (fun hc74 => ?_)
            · replace hP := hP.1 hc74
              refine im_ld (q := 138) (i := 1) D246_137 rfl rfl rfl ?_
              refine im_ld (q := 139) (i := 0) D246_138 rfl rfl rfl ?_
              refine im_gfR (q := 142) (b := 2057) D246_139 (im_fl cn_246 fl_8_26) sf_1793 rfl rfl tR_8_4 rfl ?_
              refine im_ld (q := 143) (i := 2) D246_142 rfl rfl rfl ?_
              refine im_rng (j := p2) sf_2057 hg4.1 hg4.2 (fun hr75 => ?_)
              refine im_lald (q := 144) D246_143 sf_2057 hg4.1 hg4.2 (by decide) rfl ?_
              refine im_callV (q := 147) (kd := 1) (y := 187) (n := 1) (ci := 10) (a := 7) (vs := [.ref 7, vL (M71 2057 p2)]) (r := []) (L2 := [some (.ref 7), some (vL (M71 2057 p2)), none]) D246_144 (im_cal cn_246 cl_8_194) (Or.inl rfl) rfl sf_7 rfl rfl rfl rfl hd ⟨rfl, rfl, trivial⟩ ?_
              refine hP.mono ?_
              rintro _ e77 M76 ⟨rfl, rfl, hP⟩
              refine im_bkN ?_
              refine im_iinc (q := 150) (i := 2) (L' := [some (.ref 1793), some (.ref 7), some (vI (p2 + 1)), some (vI (M 1796 p2))]) D246_147 rfl (Nat.le_of_ble_eq_true rfl) rfl ?_
              refine im_goto (q := 153) (t := 2) D246_150 rfl ?_
              exact hP.wk ⟨rfl, rfl, rfl, trivial⟩
            · replace hP := hP.2 hc74
              refine im_ld (q := 131) (i := 1) D246_130 rfl rfl rfl ?_
              refine im_ldc2 (q := 134) (n := 24948) D246_131 rfl ?_
              refine im_callV (q := 137) (kd := 1) (y := 183) (n := 1) (ci := 10) (a := 7) (vs := [.ref 7, vL 24948]) (r := []) (L2 := [some (.ref 7), some (vL 24948), none]) D246_134 (im_cal cn_246 cl_8_177) (Or.inl rfl) rfl sf_7 rfl rfl rfl rfl hd ⟨rfl, rfl, trivial⟩ ?_
              refine hP.mono ?_
              rintro _ e80 M79 ⟨rfl, rfl, hP⟩
              refine im_bkN ?_
              refine im_ld (q := 138) (i := 1) D246_137 rfl rfl rfl ?_
              refine im_ld (q := 139) (i := 0) D246_138 rfl rfl rfl ?_
              refine im_gfR (q := 142) (b := 2057) D246_139 (im_fl cn_246 fl_8_26) sf_1793 rfl rfl tR_8_4 rfl ?_
              refine im_ld (q := 143) (i := 2) D246_142 rfl rfl rfl ?_
              refine im_rng (j := p2) sf_2057 hg4.1 hg4.2 (fun hr82 => ?_)
              refine im_lald (q := 144) D246_143 sf_2057 hg4.1 hg4.2 (by decide) rfl ?_
              refine im_callV (q := 147) (kd := 1) (y := 187) (n := 1) (ci := 10) (a := 7) (vs := [.ref 7, vL (M79 2057 p2)]) (r := []) (L2 := [some (.ref 7), some (vL (M79 2057 p2)), none]) D246_144 (im_cal cn_246 cl_8_194) (Or.inl rfl) rfl sf_7 rfl rfl rfl rfl hd ⟨rfl, rfl, trivial⟩ ?_
              refine hP.mono ?_
              rintro _ e84 M83 ⟨rfl, rfl, hP⟩
              refine im_bkN ?_
              refine im_iinc (q := 150) (i := 2) (L' := [some (.ref 1793), some (.ref 7), some (vI (p2 + 1)), some (vI (M 1796 p2))]) D246_147 rfl (Nat.le_of_ble_eq_true rfl) rfl ?_
              refine im_goto (q := 153) (t := 2) D246_150 rfl ?_
              exact hP.wk ⟨rfl, rfl, rfl, trivial⟩
          refine im_icmp (q := 106) (t := 112) D246_103 rfl hr5 (by decide) (fun hc63 => ?_) (fun hc63 => ?_)
          · exact (kJ66  (Or.inl hc63)).wk ⟨rfl, rfl, rfl, rfl, trivial⟩
          · replace hP := hP hc63
            refine im_ld (q := 107) (i := 3) D246_106 rfl rfl rfl ?_
            refine im_bipush (q := 109) D246_107 rfl ?_
            refine im_icmp (q := 112) (t := 125) D246_109 rfl hr5 (by decide) (fun hc64 => ?_) (fun hc64 => ?_)
            · replace hP := hP hc64
              refine im_ld (q := 126) (i := 3) D246_125 rfl rfl rfl ?_
              refine im_iconst (q := 127) D246_126 ?_
              refine im_icmp (q := 130) (t := 137) D246_127 rfl hr5 (by decide) (fun hc86 => ?_) (fun hc86 => ?_)
              · replace hP := hP.1 hc86
                refine im_ld (q := 138) (i := 1) D246_137 rfl rfl rfl ?_
                refine im_ld (q := 139) (i := 0) D246_138 rfl rfl rfl ?_
                refine im_gfR (q := 142) (b := 2057) D246_139 (im_fl cn_246 fl_8_26) sf_1793 rfl rfl tR_8_4 rfl ?_
                refine im_ld (q := 143) (i := 2) D246_142 rfl rfl rfl ?_
                refine im_rng (j := p2) sf_2057 hg4.1 hg4.2 (fun hr87 => ?_)
                refine im_lald (q := 144) D246_143 sf_2057 hg4.1 hg4.2 (by decide) rfl ?_
                refine im_callV (q := 147) (kd := 1) (y := 187) (n := 1) (ci := 10) (a := 7) (vs := [.ref 7, vL (M60 2057 p2)]) (r := []) (L2 := [some (.ref 7), some (vL (M60 2057 p2)), none]) D246_144 (im_cal cn_246 cl_8_194) (Or.inl rfl) rfl sf_7 rfl rfl rfl rfl hd ⟨rfl, rfl, trivial⟩ ?_
                refine hP.mono ?_
                rintro _ e89 M88 ⟨rfl, rfl, hP⟩
                refine im_bkN ?_
                refine im_iinc (q := 150) (i := 2) (L' := [some (.ref 1793), some (.ref 7), some (vI (p2 + 1)), some (vI (M 1796 p2))]) D246_147 rfl (Nat.le_of_ble_eq_true rfl) rfl ?_
                refine im_goto (q := 153) (t := 2) D246_150 rfl ?_
                exact hP.wk ⟨rfl, rfl, rfl, trivial⟩
              · replace hP := hP.2 hc86
                refine im_ld (q := 131) (i := 1) D246_130 rfl rfl rfl ?_
                refine im_ldc2 (q := 134) (n := 24948) D246_131 rfl ?_
                refine im_callV (q := 137) (kd := 1) (y := 183) (n := 1) (ci := 10) (a := 7) (vs := [.ref 7, vL 24948]) (r := []) (L2 := [some (.ref 7), some (vL 24948), none]) D246_134 (im_cal cn_246 cl_8_177) (Or.inl rfl) rfl sf_7 rfl rfl rfl rfl hd ⟨rfl, rfl, trivial⟩ ?_
                refine hP.mono ?_
                rintro _ e92 M91 ⟨rfl, rfl, hP⟩
                refine im_bkN ?_
                refine im_ld (q := 138) (i := 1) D246_137 rfl rfl rfl ?_
                refine im_ld (q := 139) (i := 0) D246_138 rfl rfl rfl ?_
                refine im_gfR (q := 142) (b := 2057) D246_139 (im_fl cn_246 fl_8_26) sf_1793 rfl rfl tR_8_4 rfl ?_
                refine im_ld (q := 143) (i := 2) D246_142 rfl rfl rfl ?_
                refine im_rng (j := p2) sf_2057 hg4.1 hg4.2 (fun hr94 => ?_)
                refine im_lald (q := 144) D246_143 sf_2057 hg4.1 hg4.2 (by decide) rfl ?_
                refine im_callV (q := 147) (kd := 1) (y := 187) (n := 1) (ci := 10) (a := 7) (vs := [.ref 7, vL (M91 2057 p2)]) (r := []) (L2 := [some (.ref 7), some (vL (M91 2057 p2)), none]) D246_144 (im_cal cn_246 cl_8_194) (Or.inl rfl) rfl sf_7 rfl rfl rfl rfl hd ⟨rfl, rfl, trivial⟩ ?_
                refine hP.mono ?_
                rintro _ e96 M95 ⟨rfl, rfl, hP⟩
                refine im_bkN ?_
                refine im_iinc (q := 150) (i := 2) (L' := [some (.ref 1793), some (.ref 7), some (vI (p2 + 1)), some (vI (M 1796 p2))]) D246_147 rfl (Nat.le_of_ble_eq_true rfl) rfl ?_
                refine im_goto (q := 153) (t := 2) D246_150 rfl ?_
                exact hP.wk ⟨rfl, rfl, rfl, trivial⟩
            · exact (kJ66  (Or.inr ⟨hc63, (Decidable.not_not.mp hc64)⟩)).wk ⟨rfl, rfl, rfl, rfl, trivial⟩
      refine im_icmp (q := 49) (t := 55) D246_46 rfl hr5 (by decide) (fun hc10 => ?_) (fun hc10 => ?_)
      · exact (kJ13  (Or.inl hc10)).wk ⟨rfl, rfl, rfl, rfl, trivial⟩
      · replace hP := hP hc10
        refine im_ld (q := 50) (i := 3) D246_49 rfl rfl rfl ?_
        refine im_bipush (q := 52) D246_50 rfl ?_
        refine im_icmp (q := 55) (t := 81) D246_52 rfl hr5 (by decide) (fun hc11 => ?_) (fun hc11 => ?_)
        · replace hP := hP hc11
          refine im_ld (q := 82) (i := 3) D246_81 rfl rfl rfl ?_
          refine im_bipush (q := 84) D246_82 rfl ?_
          refine im_icmp (q := 87) (t := 100) D246_84 rfl hr5 (by decide) (fun hc98 => ?_) (fun hc98 => ?_)
          · replace hP := hP.1 hc98
            refine im_ld (q := 101) (i := 3) D246_100 rfl rfl rfl ?_
            refine im_bipush (q := 103) D246_101 rfl ?_
            obtain ⟨hP, hJ102⟩ := hP
            have kJ103 : ((((M 1796 p2) = 28)) ∨ ((¬ (M 1796 p2) = 28) ∧ ((M 1796 p2) = 29))) → im_T g d 246 112 [some (.ref 1793), some (.ref 7), some (vI p2), some (vI (M 1796 p2))] [] e M7 K := by
              intro  hx104
              have hP := hJ102  hx104
              refine im_ld (q := 113) (i := 1) D246_112 rfl rfl rfl ?_
              refine im_ld (q := 114) (i := 0) D246_113 rfl rfl rfl ?_
              refine im_gfR (q := 117) (b := 1795) D246_114 (im_fl cn_246 fl_8_22) sf_1793 rfl rfl tR_8_3 rfl ?_
              refine im_gfR (q := 120) (b := 1800) D246_117 (im_fl cn_246 fl_8_148) sf_1795 rfl rfl tR_7_4 rfl ?_
              refine im_ld (q := 121) (i := 2) D246_120 rfl rfl rfl ?_
              obtain ⟨b105, hb106, hP⟩ := hP
              obtain ⟨hb107, hP⟩ := hP
              refine im_aald (q := 122) D246_121 sf_1800 (Or.inl rfl) hg4.1 hg4.2 (by decide) hb106 ?_
              refine im_callV (q := 125) (kd := 1) (y := 177) (n := 1) (ci := 10) (a := 7) (vs := [.ref 7, .ref b105]) (r := []) (L2 := [some (.ref 7), some (.ref b105), none, none, none, none]) D246_122 (im_cal cn_246 cl_8_189) (Or.inl rfl) rfl sf_7 rfl rfl rfl rfl hd ⟨rfl, rfl, trivial⟩ ?_
              refine hP.mono ?_
              rintro _ e109 M108 ⟨rfl, rfl, hP⟩
              refine im_bkN ?_
              refine im_ld (q := 126) (i := 3) D246_125 rfl rfl rfl ?_
              refine im_iconst (q := 127) D246_126 ?_
              refine im_icmp (q := 130) (t := 137) D246_127 rfl hr5 (by decide) (fun hc111 => ?_) (fun hc111 => ?_)
              · replace hP := hP.1 hc111
                refine im_ld (q := 138) (i := 1) D246_137 rfl rfl rfl ?_
                refine im_ld (q := 139) (i := 0) D246_138 rfl rfl rfl ?_
                refine im_gfR (q := 142) (b := 2057) D246_139 (im_fl cn_246 fl_8_26) sf_1793 rfl rfl tR_8_4 rfl ?_
                refine im_ld (q := 143) (i := 2) D246_142 rfl rfl rfl ?_
                refine im_rng (j := p2) sf_2057 hg4.1 hg4.2 (fun hr112 => ?_)
                refine im_lald (q := 144) D246_143 sf_2057 hg4.1 hg4.2 (by decide) rfl ?_
                refine im_callV (q := 147) (kd := 1) (y := 187) (n := 1) (ci := 10) (a := 7) (vs := [.ref 7, vL (M108 2057 p2)]) (r := []) (L2 := [some (.ref 7), some (vL (M108 2057 p2)), none]) D246_144 (im_cal cn_246 cl_8_194) (Or.inl rfl) rfl sf_7 rfl rfl rfl rfl hd ⟨rfl, rfl, trivial⟩ ?_
                refine hP.mono ?_
                rintro _ e114 M113 ⟨rfl, rfl, hP⟩
                refine im_bkN ?_
                refine im_iinc (q := 150) (i := 2) (L' := [some (.ref 1793), some (.ref 7), some (vI (p2 + 1)), some (vI (M 1796 p2))]) D246_147 rfl (Nat.le_of_ble_eq_true rfl) rfl ?_
                refine im_goto (q := 153) (t := 2) D246_150 rfl ?_
                exact hP.wk ⟨rfl, rfl, rfl, trivial⟩
              · replace hP := hP.2 hc111
                refine im_ld (q := 131) (i := 1) D246_130 rfl rfl rfl ?_
                refine im_ldc2 (q := 134) (n := 24948) D246_131 rfl ?_
                refine im_callV (q := 137) (kd := 1) (y := 183) (n := 1) (ci := 10) (a := 7) (vs := [.ref 7, vL 24948]) (r := []) (L2 := [some (.ref 7), some (vL 24948), none]) D246_134 (im_cal cn_246 cl_8_177) (Or.inl rfl) rfl sf_7 rfl rfl rfl rfl hd ⟨rfl, rfl, trivial⟩ ?_
                refine hP.mono ?_
                rintro _ e117 M116 ⟨rfl, rfl, hP⟩
                refine im_bkN ?_
                refine im_ld (q := 138) (i := 1) D246_137 rfl rfl rfl ?_
                refine im_ld (q := 139) (i := 0) D246_138 rfl rfl rfl ?_
                refine im_gfR (q := 142) (b := 2057) D246_139 (im_fl cn_246 fl_8_26) sf_1793 rfl rfl tR_8_4 rfl ?_
                refine im_ld (q := 143) (i := 2) D246_142 rfl rfl rfl ?_
                refine im_rng (j := p2) sf_2057 hg4.1 hg4.2 (fun hr119 => ?_)
                refine im_lald (q := 144) D246_143 sf_2057 hg4.1 hg4.2 (by decide) rfl ?_
                refine im_callV (q := 147) (kd := 1) (y := 187) (n := 1) (ci := 10) (a := 7) (vs := [.ref 7, vL (M116 2057 p2)]) (r := []) (L2 := [some (.ref 7), some (vL (M116 2057 p2)), none]) D246_144 (im_cal cn_246 cl_8_194) (Or.inl rfl) rfl sf_7 rfl rfl rfl rfl hd ⟨rfl, rfl, trivial⟩ ?_
                refine hP.mono ?_
                rintro _ e121 M120 ⟨rfl, rfl, hP⟩
                refine im_bkN ?_
                refine im_iinc (q := 150) (i := 2) (L' := [some (.ref 1793), some (.ref 7), some (vI (p2 + 1)), some (vI (M 1796 p2))]) D246_147 rfl (Nat.le_of_ble_eq_true rfl) rfl ?_
                refine im_goto (q := 153) (t := 2) D246_150 rfl ?_
                exact hP.wk ⟨rfl, rfl, rfl, trivial⟩
            refine im_icmp (q := 106) (t := 112) D246_103 rfl hr5 (by decide) (fun hc100 => ?_) (fun hc100 => ?_)
            · exact (kJ103  (Or.inl hc100)).wk ⟨rfl, rfl, rfl, rfl, trivial⟩
            · replace hP := hP hc100
              refine im_ld (q := 107) (i := 3) D246_106 rfl rfl rfl ?_
              refine im_bipush (q := 109) D246_107 rfl ?_
              refine im_icmp (q := 112) (t := 125) D246_109 rfl hr5 (by decide) (fun hc101 => ?_) (fun hc101 => ?_)
              · replace hP := hP hc101
                refine im_ld (q := 126) (i := 3) D246_125 rfl rfl rfl ?_
                refine im_iconst (q := 127) D246_126 ?_
                refine im_icmp (q := 130) (t := 137) D246_127 rfl hr5 (by decide) (fun hc123 => ?_) (fun hc123 => ?_)
                · replace hP := hP.1 hc123
                  refine im_ld (q := 138) (i := 1) D246_137 rfl rfl rfl ?_
                  refine im_ld (q := 139) (i := 0) D246_138 rfl rfl rfl ?_
                  refine im_gfR (q := 142) (b := 2057) D246_139 (im_fl cn_246 fl_8_26) sf_1793 rfl rfl tR_8_4 rfl ?_
                  refine im_ld (q := 143) (i := 2) D246_142 rfl rfl rfl ?_
                  refine im_rng (j := p2) sf_2057 hg4.1 hg4.2 (fun hr124 => ?_)
                  refine im_lald (q := 144) D246_143 sf_2057 hg4.1 hg4.2 (by decide) rfl ?_
                  refine im_callV (q := 147) (kd := 1) (y := 187) (n := 1) (ci := 10) (a := 7) (vs := [.ref 7, vL (M7 2057 p2)]) (r := []) (L2 := [some (.ref 7), some (vL (M7 2057 p2)), none]) D246_144 (im_cal cn_246 cl_8_194) (Or.inl rfl) rfl sf_7 rfl rfl rfl rfl hd ⟨rfl, rfl, trivial⟩ ?_
                  refine hP.mono ?_
                  rintro _ e126 M125 ⟨rfl, rfl, hP⟩
                  refine im_bkN ?_
                  refine im_iinc (q := 150) (i := 2) (L' := [some (.ref 1793), some (.ref 7), some (vI (p2 + 1)), some (vI (M 1796 p2))]) D246_147 rfl (Nat.le_of_ble_eq_true rfl) rfl ?_
                  refine im_goto (q := 153) (t := 2) D246_150 rfl ?_
                  exact hP.wk ⟨rfl, rfl, rfl, trivial⟩
                · replace hP := hP.2 hc123
                  refine im_ld (q := 131) (i := 1) D246_130 rfl rfl rfl ?_
                  refine im_ldc2 (q := 134) (n := 24948) D246_131 rfl ?_
                  refine im_callV (q := 137) (kd := 1) (y := 183) (n := 1) (ci := 10) (a := 7) (vs := [.ref 7, vL 24948]) (r := []) (L2 := [some (.ref 7), some (vL 24948), none]) D246_134 (im_cal cn_246 cl_8_177) (Or.inl rfl) rfl sf_7 rfl rfl rfl rfl hd ⟨rfl, rfl, trivial⟩ ?_
                  refine hP.mono ?_
                  rintro _ e129 M128 ⟨rfl, rfl, hP⟩
                  refine im_bkN ?_
                  refine im_ld (q := 138) (i := 1) D246_137 rfl rfl rfl ?_
                  refine im_ld (q := 139) (i := 0) D246_138 rfl rfl rfl ?_
                  refine im_gfR (q := 142) (b := 2057) D246_139 (im_fl cn_246 fl_8_26) sf_1793 rfl rfl tR_8_4 rfl ?_
                  refine im_ld (q := 143) (i := 2) D246_142 rfl rfl rfl ?_
                  refine im_rng (j := p2) sf_2057 hg4.1 hg4.2 (fun hr131 => ?_)
                  refine im_lald (q := 144) D246_143 sf_2057 hg4.1 hg4.2 (by decide) rfl ?_
                  refine im_callV (q := 147) (kd := 1) (y := 187) (n := 1) (ci := 10) (a := 7) (vs := [.ref 7, vL (M128 2057 p2)]) (r := []) (L2 := [some (.ref 7), some (vL (M128 2057 p2)), none]) D246_144 (im_cal cn_246 cl_8_194) (Or.inl rfl) rfl sf_7 rfl rfl rfl rfl hd ⟨rfl, rfl, trivial⟩ ?_
                  refine hP.mono ?_
                  rintro _ e133 M132 ⟨rfl, rfl, hP⟩
                  refine im_bkN ?_
                  refine im_iinc (q := 150) (i := 2) (L' := [some (.ref 1793), some (.ref 7), some (vI (p2 + 1)), some (vI (M 1796 p2))]) D246_147 rfl (Nat.le_of_ble_eq_true rfl) rfl ?_
                  refine im_goto (q := 153) (t := 2) D246_150 rfl ?_
                  exact hP.wk ⟨rfl, rfl, rfl, trivial⟩
              · exact (kJ103  (Or.inr ⟨hc100, (Decidable.not_not.mp hc101)⟩)).wk ⟨rfl, rfl, rfl, rfl, trivial⟩
          · replace hP := hP.2 (Decidable.not_not.mp hc98)
            refine im_ld (q := 88) (i := 1) D246_87 rfl rfl rfl ?_
            refine im_ld (q := 89) (i := 0) D246_88 rfl rfl rfl ?_
            refine im_gfR (q := 92) (b := 1795) D246_89 (im_fl cn_246 fl_8_22) sf_1793 rfl rfl tR_8_3 rfl ?_
            refine im_gfR (q := 95) (b := 1799) D246_92 (im_fl cn_246 fl_8_188) sf_1795 rfl rfl tR_7_3 rfl ?_
            refine im_ld (q := 96) (i := 2) D246_95 rfl rfl rfl ?_
            refine im_rng (j := p2) sf_1799 hg4.1 hg4.2 (fun hr99 => ?_)
            refine im_lald (q := 97) D246_96 sf_1799 hg4.1 hg4.2 (by decide) rfl ?_
            refine im_callV (q := 100) (kd := 1) (y := 183) (n := 1) (ci := 10) (a := 7) (vs := [.ref 7, vL (M7 1799 p2)]) (r := []) (L2 := [some (.ref 7), some (vL (M7 1799 p2)), none]) D246_97 (im_cal cn_246 cl_8_177) (Or.inl rfl) rfl sf_7 rfl rfl rfl rfl hd ⟨rfl, rfl, trivial⟩ ?_
            refine hP.mono ?_
            rintro _ e136 M135 ⟨rfl, rfl, hP⟩
            refine im_bkN ?_
            refine im_ld (q := 101) (i := 3) D246_100 rfl rfl rfl ?_
            refine im_bipush (q := 103) D246_101 rfl ?_
            obtain ⟨hP, hJ140⟩ := hP
            have kJ141 : ((((M 1796 p2) = 28)) ∨ ((¬ (M 1796 p2) = 28) ∧ ((M 1796 p2) = 29))) → im_T g d 246 112 [some (.ref 1793), some (.ref 7), some (vI p2), some (vI (M 1796 p2))] [] e M135 K := by
              intro  hx142
              have hP := hJ140  hx142
              refine im_ld (q := 113) (i := 1) D246_112 rfl rfl rfl ?_
              refine im_ld (q := 114) (i := 0) D246_113 rfl rfl rfl ?_
              refine im_gfR (q := 117) (b := 1795) D246_114 (im_fl cn_246 fl_8_22) sf_1793 rfl rfl tR_8_3 rfl ?_
              refine im_gfR (q := 120) (b := 1800) D246_117 (im_fl cn_246 fl_8_148) sf_1795 rfl rfl tR_7_4 rfl ?_
              refine im_ld (q := 121) (i := 2) D246_120 rfl rfl rfl ?_
              obtain ⟨b143, hb144, hP⟩ := hP
              obtain ⟨hb145, hP⟩ := hP
              refine im_aald (q := 122) D246_121 sf_1800 (Or.inl rfl) hg4.1 hg4.2 (by decide) hb144 ?_
              refine im_callV (q := 125) (kd := 1) (y := 177) (n := 1) (ci := 10) (a := 7) (vs := [.ref 7, .ref b143]) (r := []) (L2 := [some (.ref 7), some (.ref b143), none, none, none, none]) D246_122 (im_cal cn_246 cl_8_189) (Or.inl rfl) rfl sf_7 rfl rfl rfl rfl hd ⟨rfl, rfl, trivial⟩ ?_
              refine hP.mono ?_
              rintro _ e147 M146 ⟨rfl, rfl, hP⟩
              refine im_bkN ?_
              refine im_ld (q := 126) (i := 3) D246_125 rfl rfl rfl ?_
              refine im_iconst (q := 127) D246_126 ?_
              refine im_icmp (q := 130) (t := 137) D246_127 rfl hr5 (by decide) (fun hc149 => ?_) (fun hc149 => ?_)
              · replace hP := hP.1 hc149
                refine im_ld (q := 138) (i := 1) D246_137 rfl rfl rfl ?_
                refine im_ld (q := 139) (i := 0) D246_138 rfl rfl rfl ?_
                refine im_gfR (q := 142) (b := 2057) D246_139 (im_fl cn_246 fl_8_26) sf_1793 rfl rfl tR_8_4 rfl ?_
                refine im_ld (q := 143) (i := 2) D246_142 rfl rfl rfl ?_
                refine im_rng (j := p2) sf_2057 hg4.1 hg4.2 (fun hr150 => ?_)
                refine im_lald (q := 144) D246_143 sf_2057 hg4.1 hg4.2 (by decide) rfl ?_
                refine im_callV (q := 147) (kd := 1) (y := 187) (n := 1) (ci := 10) (a := 7) (vs := [.ref 7, vL (M146 2057 p2)]) (r := []) (L2 := [some (.ref 7), some (vL (M146 2057 p2)), none]) D246_144 (im_cal cn_246 cl_8_194) (Or.inl rfl) rfl sf_7 rfl rfl rfl rfl hd ⟨rfl, rfl, trivial⟩ ?_
                refine hP.mono ?_
                rintro _ e152 M151 ⟨rfl, rfl, hP⟩
                refine im_bkN ?_
                refine im_iinc (q := 150) (i := 2) (L' := [some (.ref 1793), some (.ref 7), some (vI (p2 + 1)), some (vI (M 1796 p2))]) D246_147 rfl (Nat.le_of_ble_eq_true rfl) rfl ?_
                refine im_goto (q := 153) (t := 2) D246_150 rfl ?_
                exact hP.wk ⟨rfl, rfl, rfl, trivial⟩
              · replace hP := hP.2 hc149
                refine im_ld (q := 131) (i := 1) D246_130 rfl rfl rfl ?_
                refine im_ldc2 (q := 134) (n := 24948) D246_131 rfl ?_
                refine im_callV (q := 137) (kd := 1) (y := 183) (n := 1) (ci := 10) (a := 7) (vs := [.ref 7, vL 24948]) (r := []) (L2 := [some (.ref 7), some (vL 24948), none]) D246_134 (im_cal cn_246 cl_8_177) (Or.inl rfl) rfl sf_7 rfl rfl rfl rfl hd ⟨rfl, rfl, trivial⟩ ?_
                refine hP.mono ?_
                rintro _ e155 M154 ⟨rfl, rfl, hP⟩
                refine im_bkN ?_
                refine im_ld (q := 138) (i := 1) D246_137 rfl rfl rfl ?_
                refine im_ld (q := 139) (i := 0) D246_138 rfl rfl rfl ?_
                refine im_gfR (q := 142) (b := 2057) D246_139 (im_fl cn_246 fl_8_26) sf_1793 rfl rfl tR_8_4 rfl ?_
                refine im_ld (q := 143) (i := 2) D246_142 rfl rfl rfl ?_
                refine im_rng (j := p2) sf_2057 hg4.1 hg4.2 (fun hr157 => ?_)
                refine im_lald (q := 144) D246_143 sf_2057 hg4.1 hg4.2 (by decide) rfl ?_
                refine im_callV (q := 147) (kd := 1) (y := 187) (n := 1) (ci := 10) (a := 7) (vs := [.ref 7, vL (M154 2057 p2)]) (r := []) (L2 := [some (.ref 7), some (vL (M154 2057 p2)), none]) D246_144 (im_cal cn_246 cl_8_194) (Or.inl rfl) rfl sf_7 rfl rfl rfl rfl hd ⟨rfl, rfl, trivial⟩ ?_
                refine hP.mono ?_
                rintro _ e159 M158 ⟨rfl, rfl, hP⟩
                refine im_bkN ?_
                refine im_iinc (q := 150) (i := 2) (L' := [some (.ref 1793), some (.ref 7), some (vI (p2 + 1)), some (vI (M 1796 p2))]) D246_147 rfl (Nat.le_of_ble_eq_true rfl) rfl ?_
                refine im_goto (q := 153) (t := 2) D246_150 rfl ?_
                exact hP.wk ⟨rfl, rfl, rfl, trivial⟩
            refine im_icmp (q := 106) (t := 112) D246_103 rfl hr5 (by decide) (fun hc138 => ?_) (fun hc138 => ?_)
            · exact (kJ141  (Or.inl hc138)).wk ⟨rfl, rfl, rfl, rfl, trivial⟩
            · replace hP := hP hc138
              refine im_ld (q := 107) (i := 3) D246_106 rfl rfl rfl ?_
              refine im_bipush (q := 109) D246_107 rfl ?_
              refine im_icmp (q := 112) (t := 125) D246_109 rfl hr5 (by decide) (fun hc139 => ?_) (fun hc139 => ?_)
              · replace hP := hP hc139
                refine im_ld (q := 126) (i := 3) D246_125 rfl rfl rfl ?_
                refine im_iconst (q := 127) D246_126 ?_
                refine im_icmp (q := 130) (t := 137) D246_127 rfl hr5 (by decide) (fun hc161 => ?_) (fun hc161 => ?_)
                · replace hP := hP.1 hc161
                  refine im_ld (q := 138) (i := 1) D246_137 rfl rfl rfl ?_
                  refine im_ld (q := 139) (i := 0) D246_138 rfl rfl rfl ?_
                  refine im_gfR (q := 142) (b := 2057) D246_139 (im_fl cn_246 fl_8_26) sf_1793 rfl rfl tR_8_4 rfl ?_
                  refine im_ld (q := 143) (i := 2) D246_142 rfl rfl rfl ?_
                  refine im_rng (j := p2) sf_2057 hg4.1 hg4.2 (fun hr162 => ?_)
                  refine im_lald (q := 144) D246_143 sf_2057 hg4.1 hg4.2 (by decide) rfl ?_
                  refine im_callV (q := 147) (kd := 1) (y := 187) (n := 1) (ci := 10) (a := 7) (vs := [.ref 7, vL (M135 2057 p2)]) (r := []) (L2 := [some (.ref 7), some (vL (M135 2057 p2)), none]) D246_144 (im_cal cn_246 cl_8_194) (Or.inl rfl) rfl sf_7 rfl rfl rfl rfl hd ⟨rfl, rfl, trivial⟩ ?_
                  refine hP.mono ?_
                  rintro _ e164 M163 ⟨rfl, rfl, hP⟩
                  refine im_bkN ?_
                  refine im_iinc (q := 150) (i := 2) (L' := [some (.ref 1793), some (.ref 7), some (vI (p2 + 1)), some (vI (M 1796 p2))]) D246_147 rfl (Nat.le_of_ble_eq_true rfl) rfl ?_
                  refine im_goto (q := 153) (t := 2) D246_150 rfl ?_
                  exact hP.wk ⟨rfl, rfl, rfl, trivial⟩
                · replace hP := hP.2 hc161
                  refine im_ld (q := 131) (i := 1) D246_130 rfl rfl rfl ?_
                  refine im_ldc2 (q := 134) (n := 24948) D246_131 rfl ?_
                  refine im_callV (q := 137) (kd := 1) (y := 183) (n := 1) (ci := 10) (a := 7) (vs := [.ref 7, vL 24948]) (r := []) (L2 := [some (.ref 7), some (vL 24948), none]) D246_134 (im_cal cn_246 cl_8_177) (Or.inl rfl) rfl sf_7 rfl rfl rfl rfl hd ⟨rfl, rfl, trivial⟩ ?_
                  refine hP.mono ?_
                  rintro _ e167 M166 ⟨rfl, rfl, hP⟩
                  refine im_bkN ?_
                  refine im_ld (q := 138) (i := 1) D246_137 rfl rfl rfl ?_
                  refine im_ld (q := 139) (i := 0) D246_138 rfl rfl rfl ?_
                  refine im_gfR (q := 142) (b := 2057) D246_139 (im_fl cn_246 fl_8_26) sf_1793 rfl rfl tR_8_4 rfl ?_
                  refine im_ld (q := 143) (i := 2) D246_142 rfl rfl rfl ?_
                  refine im_rng (j := p2) sf_2057 hg4.1 hg4.2 (fun hr169 => ?_)
                  refine im_lald (q := 144) D246_143 sf_2057 hg4.1 hg4.2 (by decide) rfl ?_
                  refine im_callV (q := 147) (kd := 1) (y := 187) (n := 1) (ci := 10) (a := 7) (vs := [.ref 7, vL (M166 2057 p2)]) (r := []) (L2 := [some (.ref 7), some (vL (M166 2057 p2)), none]) D246_144 (im_cal cn_246 cl_8_194) (Or.inl rfl) rfl sf_7 rfl rfl rfl rfl hd ⟨rfl, rfl, trivial⟩ ?_
                  refine hP.mono ?_
                  rintro _ e171 M170 ⟨rfl, rfl, hP⟩
                  refine im_bkN ?_
                  refine im_iinc (q := 150) (i := 2) (L' := [some (.ref 1793), some (.ref 7), some (vI (p2 + 1)), some (vI (M 1796 p2))]) D246_147 rfl (Nat.le_of_ble_eq_true rfl) rfl ?_
                  refine im_goto (q := 153) (t := 2) D246_150 rfl ?_
                  exact hP.wk ⟨rfl, rfl, rfl, trivial⟩
              · exact (kJ141  (Or.inr ⟨hc138, (Decidable.not_not.mp hc139)⟩)).wk ⟨rfl, rfl, rfl, rfl, trivial⟩
        · exact (kJ13  (Or.inr ⟨hc10, (Decidable.not_not.mp hc11)⟩)).wk ⟨rfl, rfl, rfl, rfl, trivial⟩
    · replace hP := hP.2 (Decidable.not_not.mp hc6)
      refine im_ld (q := 29) (i := 1) D246_28 rfl rfl rfl ?_
      refine im_ldc2 (q := 32) (n := 2002872692) D246_29 rfl ?_
      refine im_callV (q := 35) (kd := 1) (y := 183) (n := 1) (ci := 10) (a := 7) (vs := [.ref 7, vL 2002872692]) (r := []) (L2 := [some (.ref 7), some (vL 2002872692), none]) D246_32 (im_cal cn_246 cl_8_177) (Or.inl rfl) rfl sf_7 rfl rfl rfl rfl hd ⟨rfl, rfl, trivial⟩ ?_
      refine hP.mono ?_
      rintro _ e174 M173 ⟨rfl, rfl, hP⟩
      refine im_bkN ?_
      refine im_goto (q := 38) (t := 43) D246_35 rfl ?_
      refine im_ld (q := 44) (i := 3) D246_43 rfl rfl rfl ?_
      refine im_bipush (q := 46) D246_44 rfl ?_
      obtain ⟨hP, hJ178⟩ := hP
      have kJ179 : ((((M 1796 p2) = 28)) ∨ ((¬ (M 1796 p2) = 28) ∧ ((M 1796 p2) = 29))) → im_T g d 246 55 [some (.ref 1793), some (.ref 7), some (vI p2), some (vI (M 1796 p2))] [] e M173 K := by
        intro  hx180
        have hP := hJ178  hx180
        refine im_ld (q := 56) (i := 1) D246_55 rfl rfl rfl ?_
        refine im_ld (q := 57) (i := 0) D246_56 rfl rfl rfl ?_
        refine im_gfR (q := 60) (b := 1795) D246_57 (im_fl cn_246 fl_8_22) sf_1793 rfl rfl tR_8_3 rfl ?_
        refine im_gfR (q := 63) (b := 1797) D246_60 (im_fl cn_246 fl_8_186) sf_1795 rfl rfl tR_7_1 rfl ?_
        refine im_ld (q := 64) (i := 2) D246_63 rfl rfl rfl ?_
        refine im_rng (j := p2) sf_1797 hg4.1 hg4.2 (fun hr181 => ?_)
        refine im_lald (q := 65) D246_64 sf_1797 hg4.1 hg4.2 (by decide) rfl ?_
        refine im_callV (q := 68) (kd := 1) (y := 183) (n := 1) (ci := 10) (a := 7) (vs := [.ref 7, vL (M173 1797 p2)]) (r := []) (L2 := [some (.ref 7), some (vL (M173 1797 p2)), none]) D246_65 (im_cal cn_246 cl_8_177) (Or.inl rfl) rfl sf_7 rfl rfl rfl rfl hd ⟨rfl, rfl, trivial⟩ ?_
        refine hP.mono ?_
        rintro _ e183 M182 ⟨rfl, rfl, hP⟩
        refine im_bkN ?_
        refine im_ld (q := 69) (i := 1) D246_68 rfl rfl rfl ?_
        refine im_ld (q := 70) (i := 0) D246_69 rfl rfl rfl ?_
        refine im_gfR (q := 73) (b := 1795) D246_70 (im_fl cn_246 fl_8_22) sf_1793 rfl rfl tR_8_3 rfl ?_
        refine im_gfR (q := 76) (b := 1798) D246_73 (im_fl cn_246 fl_8_187) sf_1795 rfl rfl tR_7_2 rfl ?_
        refine im_ld (q := 77) (i := 2) D246_76 rfl rfl rfl ?_
        refine im_rng (j := p2) sf_1798 hg4.1 hg4.2 (fun hr185 => ?_)
        refine im_lald (q := 78) D246_77 sf_1798 hg4.1 hg4.2 (by decide) rfl ?_
        refine im_callV (q := 81) (kd := 1) (y := 183) (n := 1) (ci := 10) (a := 7) (vs := [.ref 7, vL (M182 1798 p2)]) (r := []) (L2 := [some (.ref 7), some (vL (M182 1798 p2)), none]) D246_78 (im_cal cn_246 cl_8_177) (Or.inl rfl) rfl sf_7 rfl rfl rfl rfl hd ⟨rfl, rfl, trivial⟩ ?_
        refine hP.mono ?_
        rintro _ e187 M186 ⟨rfl, rfl, hP⟩
        refine im_bkN ?_
        refine im_ld (q := 82) (i := 3) D246_81 rfl rfl rfl ?_
        refine im_bipush (q := 84) D246_82 rfl ?_
        refine im_icmp (q := 87) (t := 100) D246_84 rfl hr5 (by decide) (fun hc189 => ?_) (fun hc189 => ?_)
        · replace hP := hP.1 hc189
          refine im_ld (q := 101) (i := 3) D246_100 rfl rfl rfl ?_
          refine im_bipush (q := 103) D246_101 rfl ?_
          obtain ⟨hP, hJ193⟩ := hP
          have kJ194 : ((((M 1796 p2) = 28)) ∨ ((¬ (M 1796 p2) = 28) ∧ ((M 1796 p2) = 29))) → im_T g d 246 112 [some (.ref 1793), some (.ref 7), some (vI p2), some (vI (M 1796 p2))] [] e M186 K := by
            intro  hx195
            have hP := hJ193  hx195
            refine im_ld (q := 113) (i := 1) D246_112 rfl rfl rfl ?_
            refine im_ld (q := 114) (i := 0) D246_113 rfl rfl rfl ?_
            refine im_gfR (q := 117) (b := 1795) D246_114 (im_fl cn_246 fl_8_22) sf_1793 rfl rfl tR_8_3 rfl ?_
            refine im_gfR (q := 120) (b := 1800) D246_117 (im_fl cn_246 fl_8_148) sf_1795 rfl rfl tR_7_4 rfl ?_
            refine im_ld (q := 121) (i := 2) D246_120 rfl rfl rfl ?_
            obtain ⟨b196, hb197, hP⟩ := hP
            obtain ⟨hb198, hP⟩ := hP
            refine im_aald (q := 122) D246_121 sf_1800 (Or.inl rfl) hg4.1 hg4.2 (by decide) hb197 ?_
            refine im_callV (q := 125) (kd := 1) (y := 177) (n := 1) (ci := 10) (a := 7) (vs := [.ref 7, .ref b196]) (r := []) (L2 := [some (.ref 7), some (.ref b196), none, none, none, none]) D246_122 (im_cal cn_246 cl_8_189) (Or.inl rfl) rfl sf_7 rfl rfl rfl rfl hd ⟨rfl, rfl, trivial⟩ ?_
            refine hP.mono ?_
            rintro _ e200 M199 ⟨rfl, rfl, hP⟩
            refine im_bkN ?_
            refine im_ld (q := 126) (i := 3) D246_125 rfl rfl rfl ?_
            refine im_iconst (q := 127) D246_126 ?_
            refine im_icmp (q := 130) (t := 137) D246_127 rfl hr5 (by decide) (fun hc202 => ?_) (fun hc202 => ?_)
            · replace hP := hP.1 hc202
              refine im_ld (q := 138) (i := 1) D246_137 rfl rfl rfl ?_
              refine im_ld (q := 139) (i := 0) D246_138 rfl rfl rfl ?_
              refine im_gfR (q := 142) (b := 2057) D246_139 (im_fl cn_246 fl_8_26) sf_1793 rfl rfl tR_8_4 rfl ?_
              refine im_ld (q := 143) (i := 2) D246_142 rfl rfl rfl ?_
              refine im_rng (j := p2) sf_2057 hg4.1 hg4.2 (fun hr203 => ?_)
              refine im_lald (q := 144) D246_143 sf_2057 hg4.1 hg4.2 (by decide) rfl ?_
              refine im_callV (q := 147) (kd := 1) (y := 187) (n := 1) (ci := 10) (a := 7) (vs := [.ref 7, vL (M199 2057 p2)]) (r := []) (L2 := [some (.ref 7), some (vL (M199 2057 p2)), none]) D246_144 (im_cal cn_246 cl_8_194) (Or.inl rfl) rfl sf_7 rfl rfl rfl rfl hd ⟨rfl, rfl, trivial⟩ ?_
              refine hP.mono ?_
              rintro _ e205 M204 ⟨rfl, rfl, hP⟩
              refine im_bkN ?_
              refine im_iinc (q := 150) (i := 2) (L' := [some (.ref 1793), some (.ref 7), some (vI (p2 + 1)), some (vI (M 1796 p2))]) D246_147 rfl (Nat.le_of_ble_eq_true rfl) rfl ?_
              refine im_goto (q := 153) (t := 2) D246_150 rfl ?_
              exact hP.wk ⟨rfl, rfl, rfl, trivial⟩
            · replace hP := hP.2 hc202
              refine im_ld (q := 131) (i := 1) D246_130 rfl rfl rfl ?_
              refine im_ldc2 (q := 134) (n := 24948) D246_131 rfl ?_
              refine im_callV (q := 137) (kd := 1) (y := 183) (n := 1) (ci := 10) (a := 7) (vs := [.ref 7, vL 24948]) (r := []) (L2 := [some (.ref 7), some (vL 24948), none]) D246_134 (im_cal cn_246 cl_8_177) (Or.inl rfl) rfl sf_7 rfl rfl rfl rfl hd ⟨rfl, rfl, trivial⟩ ?_
              refine hP.mono ?_
              rintro _ e208 M207 ⟨rfl, rfl, hP⟩
              refine im_bkN ?_
              refine im_ld (q := 138) (i := 1) D246_137 rfl rfl rfl ?_
              refine im_ld (q := 139) (i := 0) D246_138 rfl rfl rfl ?_
              refine im_gfR (q := 142) (b := 2057) D246_139 (im_fl cn_246 fl_8_26) sf_1793 rfl rfl tR_8_4 rfl ?_
              refine im_ld (q := 143) (i := 2) D246_142 rfl rfl rfl ?_
              refine im_rng (j := p2) sf_2057 hg4.1 hg4.2 (fun hr210 => ?_)
              refine im_lald (q := 144) D246_143 sf_2057 hg4.1 hg4.2 (by decide) rfl ?_
              refine im_callV (q := 147) (kd := 1) (y := 187) (n := 1) (ci := 10) (a := 7) (vs := [.ref 7, vL (M207 2057 p2)]) (r := []) (L2 := [some (.ref 7), some (vL (M207 2057 p2)), none]) D246_144 (im_cal cn_246 cl_8_194) (Or.inl rfl) rfl sf_7 rfl rfl rfl rfl hd ⟨rfl, rfl, trivial⟩ ?_
              refine hP.mono ?_
              rintro _ e212 M211 ⟨rfl, rfl, hP⟩
              refine im_bkN ?_
              refine im_iinc (q := 150) (i := 2) (L' := [some (.ref 1793), some (.ref 7), some (vI (p2 + 1)), some (vI (M 1796 p2))]) D246_147 rfl (Nat.le_of_ble_eq_true rfl) rfl ?_
              refine im_goto (q := 153) (t := 2) D246_150 rfl ?_
              exact hP.wk ⟨rfl, rfl, rfl, trivial⟩
          refine im_icmp (q := 106) (t := 112) D246_103 rfl hr5 (by decide) (fun hc191 => ?_) (fun hc191 => ?_)
          · exact (kJ194  (Or.inl hc191)).wk ⟨rfl, rfl, rfl, rfl, trivial⟩
          · replace hP := hP hc191
            refine im_ld (q := 107) (i := 3) D246_106 rfl rfl rfl ?_
            refine im_bipush (q := 109) D246_107 rfl ?_
            refine im_icmp (q := 112) (t := 125) D246_109 rfl hr5 (by decide) (fun hc192 => ?_) (fun hc192 => ?_)
            · replace hP := hP hc192
              refine im_ld (q := 126) (i := 3) D246_125 rfl rfl rfl ?_
              refine im_iconst (q := 127) D246_126 ?_
              refine im_icmp (q := 130) (t := 137) D246_127 rfl hr5 (by decide) (fun hc214 => ?_) (fun hc214 => ?_)
              · replace hP := hP.1 hc214
                refine im_ld (q := 138) (i := 1) D246_137 rfl rfl rfl ?_
                refine im_ld (q := 139) (i := 0) D246_138 rfl rfl rfl ?_
                refine im_gfR (q := 142) (b := 2057) D246_139 (im_fl cn_246 fl_8_26) sf_1793 rfl rfl tR_8_4 rfl ?_
                refine im_ld (q := 143) (i := 2) D246_142 rfl rfl rfl ?_
                refine im_rng (j := p2) sf_2057 hg4.1 hg4.2 (fun hr215 => ?_)
                refine im_lald (q := 144) D246_143 sf_2057 hg4.1 hg4.2 (by decide) rfl ?_
                refine im_callV (q := 147) (kd := 1) (y := 187) (n := 1) (ci := 10) (a := 7) (vs := [.ref 7, vL (M186 2057 p2)]) (r := []) (L2 := [some (.ref 7), some (vL (M186 2057 p2)), none]) D246_144 (im_cal cn_246 cl_8_194) (Or.inl rfl) rfl sf_7 rfl rfl rfl rfl hd ⟨rfl, rfl, trivial⟩ ?_
                refine hP.mono ?_
                rintro _ e217 M216 ⟨rfl, rfl, hP⟩
                refine im_bkN ?_
                refine im_iinc (q := 150) (i := 2) (L' := [some (.ref 1793), some (.ref 7), some (vI (p2 + 1)), some (vI (M 1796 p2))]) D246_147 rfl (Nat.le_of_ble_eq_true rfl) rfl ?_
                refine im_goto (q := 153) (t := 2) D246_150 rfl ?_
                exact hP.wk ⟨rfl, rfl, rfl, trivial⟩
              · replace hP := hP.2 hc214
                refine im_ld (q := 131) (i := 1) D246_130 rfl rfl rfl ?_
                refine im_ldc2 (q := 134) (n := 24948) D246_131 rfl ?_
                refine im_callV (q := 137) (kd := 1) (y := 183) (n := 1) (ci := 10) (a := 7) (vs := [.ref 7, vL 24948]) (r := []) (L2 := [some (.ref 7), some (vL 24948), none]) D246_134 (im_cal cn_246 cl_8_177) (Or.inl rfl) rfl sf_7 rfl rfl rfl rfl hd ⟨rfl, rfl, trivial⟩ ?_
                refine hP.mono ?_
                rintro _ e220 M219 ⟨rfl, rfl, hP⟩
                refine im_bkN ?_
                refine im_ld (q := 138) (i := 1) D246_137 rfl rfl rfl ?_
                refine im_ld (q := 139) (i := 0) D246_138 rfl rfl rfl ?_
                refine im_gfR (q := 142) (b := 2057) D246_139 (im_fl cn_246 fl_8_26) sf_1793 rfl rfl tR_8_4 rfl ?_
                refine im_ld (q := 143) (i := 2) D246_142 rfl rfl rfl ?_
                refine im_rng (j := p2) sf_2057 hg4.1 hg4.2 (fun hr222 => ?_)
                refine im_lald (q := 144) D246_143 sf_2057 hg4.1 hg4.2 (by decide) rfl ?_
                refine im_callV (q := 147) (kd := 1) (y := 187) (n := 1) (ci := 10) (a := 7) (vs := [.ref 7, vL (M219 2057 p2)]) (r := []) (L2 := [some (.ref 7), some (vL (M219 2057 p2)), none]) D246_144 (im_cal cn_246 cl_8_194) (Or.inl rfl) rfl sf_7 rfl rfl rfl rfl hd ⟨rfl, rfl, trivial⟩ ?_
                refine hP.mono ?_
                rintro _ e224 M223 ⟨rfl, rfl, hP⟩
                refine im_bkN ?_
                refine im_iinc (q := 150) (i := 2) (L' := [some (.ref 1793), some (.ref 7), some (vI (p2 + 1)), some (vI (M 1796 p2))]) D246_147 rfl (Nat.le_of_ble_eq_true rfl) rfl ?_
                refine im_goto (q := 153) (t := 2) D246_150 rfl ?_
                exact hP.wk ⟨rfl, rfl, rfl, trivial⟩
            · exact (kJ194  (Or.inr ⟨hc191, (Decidable.not_not.mp hc192)⟩)).wk ⟨rfl, rfl, rfl, rfl, trivial⟩
        · replace hP := hP.2 (Decidable.not_not.mp hc189)
          refine im_ld (q := 88) (i := 1) D246_87 rfl rfl rfl ?_
          refine im_ld (q := 89) (i := 0) D246_88 rfl rfl rfl ?_
          refine im_gfR (q := 92) (b := 1795) D246_89 (im_fl cn_246 fl_8_22) sf_1793 rfl rfl tR_8_3 rfl ?_
          refine im_gfR (q := 95) (b := 1799) D246_92 (im_fl cn_246 fl_8_188) sf_1795 rfl rfl tR_7_3 rfl ?_
          refine im_ld (q := 96) (i := 2) D246_95 rfl rfl rfl ?_
          refine im_rng (j := p2) sf_1799 hg4.1 hg4.2 (fun hr190 => ?_)
          refine im_lald (q := 97) D246_96 sf_1799 hg4.1 hg4.2 (by decide) rfl ?_
          refine im_callV (q := 100) (kd := 1) (y := 183) (n := 1) (ci := 10) (a := 7) (vs := [.ref 7, vL (M186 1799 p2)]) (r := []) (L2 := [some (.ref 7), some (vL (M186 1799 p2)), none]) D246_97 (im_cal cn_246 cl_8_177) (Or.inl rfl) rfl sf_7 rfl rfl rfl rfl hd ⟨rfl, rfl, trivial⟩ ?_
          refine hP.mono ?_
          rintro _ e227 M226 ⟨rfl, rfl, hP⟩
          refine im_bkN ?_
          refine im_ld (q := 101) (i := 3) D246_100 rfl rfl rfl ?_
          refine im_bipush (q := 103) D246_101 rfl ?_
          obtain ⟨hP, hJ231⟩ := hP
          have kJ232 : ((((M 1796 p2) = 28)) ∨ ((¬ (M 1796 p2) = 28) ∧ ((M 1796 p2) = 29))) → im_T g d 246 112 [some (.ref 1793), some (.ref 7), some (vI p2), some (vI (M 1796 p2))] [] e M226 K := by
            intro  hx233
            have hP := hJ231  hx233
            refine im_ld (q := 113) (i := 1) D246_112 rfl rfl rfl ?_
            refine im_ld (q := 114) (i := 0) D246_113 rfl rfl rfl ?_
            refine im_gfR (q := 117) (b := 1795) D246_114 (im_fl cn_246 fl_8_22) sf_1793 rfl rfl tR_8_3 rfl ?_
            refine im_gfR (q := 120) (b := 1800) D246_117 (im_fl cn_246 fl_8_148) sf_1795 rfl rfl tR_7_4 rfl ?_
            refine im_ld (q := 121) (i := 2) D246_120 rfl rfl rfl ?_
            obtain ⟨b234, hb235, hP⟩ := hP
            obtain ⟨hb236, hP⟩ := hP
            refine im_aald (q := 122) D246_121 sf_1800 (Or.inl rfl) hg4.1 hg4.2 (by decide) hb235 ?_
            refine im_callV (q := 125) (kd := 1) (y := 177) (n := 1) (ci := 10) (a := 7) (vs := [.ref 7, .ref b234]) (r := []) (L2 := [some (.ref 7), some (.ref b234), none, none, none, none]) D246_122 (im_cal cn_246 cl_8_189) (Or.inl rfl) rfl sf_7 rfl rfl rfl rfl hd ⟨rfl, rfl, trivial⟩ ?_
            refine hP.mono ?_
            rintro _ e238 M237 ⟨rfl, rfl, hP⟩
            refine im_bkN ?_
            refine im_ld (q := 126) (i := 3) D246_125 rfl rfl rfl ?_
            refine im_iconst (q := 127) D246_126 ?_
            refine im_icmp (q := 130) (t := 137) D246_127 rfl hr5 (by decide) (fun hc240 => ?_) (fun hc240 => ?_)
            · replace hP := hP.1 hc240
              refine im_ld (q := 138) (i := 1) D246_137 rfl rfl rfl ?_
              refine im_ld (q := 139) (i := 0) D246_138 rfl rfl rfl ?_
              refine im_gfR (q := 142) (b := 2057) D246_139 (im_fl cn_246 fl_8_26) sf_1793 rfl rfl tR_8_4 rfl ?_
              refine im_ld (q := 143) (i := 2) D246_142 rfl rfl rfl ?_
              refine im_rng (j := p2) sf_2057 hg4.1 hg4.2 (fun hr241 => ?_)
              refine im_lald (q := 144) D246_143 sf_2057 hg4.1 hg4.2 (by decide) rfl ?_
              refine im_callV (q := 147) (kd := 1) (y := 187) (n := 1) (ci := 10) (a := 7) (vs := [.ref 7, vL (M237 2057 p2)]) (r := []) (L2 := [some (.ref 7), some (vL (M237 2057 p2)), none]) D246_144 (im_cal cn_246 cl_8_194) (Or.inl rfl) rfl sf_7 rfl rfl rfl rfl hd ⟨rfl, rfl, trivial⟩ ?_
              refine hP.mono ?_
              rintro _ e243 M242 ⟨rfl, rfl, hP⟩
              refine im_bkN ?_
              refine im_iinc (q := 150) (i := 2) (L' := [some (.ref 1793), some (.ref 7), some (vI (p2 + 1)), some (vI (M 1796 p2))]) D246_147 rfl (Nat.le_of_ble_eq_true rfl) rfl ?_
              refine im_goto (q := 153) (t := 2) D246_150 rfl ?_
              exact hP.wk ⟨rfl, rfl, rfl, trivial⟩
            · replace hP := hP.2 hc240
              refine im_ld (q := 131) (i := 1) D246_130 rfl rfl rfl ?_
              refine im_ldc2 (q := 134) (n := 24948) D246_131 rfl ?_
              refine im_callV (q := 137) (kd := 1) (y := 183) (n := 1) (ci := 10) (a := 7) (vs := [.ref 7, vL 24948]) (r := []) (L2 := [some (.ref 7), some (vL 24948), none]) D246_134 (im_cal cn_246 cl_8_177) (Or.inl rfl) rfl sf_7 rfl rfl rfl rfl hd ⟨rfl, rfl, trivial⟩ ?_
              refine hP.mono ?_
              rintro _ e246 M245 ⟨rfl, rfl, hP⟩
              refine im_bkN ?_
              refine im_ld (q := 138) (i := 1) D246_137 rfl rfl rfl ?_
              refine im_ld (q := 139) (i := 0) D246_138 rfl rfl rfl ?_
              refine im_gfR (q := 142) (b := 2057) D246_139 (im_fl cn_246 fl_8_26) sf_1793 rfl rfl tR_8_4 rfl ?_
              refine im_ld (q := 143) (i := 2) D246_142 rfl rfl rfl ?_
              refine im_rng (j := p2) sf_2057 hg4.1 hg4.2 (fun hr248 => ?_)
              refine im_lald (q := 144) D246_143 sf_2057 hg4.1 hg4.2 (by decide) rfl ?_
              refine im_callV (q := 147) (kd := 1) (y := 187) (n := 1) (ci := 10) (a := 7) (vs := [.ref 7, vL (M245 2057 p2)]) (r := []) (L2 := [some (.ref 7), some (vL (M245 2057 p2)), none]) D246_144 (im_cal cn_246 cl_8_194) (Or.inl rfl) rfl sf_7 rfl rfl rfl rfl hd ⟨rfl, rfl, trivial⟩ ?_
              refine hP.mono ?_
              rintro _ e250 M249 ⟨rfl, rfl, hP⟩
              refine im_bkN ?_
              refine im_iinc (q := 150) (i := 2) (L' := [some (.ref 1793), some (.ref 7), some (vI (p2 + 1)), some (vI (M 1796 p2))]) D246_147 rfl (Nat.le_of_ble_eq_true rfl) rfl ?_
              refine im_goto (q := 153) (t := 2) D246_150 rfl ?_
              exact hP.wk ⟨rfl, rfl, rfl, trivial⟩
          refine im_icmp (q := 106) (t := 112) D246_103 rfl hr5 (by decide) (fun hc229 => ?_) (fun hc229 => ?_)
          · exact (kJ232  (Or.inl hc229)).wk ⟨rfl, rfl, rfl, rfl, trivial⟩
          · replace hP := hP hc229
            refine im_ld (q := 107) (i := 3) D246_106 rfl rfl rfl ?_
            refine im_bipush (q := 109) D246_107 rfl ?_
            refine im_icmp (q := 112) (t := 125) D246_109 rfl hr5 (by decide) (fun hc230 => ?_) (fun hc230 => ?_)
            · replace hP := hP hc230
              refine im_ld (q := 126) (i := 3) D246_125 rfl rfl rfl ?_
              refine im_iconst (q := 127) D246_126 ?_
              refine im_icmp (q := 130) (t := 137) D246_127 rfl hr5 (by decide) (fun hc252 => ?_) (fun hc252 => ?_)
              · replace hP := hP.1 hc252
                refine im_ld (q := 138) (i := 1) D246_137 rfl rfl rfl ?_
                refine im_ld (q := 139) (i := 0) D246_138 rfl rfl rfl ?_
                refine im_gfR (q := 142) (b := 2057) D246_139 (im_fl cn_246 fl_8_26) sf_1793 rfl rfl tR_8_4 rfl ?_
                refine im_ld (q := 143) (i := 2) D246_142 rfl rfl rfl ?_
                refine im_rng (j := p2) sf_2057 hg4.1 hg4.2 (fun hr253 => ?_)
                refine im_lald (q := 144) D246_143 sf_2057 hg4.1 hg4.2 (by decide) rfl ?_
                refine im_callV (q := 147) (kd := 1) (y := 187) (n := 1) (ci := 10) (a := 7) (vs := [.ref 7, vL (M226 2057 p2)]) (r := []) (L2 := [some (.ref 7), some (vL (M226 2057 p2)), none]) D246_144 (im_cal cn_246 cl_8_194) (Or.inl rfl) rfl sf_7 rfl rfl rfl rfl hd ⟨rfl, rfl, trivial⟩ ?_
                refine hP.mono ?_
                rintro _ e255 M254 ⟨rfl, rfl, hP⟩
                refine im_bkN ?_
                refine im_iinc (q := 150) (i := 2) (L' := [some (.ref 1793), some (.ref 7), some (vI (p2 + 1)), some (vI (M 1796 p2))]) D246_147 rfl (Nat.le_of_ble_eq_true rfl) rfl ?_
                refine im_goto (q := 153) (t := 2) D246_150 rfl ?_
                exact hP.wk ⟨rfl, rfl, rfl, trivial⟩
              · replace hP := hP.2 hc252
                refine im_ld (q := 131) (i := 1) D246_130 rfl rfl rfl ?_
                refine im_ldc2 (q := 134) (n := 24948) D246_131 rfl ?_
                refine im_callV (q := 137) (kd := 1) (y := 183) (n := 1) (ci := 10) (a := 7) (vs := [.ref 7, vL 24948]) (r := []) (L2 := [some (.ref 7), some (vL 24948), none]) D246_134 (im_cal cn_246 cl_8_177) (Or.inl rfl) rfl sf_7 rfl rfl rfl rfl hd ⟨rfl, rfl, trivial⟩ ?_
                refine hP.mono ?_
                rintro _ e258 M257 ⟨rfl, rfl, hP⟩
                refine im_bkN ?_
                refine im_ld (q := 138) (i := 1) D246_137 rfl rfl rfl ?_
                refine im_ld (q := 139) (i := 0) D246_138 rfl rfl rfl ?_
                refine im_gfR (q := 142) (b := 2057) D246_139 (im_fl cn_246 fl_8_26) sf_1793 rfl rfl tR_8_4 rfl ?_
                refine im_ld (q := 143) (i := 2) D246_142 rfl rfl rfl ?_
                refine im_rng (j := p2) sf_2057 hg4.1 hg4.2 (fun hr260 => ?_)
                refine im_lald (q := 144) D246_143 sf_2057 hg4.1 hg4.2 (by decide) rfl ?_
                refine im_callV (q := 147) (kd := 1) (y := 187) (n := 1) (ci := 10) (a := 7) (vs := [.ref 7, vL (M257 2057 p2)]) (r := []) (L2 := [some (.ref 7), some (vL (M257 2057 p2)), none]) D246_144 (im_cal cn_246 cl_8_194) (Or.inl rfl) rfl sf_7 rfl rfl rfl rfl hd ⟨rfl, rfl, trivial⟩ ?_
                refine hP.mono ?_
                rintro _ e262 M261 ⟨rfl, rfl, hP⟩
                refine im_bkN ?_
                refine im_iinc (q := 150) (i := 2) (L' := [some (.ref 1793), some (.ref 7), some (vI (p2 + 1)), some (vI (M 1796 p2))]) D246_147 rfl (Nat.le_of_ble_eq_true rfl) rfl ?_
                refine im_goto (q := 153) (t := 2) D246_150 rfl ?_
                exact hP.wk ⟨rfl, rfl, rfl, trivial⟩
            · exact (kJ232  (Or.inr ⟨hc229, (Decidable.not_not.mp hc230)⟩)).wk ⟨rfl, rfl, rfl, rfl, trivial⟩
      refine im_icmp (q := 49) (t := 55) D246_46 rfl hr5 (by decide) (fun hc176 => ?_) (fun hc176 => ?_)
      · exact (kJ179  (Or.inl hc176)).wk ⟨rfl, rfl, rfl, rfl, trivial⟩
      · replace hP := hP hc176
        refine im_ld (q := 50) (i := 3) D246_49 rfl rfl rfl ?_
        refine im_bipush (q := 52) D246_50 rfl ?_
        refine im_icmp (q := 55) (t := 81) D246_52 rfl hr5 (by decide) (fun hc177 => ?_) (fun hc177 => ?_)
        · replace hP := hP hc177
          refine im_ld (q := 82) (i := 3) D246_81 rfl rfl rfl ?_
          refine im_bipush (q := 84) D246_82 rfl ?_
          refine im_icmp (q := 87) (t := 100) D246_84 rfl hr5 (by decide) (fun hc264 => ?_) (fun hc264 => ?_)
          · replace hP := hP.1 hc264
            refine im_ld (q := 101) (i := 3) D246_100 rfl rfl rfl ?_
            refine im_bipush (q := 103) D246_101 rfl ?_
            obtain ⟨hP, hJ268⟩ := hP
            have kJ269 : ((((M 1796 p2) = 28)) ∨ ((¬ (M 1796 p2) = 28) ∧ ((M 1796 p2) = 29))) → im_T g d 246 112 [some (.ref 1793), some (.ref 7), some (vI p2), some (vI (M 1796 p2))] [] e M173 K := by
              intro  hx270
              have hP := hJ268  hx270
              refine im_ld (q := 113) (i := 1) D246_112 rfl rfl rfl ?_
              refine im_ld (q := 114) (i := 0) D246_113 rfl rfl rfl ?_
              refine im_gfR (q := 117) (b := 1795) D246_114 (im_fl cn_246 fl_8_22) sf_1793 rfl rfl tR_8_3 rfl ?_
              refine im_gfR (q := 120) (b := 1800) D246_117 (im_fl cn_246 fl_8_148) sf_1795 rfl rfl tR_7_4 rfl ?_
              refine im_ld (q := 121) (i := 2) D246_120 rfl rfl rfl ?_
              obtain ⟨b271, hb272, hP⟩ := hP
              obtain ⟨hb273, hP⟩ := hP
              refine im_aald (q := 122) D246_121 sf_1800 (Or.inl rfl) hg4.1 hg4.2 (by decide) hb272 ?_
              refine im_callV (q := 125) (kd := 1) (y := 177) (n := 1) (ci := 10) (a := 7) (vs := [.ref 7, .ref b271]) (r := []) (L2 := [some (.ref 7), some (.ref b271), none, none, none, none]) D246_122 (im_cal cn_246 cl_8_189) (Or.inl rfl) rfl sf_7 rfl rfl rfl rfl hd ⟨rfl, rfl, trivial⟩ ?_
              refine hP.mono ?_
              rintro _ e275 M274 ⟨rfl, rfl, hP⟩
              refine im_bkN ?_
              refine im_ld (q := 126) (i := 3) D246_125 rfl rfl rfl ?_
              refine im_iconst (q := 127) D246_126 ?_
              refine im_icmp (q := 130) (t := 137) D246_127 rfl hr5 (by decide) (fun hc277 => ?_) (fun hc277 => ?_)
              · replace hP := hP.1 hc277
                refine im_ld (q := 138) (i := 1) D246_137 rfl rfl rfl ?_
                refine im_ld (q := 139) (i := 0) D246_138 rfl rfl rfl ?_
                refine im_gfR (q := 142) (b := 2057) D246_139 (im_fl cn_246 fl_8_26) sf_1793 rfl rfl tR_8_4 rfl ?_
                refine im_ld (q := 143) (i := 2) D246_142 rfl rfl rfl ?_
                refine im_rng (j := p2) sf_2057 hg4.1 hg4.2 (fun hr278 => ?_)
                refine im_lald (q := 144) D246_143 sf_2057 hg4.1 hg4.2 (by decide) rfl ?_
                refine im_callV (q := 147) (kd := 1) (y := 187) (n := 1) (ci := 10) (a := 7) (vs := [.ref 7, vL (M274 2057 p2)]) (r := []) (L2 := [some (.ref 7), some (vL (M274 2057 p2)), none]) D246_144 (im_cal cn_246 cl_8_194) (Or.inl rfl) rfl sf_7 rfl rfl rfl rfl hd ⟨rfl, rfl, trivial⟩ ?_
                refine hP.mono ?_
                rintro _ e280 M279 ⟨rfl, rfl, hP⟩
                refine im_bkN ?_
                refine im_iinc (q := 150) (i := 2) (L' := [some (.ref 1793), some (.ref 7), some (vI (p2 + 1)), some (vI (M 1796 p2))]) D246_147 rfl (Nat.le_of_ble_eq_true rfl) rfl ?_
                refine im_goto (q := 153) (t := 2) D246_150 rfl ?_
                exact hP.wk ⟨rfl, rfl, rfl, trivial⟩
              · replace hP := hP.2 hc277
                refine im_ld (q := 131) (i := 1) D246_130 rfl rfl rfl ?_
                refine im_ldc2 (q := 134) (n := 24948) D246_131 rfl ?_
                refine im_callV (q := 137) (kd := 1) (y := 183) (n := 1) (ci := 10) (a := 7) (vs := [.ref 7, vL 24948]) (r := []) (L2 := [some (.ref 7), some (vL 24948), none]) D246_134 (im_cal cn_246 cl_8_177) (Or.inl rfl) rfl sf_7 rfl rfl rfl rfl hd ⟨rfl, rfl, trivial⟩ ?_
                refine hP.mono ?_
                rintro _ e283 M282 ⟨rfl, rfl, hP⟩
                refine im_bkN ?_
                refine im_ld (q := 138) (i := 1) D246_137 rfl rfl rfl ?_
                refine im_ld (q := 139) (i := 0) D246_138 rfl rfl rfl ?_
                refine im_gfR (q := 142) (b := 2057) D246_139 (im_fl cn_246 fl_8_26) sf_1793 rfl rfl tR_8_4 rfl ?_
                refine im_ld (q := 143) (i := 2) D246_142 rfl rfl rfl ?_
                refine im_rng (j := p2) sf_2057 hg4.1 hg4.2 (fun hr285 => ?_)
                refine im_lald (q := 144) D246_143 sf_2057 hg4.1 hg4.2 (by decide) rfl ?_
                refine im_callV (q := 147) (kd := 1) (y := 187) (n := 1) (ci := 10) (a := 7) (vs := [.ref 7, vL (M282 2057 p2)]) (r := []) (L2 := [some (.ref 7), some (vL (M282 2057 p2)), none]) D246_144 (im_cal cn_246 cl_8_194) (Or.inl rfl) rfl sf_7 rfl rfl rfl rfl hd ⟨rfl, rfl, trivial⟩ ?_
                refine hP.mono ?_
                rintro _ e287 M286 ⟨rfl, rfl, hP⟩
                refine im_bkN ?_
                refine im_iinc (q := 150) (i := 2) (L' := [some (.ref 1793), some (.ref 7), some (vI (p2 + 1)), some (vI (M 1796 p2))]) D246_147 rfl (Nat.le_of_ble_eq_true rfl) rfl ?_
                refine im_goto (q := 153) (t := 2) D246_150 rfl ?_
                exact hP.wk ⟨rfl, rfl, rfl, trivial⟩
            refine im_icmp (q := 106) (t := 112) D246_103 rfl hr5 (by decide) (fun hc266 => ?_) (fun hc266 => ?_)
            · exact (kJ269  (Or.inl hc266)).wk ⟨rfl, rfl, rfl, rfl, trivial⟩
            · replace hP := hP hc266
              refine im_ld (q := 107) (i := 3) D246_106 rfl rfl rfl ?_
              refine im_bipush (q := 109) D246_107 rfl ?_
              refine im_icmp (q := 112) (t := 125) D246_109 rfl hr5 (by decide) (fun hc267 => ?_) (fun hc267 => ?_)
              · replace hP := hP hc267
                refine im_ld (q := 126) (i := 3) D246_125 rfl rfl rfl ?_
                refine im_iconst (q := 127) D246_126 ?_
                refine im_icmp (q := 130) (t := 137) D246_127 rfl hr5 (by decide) (fun hc289 => ?_) (fun hc289 => ?_)
                · replace hP := hP.1 hc289
                  refine im_ld (q := 138) (i := 1) D246_137 rfl rfl rfl ?_
                  refine im_ld (q := 139) (i := 0) D246_138 rfl rfl rfl ?_
                  refine im_gfR (q := 142) (b := 2057) D246_139 (im_fl cn_246 fl_8_26) sf_1793 rfl rfl tR_8_4 rfl ?_
                  refine im_ld (q := 143) (i := 2) D246_142 rfl rfl rfl ?_
                  refine im_rng (j := p2) sf_2057 hg4.1 hg4.2 (fun hr290 => ?_)
                  refine im_lald (q := 144) D246_143 sf_2057 hg4.1 hg4.2 (by decide) rfl ?_
                  refine im_callV (q := 147) (kd := 1) (y := 187) (n := 1) (ci := 10) (a := 7) (vs := [.ref 7, vL (M173 2057 p2)]) (r := []) (L2 := [some (.ref 7), some (vL (M173 2057 p2)), none]) D246_144 (im_cal cn_246 cl_8_194) (Or.inl rfl) rfl sf_7 rfl rfl rfl rfl hd ⟨rfl, rfl, trivial⟩ ?_
                  refine hP.mono ?_
                  rintro _ e292 M291 ⟨rfl, rfl, hP⟩
                  refine im_bkN ?_
                  refine im_iinc (q := 150) (i := 2) (L' := [some (.ref 1793), some (.ref 7), some (vI (p2 + 1)), some (vI (M 1796 p2))]) D246_147 rfl (Nat.le_of_ble_eq_true rfl) rfl ?_
                  refine im_goto (q := 153) (t := 2) D246_150 rfl ?_
                  exact hP.wk ⟨rfl, rfl, rfl, trivial⟩
                · replace hP := hP.2 hc289
                  refine im_ld (q := 131) (i := 1) D246_130 rfl rfl rfl ?_
                  refine im_ldc2 (q := 134) (n := 24948) D246_131 rfl ?_
                  refine im_callV (q := 137) (kd := 1) (y := 183) (n := 1) (ci := 10) (a := 7) (vs := [.ref 7, vL 24948]) (r := []) (L2 := [some (.ref 7), some (vL 24948), none]) D246_134 (im_cal cn_246 cl_8_177) (Or.inl rfl) rfl sf_7 rfl rfl rfl rfl hd ⟨rfl, rfl, trivial⟩ ?_
                  refine hP.mono ?_
                  rintro _ e295 M294 ⟨rfl, rfl, hP⟩
                  refine im_bkN ?_
                  refine im_ld (q := 138) (i := 1) D246_137 rfl rfl rfl ?_
                  refine im_ld (q := 139) (i := 0) D246_138 rfl rfl rfl ?_
                  refine im_gfR (q := 142) (b := 2057) D246_139 (im_fl cn_246 fl_8_26) sf_1793 rfl rfl tR_8_4 rfl ?_
                  refine im_ld (q := 143) (i := 2) D246_142 rfl rfl rfl ?_
                  refine im_rng (j := p2) sf_2057 hg4.1 hg4.2 (fun hr297 => ?_)
                  refine im_lald (q := 144) D246_143 sf_2057 hg4.1 hg4.2 (by decide) rfl ?_
                  refine im_callV (q := 147) (kd := 1) (y := 187) (n := 1) (ci := 10) (a := 7) (vs := [.ref 7, vL (M294 2057 p2)]) (r := []) (L2 := [some (.ref 7), some (vL (M294 2057 p2)), none]) D246_144 (im_cal cn_246 cl_8_194) (Or.inl rfl) rfl sf_7 rfl rfl rfl rfl hd ⟨rfl, rfl, trivial⟩ ?_
                  refine hP.mono ?_
                  rintro _ e299 M298 ⟨rfl, rfl, hP⟩
                  refine im_bkN ?_
                  refine im_iinc (q := 150) (i := 2) (L' := [some (.ref 1793), some (.ref 7), some (vI (p2 + 1)), some (vI (M 1796 p2))]) D246_147 rfl (Nat.le_of_ble_eq_true rfl) rfl ?_
                  refine im_goto (q := 153) (t := 2) D246_150 rfl ?_
                  exact hP.wk ⟨rfl, rfl, rfl, trivial⟩
              · exact (kJ269  (Or.inr ⟨hc266, (Decidable.not_not.mp hc267)⟩)).wk ⟨rfl, rfl, rfl, rfl, trivial⟩
          · replace hP := hP.2 (Decidable.not_not.mp hc264)
            refine im_ld (q := 88) (i := 1) D246_87 rfl rfl rfl ?_
            refine im_ld (q := 89) (i := 0) D246_88 rfl rfl rfl ?_
            refine im_gfR (q := 92) (b := 1795) D246_89 (im_fl cn_246 fl_8_22) sf_1793 rfl rfl tR_8_3 rfl ?_
            refine im_gfR (q := 95) (b := 1799) D246_92 (im_fl cn_246 fl_8_188) sf_1795 rfl rfl tR_7_3 rfl ?_
            refine im_ld (q := 96) (i := 2) D246_95 rfl rfl rfl ?_
            refine im_rng (j := p2) sf_1799 hg4.1 hg4.2 (fun hr265 => ?_)
            refine im_lald (q := 97) D246_96 sf_1799 hg4.1 hg4.2 (by decide) rfl ?_
            refine im_callV (q := 100) (kd := 1) (y := 183) (n := 1) (ci := 10) (a := 7) (vs := [.ref 7, vL (M173 1799 p2)]) (r := []) (L2 := [some (.ref 7), some (vL (M173 1799 p2)), none]) D246_97 (im_cal cn_246 cl_8_177) (Or.inl rfl) rfl sf_7 rfl rfl rfl rfl hd ⟨rfl, rfl, trivial⟩ ?_
            refine hP.mono ?_
            rintro _ e302 M301 ⟨rfl, rfl, hP⟩
            refine im_bkN ?_
            refine im_ld (q := 101) (i := 3) D246_100 rfl rfl rfl ?_
            refine im_bipush (q := 103) D246_101 rfl ?_
            obtain ⟨hP, hJ306⟩ := hP
            have kJ307 : ((((M 1796 p2) = 28)) ∨ ((¬ (M 1796 p2) = 28) ∧ ((M 1796 p2) = 29))) → im_T g d 246 112 [some (.ref 1793), some (.ref 7), some (vI p2), some (vI (M 1796 p2))] [] e M301 K := by
              intro  hx308
              have hP := hJ306  hx308
              refine im_ld (q := 113) (i := 1) D246_112 rfl rfl rfl ?_
              refine im_ld (q := 114) (i := 0) D246_113 rfl rfl rfl ?_
              refine im_gfR (q := 117) (b := 1795) D246_114 (im_fl cn_246 fl_8_22) sf_1793 rfl rfl tR_8_3 rfl ?_
              refine im_gfR (q := 120) (b := 1800) D246_117 (im_fl cn_246 fl_8_148) sf_1795 rfl rfl tR_7_4 rfl ?_
              refine im_ld (q := 121) (i := 2) D246_120 rfl rfl rfl ?_
              obtain ⟨b309, hb310, hP⟩ := hP
              obtain ⟨hb311, hP⟩ := hP
              refine im_aald (q := 122) D246_121 sf_1800 (Or.inl rfl) hg4.1 hg4.2 (by decide) hb310 ?_
              refine im_callV (q := 125) (kd := 1) (y := 177) (n := 1) (ci := 10) (a := 7) (vs := [.ref 7, .ref b309]) (r := []) (L2 := [some (.ref 7), some (.ref b309), none, none, none, none]) D246_122 (im_cal cn_246 cl_8_189) (Or.inl rfl) rfl sf_7 rfl rfl rfl rfl hd ⟨rfl, rfl, trivial⟩ ?_
              refine hP.mono ?_
              rintro _ e313 M312 ⟨rfl, rfl, hP⟩
              refine im_bkN ?_
              refine im_ld (q := 126) (i := 3) D246_125 rfl rfl rfl ?_
              refine im_iconst (q := 127) D246_126 ?_
              refine im_icmp (q := 130) (t := 137) D246_127 rfl hr5 (by decide) (fun hc315 => ?_) (fun hc315 => ?_)
              · replace hP := hP.1 hc315
                refine im_ld (q := 138) (i := 1) D246_137 rfl rfl rfl ?_
                refine im_ld (q := 139) (i := 0) D246_138 rfl rfl rfl ?_
                refine im_gfR (q := 142) (b := 2057) D246_139 (im_fl cn_246 fl_8_26) sf_1793 rfl rfl tR_8_4 rfl ?_
                refine im_ld (q := 143) (i := 2) D246_142 rfl rfl rfl ?_
                refine im_rng (j := p2) sf_2057 hg4.1 hg4.2 (fun hr316 => ?_)
                refine im_lald (q := 144) D246_143 sf_2057 hg4.1 hg4.2 (by decide) rfl ?_
                refine im_callV (q := 147) (kd := 1) (y := 187) (n := 1) (ci := 10) (a := 7) (vs := [.ref 7, vL (M312 2057 p2)]) (r := []) (L2 := [some (.ref 7), some (vL (M312 2057 p2)), none]) D246_144 (im_cal cn_246 cl_8_194) (Or.inl rfl) rfl sf_7 rfl rfl rfl rfl hd ⟨rfl, rfl, trivial⟩ ?_
                refine hP.mono ?_
                rintro _ e318 M317 ⟨rfl, rfl, hP⟩
                refine im_bkN ?_
                refine im_iinc (q := 150) (i := 2) (L' := [some (.ref 1793), some (.ref 7), some (vI (p2 + 1)), some (vI (M 1796 p2))]) D246_147 rfl (Nat.le_of_ble_eq_true rfl) rfl ?_
                refine im_goto (q := 153) (t := 2) D246_150 rfl ?_
                exact hP.wk ⟨rfl, rfl, rfl, trivial⟩
              · replace hP := hP.2 hc315
                refine im_ld (q := 131) (i := 1) D246_130 rfl rfl rfl ?_
                refine im_ldc2 (q := 134) (n := 24948) D246_131 rfl ?_
                refine im_callV (q := 137) (kd := 1) (y := 183) (n := 1) (ci := 10) (a := 7) (vs := [.ref 7, vL 24948]) (r := []) (L2 := [some (.ref 7), some (vL 24948), none]) D246_134 (im_cal cn_246 cl_8_177) (Or.inl rfl) rfl sf_7 rfl rfl rfl rfl hd ⟨rfl, rfl, trivial⟩ ?_
                refine hP.mono ?_
                rintro _ e321 M320 ⟨rfl, rfl, hP⟩
                refine im_bkN ?_
                refine im_ld (q := 138) (i := 1) D246_137 rfl rfl rfl ?_
                refine im_ld (q := 139) (i := 0) D246_138 rfl rfl rfl ?_
                refine im_gfR (q := 142) (b := 2057) D246_139 (im_fl cn_246 fl_8_26) sf_1793 rfl rfl tR_8_4 rfl ?_
                refine im_ld (q := 143) (i := 2) D246_142 rfl rfl rfl ?_
                refine im_rng (j := p2) sf_2057 hg4.1 hg4.2 (fun hr323 => ?_)
                refine im_lald (q := 144) D246_143 sf_2057 hg4.1 hg4.2 (by decide) rfl ?_
                refine im_callV (q := 147) (kd := 1) (y := 187) (n := 1) (ci := 10) (a := 7) (vs := [.ref 7, vL (M320 2057 p2)]) (r := []) (L2 := [some (.ref 7), some (vL (M320 2057 p2)), none]) D246_144 (im_cal cn_246 cl_8_194) (Or.inl rfl) rfl sf_7 rfl rfl rfl rfl hd ⟨rfl, rfl, trivial⟩ ?_
                refine hP.mono ?_
                rintro _ e325 M324 ⟨rfl, rfl, hP⟩
                refine im_bkN ?_
                refine im_iinc (q := 150) (i := 2) (L' := [some (.ref 1793), some (.ref 7), some (vI (p2 + 1)), some (vI (M 1796 p2))]) D246_147 rfl (Nat.le_of_ble_eq_true rfl) rfl ?_
                refine im_goto (q := 153) (t := 2) D246_150 rfl ?_
                exact hP.wk ⟨rfl, rfl, rfl, trivial⟩
            refine im_icmp (q := 106) (t := 112) D246_103 rfl hr5 (by decide) (fun hc304 => ?_) (fun hc304 => ?_)
            · exact (kJ307  (Or.inl hc304)).wk ⟨rfl, rfl, rfl, rfl, trivial⟩
            · replace hP := hP hc304
              refine im_ld (q := 107) (i := 3) D246_106 rfl rfl rfl ?_
              refine im_bipush (q := 109) D246_107 rfl ?_
              refine im_icmp (q := 112) (t := 125) D246_109 rfl hr5 (by decide) (fun hc305 => ?_) (fun hc305 => ?_)
              · replace hP := hP hc305
                refine im_ld (q := 126) (i := 3) D246_125 rfl rfl rfl ?_
                refine im_iconst (q := 127) D246_126 ?_
                refine im_icmp (q := 130) (t := 137) D246_127 rfl hr5 (by decide) (fun hc327 => ?_) (fun hc327 => ?_)
                · replace hP := hP.1 hc327
                  refine im_ld (q := 138) (i := 1) D246_137 rfl rfl rfl ?_
                  refine im_ld (q := 139) (i := 0) D246_138 rfl rfl rfl ?_
                  refine im_gfR (q := 142) (b := 2057) D246_139 (im_fl cn_246 fl_8_26) sf_1793 rfl rfl tR_8_4 rfl ?_
                  refine im_ld (q := 143) (i := 2) D246_142 rfl rfl rfl ?_
                  refine im_rng (j := p2) sf_2057 hg4.1 hg4.2 (fun hr328 => ?_)
                  refine im_lald (q := 144) D246_143 sf_2057 hg4.1 hg4.2 (by decide) rfl ?_
                  refine im_callV (q := 147) (kd := 1) (y := 187) (n := 1) (ci := 10) (a := 7) (vs := [.ref 7, vL (M301 2057 p2)]) (r := []) (L2 := [some (.ref 7), some (vL (M301 2057 p2)), none]) D246_144 (im_cal cn_246 cl_8_194) (Or.inl rfl) rfl sf_7 rfl rfl rfl rfl hd ⟨rfl, rfl, trivial⟩ ?_
                  refine hP.mono ?_
                  rintro _ e330 M329 ⟨rfl, rfl, hP⟩
                  refine im_bkN ?_
                  refine im_iinc (q := 150) (i := 2) (L' := [some (.ref 1793), some (.ref 7), some (vI (p2 + 1)), some (vI (M 1796 p2))]) D246_147 rfl (Nat.le_of_ble_eq_true rfl) rfl ?_
                  refine im_goto (q := 153) (t := 2) D246_150 rfl ?_
                  exact hP.wk ⟨rfl, rfl, rfl, trivial⟩
                · replace hP := hP.2 hc327
                  refine im_ld (q := 131) (i := 1) D246_130 rfl rfl rfl ?_
                  refine im_ldc2 (q := 134) (n := 24948) D246_131 rfl ?_
                  refine im_callV (q := 137) (kd := 1) (y := 183) (n := 1) (ci := 10) (a := 7) (vs := [.ref 7, vL 24948]) (r := []) (L2 := [some (.ref 7), some (vL 24948), none]) D246_134 (im_cal cn_246 cl_8_177) (Or.inl rfl) rfl sf_7 rfl rfl rfl rfl hd ⟨rfl, rfl, trivial⟩ ?_
                  refine hP.mono ?_
                  rintro _ e333 M332 ⟨rfl, rfl, hP⟩
                  refine im_bkN ?_
                  refine im_ld (q := 138) (i := 1) D246_137 rfl rfl rfl ?_
                  refine im_ld (q := 139) (i := 0) D246_138 rfl rfl rfl ?_
                  refine im_gfR (q := 142) (b := 2057) D246_139 (im_fl cn_246 fl_8_26) sf_1793 rfl rfl tR_8_4 rfl ?_
                  refine im_ld (q := 143) (i := 2) D246_142 rfl rfl rfl ?_
                  refine im_rng (j := p2) sf_2057 hg4.1 hg4.2 (fun hr335 => ?_)
                  refine im_lald (q := 144) D246_143 sf_2057 hg4.1 hg4.2 (by decide) rfl ?_
                  refine im_callV (q := 147) (kd := 1) (y := 187) (n := 1) (ci := 10) (a := 7) (vs := [.ref 7, vL (M332 2057 p2)]) (r := []) (L2 := [some (.ref 7), some (vL (M332 2057 p2)), none]) D246_144 (im_cal cn_246 cl_8_194) (Or.inl rfl) rfl sf_7 rfl rfl rfl rfl hd ⟨rfl, rfl, trivial⟩ ?_
                  refine hP.mono ?_
                  rintro _ e337 M336 ⟨rfl, rfl, hP⟩
                  refine im_bkN ?_
                  refine im_iinc (q := 150) (i := 2) (L' := [some (.ref 1793), some (.ref 7), some (vI (p2 + 1)), some (vI (M 1796 p2))]) D246_147 rfl (Nat.le_of_ble_eq_true rfl) rfl ?_
                  refine im_goto (q := 153) (t := 2) D246_150 rfl ?_
                  exact hP.wk ⟨rfl, rfl, rfl, trivial⟩
              · exact (kJ307  (Or.inr ⟨hc304, (Decidable.not_not.mp hc305)⟩)).wk ⟨rfl, rfl, rfl, rfl, trivial⟩
        · exact (kJ179  (Or.inr ⟨hc176, (Decidable.not_not.mp hc177)⟩)).wk ⟨rfl, rfl, rfl, rfl, trivial⟩
set_option maxRecDepth 20000 in
set_option maxHeartbeats 4000000 in
theorem k_P_tries_0 {g : im_g} {d : Nat} {e : im_E} {M : im_M} {K : im_K} (hd : 1 ≤ d) (hP : im_T g (d - 1) 152 0 [some (.ref 0)] [] e M (im_rx (im_r0 (fun  e_ M1 => e = e_ ∧ K (.inl (some (vI (M1 1793 9)))) e M1)) (fun E_ e_ M_ => K (.inr E_) e_ M_))) : im_T g d 248 0 [some (.ref 0)] [] e M K := by
  refine im_ld (q := 1) (i := 0) D248_0 rfl rfl rfl ?_
  refine im_callV (q := 4) (kd := 1) (y := 152) (n := 0) (ci := 11) (a := 0) (vs := [.ref 0]) (r := []) (L2 := [some (.ref 0)]) D248_1 (im_cal cn_248 cl_11_124) (Or.inl rfl) rfl sf_0 rfl rfl rfl rfl hd ⟨rfl, trivial⟩ ?_
  refine hP.mono ?_
  rintro _ e5 M1 (⟨rfl, rfl, hP⟩ | ⟨E_, rfl, hX⟩)
  · refine im_bkN ?_
    refine im_ld (q := 5) (i := 0) D248_4 rfl rfl rfl ?_
    refine im_gfR (q := 8) (b := 1793) D248_5 (im_fl cn_248 fl_11_106) sf_0 rfl rfl tR_11_16 rfl ?_
    refine im_rng (j := 9) sf_1793 (by decide) (by decide) (fun hr4 => ?_)
    refine im_gfI (q := 11) D248_8 (im_fl cn_248 fl_11_402) sf_1793 rfl rfl tI_8_9 rfl ?_
    exact im_iret (q := 12) D248_11 rfl hP
  · exact im_bkE rfl hX
set_option maxRecDepth 20000 in
set_option maxHeartbeats 4000000 in
theorem k_P_fuse_0 {g : im_g} {d : Nat} {e : im_E} {M : im_M} {K : im_K} {p1 : Int} (hd : 1 ≤ d) (hP : im_T g (d - 1) 152 0 [some (.ref 0)] [] e M (im_rx (im_r0 (fun  e_ M1 => e = e_ ∧ (im_i32 p1) ∧ ((∀ x6 : Int, (((p1 < (-1)) ∧ x6 = 0) ∨ (((-1) ≤ p1) ∧ x6 = 1)) → im_T g (d - 1) 168 0 [some (vI x6)] [] e M1 (im_rx (im_r0 (fun  e_ M10 => e = e_ ∧ K (.inl none) e (im_u M10 2068 3 p1))) (fun E_ e_ M_ => K (.inr E_) e_ M_)))))) (fun E_ e_ M_ => K (.inr E_) e_ M_))) : im_T g d 250 0 [some (.ref 0), some (vI p1)] [] e M K := by
  refine im_ld (q := 1) (i := 0) D250_0 rfl rfl rfl ?_
  refine im_callV (q := 4) (kd := 1) (y := 152) (n := 0) (ci := 11) (a := 0) (vs := [.ref 0]) (r := []) (L2 := [some (.ref 0)]) D250_1 (im_cal cn_250 cl_11_124) (Or.inl rfl) rfl sf_0 rfl rfl rfl rfl hd ⟨rfl, trivial⟩ ?_
  refine hP.mono ?_
  rintro _ e14 M1 (⟨rfl, rfl, hP⟩ | ⟨E_, rfl, hX⟩)
  · refine im_bkN ?_
    refine im_ld (q := 5) (i := 1) D250_4 rfl rfl rfl ?_
    refine im_iconst (q := 6) D250_5 ?_
    obtain ⟨hg4, hP⟩ := hP
    have hJ7 := hP
    have kJ8 : ∀ x6 : Int, (((p1 < (-1)) ∧ x6 = 0) ∨ (((-1) ≤ p1) ∧ x6 = 1)) → im_T g d 250 14 [some (.ref 0), some (vI p1)] [vI x6] e M1 K := by
      intro x6 hx9
      have hP := hJ7 x6 hx9
      refine im_callS (q := 17) (kd := 0) (y := 168) (n := 1) (z := 11) (vs := [vI x6]) (r := []) (L2 := [some (vI x6)]) D250_14 rfl (im_cal cn_250 cl_11_195) (Or.inl rfl) rfl rfl rfl rfl rfl hd ⟨rfl, trivial⟩ ?_
      refine hP.mono ?_
      rintro _ e13 M10 (⟨rfl, rfl, hP⟩ | ⟨E_, rfl, hX⟩)
      · refine im_bkN ?_
        refine im_ld (q := 18) (i := 0) D250_17 rfl rfl rfl ?_
        refine im_gfR (q := 21) (b := 2068) D250_18 (im_fl cn_250 fl_11_113) sf_0 rfl rfl tR_11_17 rfl ?_
        refine im_ld (q := 22) (i := 1) D250_21 rfl rfl rfl ?_
        refine im_pfI (q := 25) D250_22 (im_fl cn_250 fl_11_405) sf_2068 rfl rfl ti_1_3 hg4 ?_
        exact im_vret (q := 26) D250_25 rfl hP
      · exact im_bkE rfl hX
    refine im_icmp (q := 9) (t := 13) D250_6 rfl hg4 (by decide) (fun hc5 => ?_) (fun hc5 => ?_)
    · refine im_iconst (q := 14) D250_13 ?_
      exact (kJ8 (0) (Or.inl ⟨hc5, rfl⟩)).wk ⟨rfl, rfl, trivial⟩
    · refine im_iconst (q := 10) D250_9 ?_
      refine im_goto (q := 13) (t := 14) D250_10 rfl ?_
      exact (kJ8 (1) (Or.inr ⟨(Int.not_lt.mp hc5), rfl⟩)).wk ⟨rfl, rfl, trivial⟩
  · exact im_bkE rfl hX
set_option maxRecDepth 20000 in
set_option maxHeartbeats 4000000 in
theorem k_P_peek_0 {g : im_g} {d : Nat} {e : im_E} {M : im_M} {K : im_K} {p1 : Int} (hd : 1 ≤ d) (hP : im_T g (d - 1) 169 0 [some (vI p1), some (vI 16384)] [] e M (im_rx (im_r0 (fun  e_ M1 => e = e_ ∧ (0 ≤ p1 ∧ p1 < 16384) ∧ K (.inl (some (vI (xiand (M1 2069 p1) 255)))) e M1)) (fun E_ e_ M_ => K (.inr E_) e_ M_))) : im_T g d 252 0 [some (.ref 0), some (vI p1)] [] e M K := by
  refine im_ld (q := 1) (i := 1) D252_0 rfl rfl rfl ?_
  refine im_sipush (q := 4) D252_1 rfl ?_
  refine im_callS (q := 7) (kd := 0) (y := 169) (n := 2) (z := 11) (vs := [vI p1, vI 16384]) (r := []) (L2 := [some (vI p1), some (vI 16384)]) D252_4 rfl (im_cal cn_252 cl_11_183) (Or.inl rfl) rfl rfl rfl rfl rfl hd ⟨rfl, rfl, trivial⟩ ?_
  refine hP.mono ?_
  rintro _ e6 M1 (⟨rfl, rfl, hP⟩ | ⟨E_, rfl, hX⟩)
  · refine im_bkN ?_
    refine im_ld (q := 8) (i := 0) D252_7 rfl rfl rfl ?_
    refine im_gfR (q := 11) (b := 2068) D252_8 (im_fl cn_252 fl_11_113) sf_0 rfl rfl tR_11_17 rfl ?_
    refine im_gfR (q := 14) (b := 2069) D252_11 (im_fl cn_252 fl_11_408) sf_2068 rfl rfl tR_1_0 rfl ?_
    refine im_ld (q := 15) (i := 1) D252_14 rfl rfl rfl ?_
    obtain ⟨hg4, hP⟩ := hP
    refine im_rng (j := p1) sf_2069 hg4.1 hg4.2 (fun hr5 => ?_)
    refine im_bald (q := 16) D252_15 sf_2069 (Or.inl rfl) hg4.1 hg4.2 (by decide) rfl ?_
    refine im_sipush (q := 19) D252_16 rfl ?_
    refine im_iand (q := 20) D252_19 ?_
    exact im_iret (q := 21) D252_20 rfl hP
  · exact im_bkE rfl hX
set_option maxRecDepth 20000 in
set_option maxHeartbeats 4000000 in
theorem k_P_poke_0 {g : im_g} {d : Nat} {e : im_E} {M : im_M} {K : im_K} {p1 p2 : Int} (hd : 1 ≤ d) (hP : im_T g (d - 1) 169 0 [some (vI p1), some (vI 16384)] [] e M (im_rx (im_r0 (fun  e_ M1 => e = e_ ∧ (im_i32 p2) ∧ ((((0 ≤ p2 → ((p2 ≤ 255 → im_T g (d - 1) 168 0 [some (vI 1)] [] e M1 (im_rx (im_r0 (fun  e_ M21 => e = e_ ∧ im_T g (d - 1) 167 0 [some (vI (M21 2068 4))] [] e M21 (im_rx (im_r0 (fun  e_ M25 => e = e_ ∧ (0 ≤ p1 ∧ p1 < 16384) ∧ K (.inl (some (vI (xiand (M25 2069 p1) 255)))) e (im_u M25 2069 p1 ((p2.bmod 256).bmod 256)))) (fun E_ e_ M_ => K (.inr E_) e_ M_)))) (fun E_ e_ M_ => K (.inr E_) e_ M_))))))) ∧ ((((p2 < 0)) ∨ ((0 ≤ p2) ∧ (255 < p2))) → im_T g (d - 1) 168 0 [some (vI 0)] [] e M1 (im_rx (im_r0 (fun  e_ M10 => e = e_ ∧ im_T g (d - 1) 167 0 [some (vI (M10 2068 4))] [] e M10 (im_rx (im_r0 (fun  e_ M14 => e = e_ ∧ (0 ≤ p1 ∧ p1 < 16384) ∧ K (.inl (some (vI (xiand (M14 2069 p1) 255)))) e (im_u M14 2069 p1 ((p2.bmod 256).bmod 256)))) (fun E_ e_ M_ => K (.inr E_) e_ M_)))) (fun E_ e_ M_ => K (.inr E_) e_ M_)))))) (fun E_ e_ M_ => K (.inr E_) e_ M_))) : im_T g d 254 0 [some (.ref 0), some (vI p1), some (vI p2), none] [] e M K := by
  refine im_ld (q := 1) (i := 1) D254_0 rfl rfl rfl ?_
  refine im_sipush (q := 4) D254_1 rfl ?_
  refine im_callS (q := 7) (kd := 0) (y := 169) (n := 2) (z := 11) (vs := [vI p1, vI 16384]) (r := []) (L2 := [some (vI p1), some (vI 16384)]) D254_4 rfl (im_cal cn_254 cl_11_183) (Or.inl rfl) rfl rfl rfl rfl rfl hd ⟨rfl, rfl, trivial⟩ ?_
  refine hP.mono ?_
  rintro _ e32 M1 (⟨rfl, rfl, hP⟩ | ⟨E_, rfl, hX⟩)
  · refine im_bkN ?_
    refine im_ld (q := 8) (i := 2) D254_7 rfl rfl rfl ?_
    obtain ⟨hg4, hP⟩ := hP
    obtain ⟨hP, hJ7⟩ := hP
    have kJ8 : (((p2 < 0)) ∨ ((0 ≤ p2) ∧ (255 < p2))) → im_T g d 254 22 [some (.ref 0), some (vI p1), some (vI p2), none] [] e M1 K := by
      intro  hx9
      have hP := hJ7  hx9
      refine im_iconst (q := 23) D254_22 ?_
      refine im_callS (q := 26) (kd := 0) (y := 168) (n := 1) (z := 11) (vs := [vI 0]) (r := []) (L2 := [some (vI 0)]) D254_23 rfl (im_cal cn_254 cl_11_195) (Or.inl rfl) rfl rfl rfl rfl rfl hd ⟨rfl, trivial⟩ ?_
      refine hP.mono ?_
      rintro _ e20 M10 (⟨rfl, rfl, hP⟩ | ⟨E_, rfl, hX⟩)
      · refine im_bkN ?_
        refine im_ld (q := 27) (i := 0) D254_26 rfl rfl rfl ?_
        refine im_gfR (q := 30) (b := 2068) D254_27 (im_fl cn_254 fl_11_113) sf_0 rfl rfl tR_11_17 rfl ?_
        refine im_rng (j := 4) sf_2068 (by decide) (by decide) (fun hr13 => ?_)
        refine im_gfI (q := 33) D254_30 (im_fl cn_254 fl_11_411) sf_2068 rfl rfl tI_1_4 rfl ?_
        refine im_callS (q := 36) (kd := 0) (y := 167) (n := 1) (z := 11) (vs := [vI (M10 2068 4)]) (r := []) (L2 := [some (vI (M10 2068 4))]) D254_33 rfl (im_cal cn_254 cl_11_187) (Or.inl rfl) rfl rfl rfl rfl rfl hd ⟨rfl, trivial⟩ ?_
        refine hP.mono ?_
        rintro _ e19 M14 (⟨rfl, rfl, hP⟩ | ⟨E_, rfl, hX⟩)
        · refine im_bkN ?_
          refine im_ld (q := 37) (i := 0) D254_36 rfl rfl rfl ?_
          refine im_gfR (q := 40) (b := 2068) D254_37 (im_fl cn_254 fl_11_113) sf_0 rfl rfl tR_11_17 rfl ?_
          refine im_gfR (q := 43) (b := 2069) D254_40 (im_fl cn_254 fl_11_408) sf_2068 rfl rfl tR_1_0 rfl ?_
          refine im_ld (q := 44) (i := 1) D254_43 rfl rfl rfl ?_
          obtain ⟨hg17, hP⟩ := hP
          refine im_rng (j := p1) sf_2069 hg17.1 hg17.2 (fun hr18 => ?_)
          refine im_bald (q := 45) D254_44 sf_2069 (Or.inl rfl) hg17.1 hg17.2 (by decide) rfl ?_
          refine im_sipush (q := 48) D254_45 rfl ?_
          refine im_iand (q := 49) D254_48 ?_
          refine im_st1 (q := 50) (i := 3) (L' := [some (.ref 0), some (vI p1), some (vI p2), some (vI (xiand (M14 2069 p1) 255))]) D254_49 (Or.inl ⟨_, rfl, rfl⟩) (Nat.le_of_ble_eq_true rfl) rfl ?_
          refine im_ld (q := 51) (i := 0) D254_50 rfl rfl rfl ?_
          refine im_gfR (q := 54) (b := 2068) D254_51 (im_fl cn_254 fl_11_113) sf_0 rfl rfl tR_11_17 rfl ?_
          refine im_gfR (q := 57) (b := 2069) D254_54 (im_fl cn_254 fl_11_408) sf_2068 rfl rfl tR_1_0 rfl ?_
          refine im_ld (q := 58) (i := 1) D254_57 rfl rfl rfl ?_
          refine im_ld (q := 59) (i := 2) D254_58 rfl rfl rfl ?_
          refine im_i2b (q := 60) D254_59 ?_
          refine im_bast (q := 61) D254_60 sf_2069 hg17.1 hg17.2 (by decide) ?_
          refine im_ld (q := 62) (i := 3) D254_61 rfl rfl rfl ?_
          exact im_iret (q := 63) D254_62 rfl hP
        · exact im_bkE rfl hX
      · exact im_bkE rfl hX
    refine im_ifc (q := 11) (t := 22) D254_8 rfl hg4 (fun hc5 => ?_) (fun hc5 => ?_)
    · exact (kJ8  (Or.inl hc5)).wk ⟨rfl, rfl, rfl, trivial⟩
    · replace hP := hP (Int.not_lt.mp hc5)
      refine im_ld (q := 12) (i := 2) D254_11 rfl rfl rfl ?_
      refine im_sipush (q := 15) D254_12 rfl ?_
      refine im_icmp (q := 18) (t := 22) D254_15 rfl hg4 (by decide) (fun hc6 => ?_) (fun hc6 => ?_)
      · exact (kJ8  (Or.inr ⟨(Int.not_lt.mp hc5), hc6⟩)).wk ⟨rfl, rfl, rfl, trivial⟩
      · replace hP := hP (Int.not_lt.mp hc6)
        refine im_iconst (q := 19) D254_18 ?_
        refine im_goto (q := 22) (t := 23) D254_19 rfl ?_
        refine im_callS (q := 26) (kd := 0) (y := 168) (n := 1) (z := 11) (vs := [vI 1]) (r := []) (L2 := [some (vI 1)]) D254_23 rfl (im_cal cn_254 cl_11_195) (Or.inl rfl) rfl rfl rfl rfl rfl hd ⟨rfl, trivial⟩ ?_
        refine hP.mono ?_
        rintro _ e31 M21 (⟨rfl, rfl, hP⟩ | ⟨E_, rfl, hX⟩)
        · refine im_bkN ?_
          refine im_ld (q := 27) (i := 0) D254_26 rfl rfl rfl ?_
          refine im_gfR (q := 30) (b := 2068) D254_27 (im_fl cn_254 fl_11_113) sf_0 rfl rfl tR_11_17 rfl ?_
          refine im_rng (j := 4) sf_2068 (by decide) (by decide) (fun hr24 => ?_)
          refine im_gfI (q := 33) D254_30 (im_fl cn_254 fl_11_411) sf_2068 rfl rfl tI_1_4 rfl ?_
          refine im_callS (q := 36) (kd := 0) (y := 167) (n := 1) (z := 11) (vs := [vI (M21 2068 4)]) (r := []) (L2 := [some (vI (M21 2068 4))]) D254_33 rfl (im_cal cn_254 cl_11_187) (Or.inl rfl) rfl rfl rfl rfl rfl hd ⟨rfl, trivial⟩ ?_
          refine hP.mono ?_
          rintro _ e30 M25 (⟨rfl, rfl, hP⟩ | ⟨E_, rfl, hX⟩)
          · refine im_bkN ?_
            refine im_ld (q := 37) (i := 0) D254_36 rfl rfl rfl ?_
            refine im_gfR (q := 40) (b := 2068) D254_37 (im_fl cn_254 fl_11_113) sf_0 rfl rfl tR_11_17 rfl ?_
            refine im_gfR (q := 43) (b := 2069) D254_40 (im_fl cn_254 fl_11_408) sf_2068 rfl rfl tR_1_0 rfl ?_
            refine im_ld (q := 44) (i := 1) D254_43 rfl rfl rfl ?_
            obtain ⟨hg28, hP⟩ := hP
            refine im_rng (j := p1) sf_2069 hg28.1 hg28.2 (fun hr29 => ?_)
            refine im_bald (q := 45) D254_44 sf_2069 (Or.inl rfl) hg28.1 hg28.2 (by decide) rfl ?_
            refine im_sipush (q := 48) D254_45 rfl ?_
            refine im_iand (q := 49) D254_48 ?_
            refine im_st1 (q := 50) (i := 3) (L' := [some (.ref 0), some (vI p1), some (vI p2), some (vI (xiand (M25 2069 p1) 255))]) D254_49 (Or.inl ⟨_, rfl, rfl⟩) (Nat.le_of_ble_eq_true rfl) rfl ?_
            refine im_ld (q := 51) (i := 0) D254_50 rfl rfl rfl ?_
            refine im_gfR (q := 54) (b := 2068) D254_51 (im_fl cn_254 fl_11_113) sf_0 rfl rfl tR_11_17 rfl ?_
            refine im_gfR (q := 57) (b := 2069) D254_54 (im_fl cn_254 fl_11_408) sf_2068 rfl rfl tR_1_0 rfl ?_
            refine im_ld (q := 58) (i := 1) D254_57 rfl rfl rfl ?_
            refine im_ld (q := 59) (i := 2) D254_58 rfl rfl rfl ?_
            refine im_i2b (q := 60) D254_59 ?_
            refine im_bast (q := 61) D254_60 sf_2069 hg28.1 hg28.2 (by decide) ?_
            refine im_ld (q := 62) (i := 3) D254_61 rfl rfl rfl ?_
            exact im_iret (q := 63) D254_62 rfl hP
          · exact im_bkE rfl hX
        · exact im_bkE rfl hX
  · exact im_bkE rfl hX
set_option maxRecDepth 20000 in
set_option maxHeartbeats 4000000 in
theorem k_P_cut_0 {g : im_g} {d : Nat} {e : im_E} {M : im_M} {K : im_K} (hd : 1 ≤ d) (hP : im_T g (d - 1) 152 0 [some (.ref 0)] [] e M (im_rx (im_r0 (fun  e_ M1 => e = e_ ∧ K (.inl none) e (im_u M1 2068 4 1))) (fun E_ e_ M_ => K (.inr E_) e_ M_))) : im_T g d 256 0 [some (.ref 0)] [] e M K := by
  refine im_ld (q := 1) (i := 0) D256_0 rfl rfl rfl ?_
  refine im_callV (q := 4) (kd := 1) (y := 152) (n := 0) (ci := 11) (a := 0) (vs := [.ref 0]) (r := []) (L2 := [some (.ref 0)]) D256_1 (im_cal cn_256 cl_11_124) (Or.inl rfl) rfl sf_0 rfl rfl rfl rfl hd ⟨rfl, trivial⟩ ?_
  refine hP.mono ?_
  rintro _ e4 M1 (⟨rfl, rfl, hP⟩ | ⟨E_, rfl, hX⟩)
  · refine im_bkN ?_
    refine im_ld (q := 5) (i := 0) D256_4 rfl rfl rfl ?_
    refine im_gfR (q := 8) (b := 2068) D256_5 (im_fl cn_256 fl_11_113) sf_0 rfl rfl tR_11_17 rfl ?_
    refine im_iconst (q := 9) D256_8 ?_
    refine im_pfZ (q := 12) D256_9 (im_fl cn_256 fl_11_411) sf_2068 rfl rfl tz_1_4 (by decide) ?_
    exact im_vret (q := 13) D256_12 rfl hP
  · exact im_bkE rfl hX

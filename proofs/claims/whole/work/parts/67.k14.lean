/-! blocks of the class -/
theorem D246_0 {g : im_g} : im_D g 246 0 (.iconst 0) 1 := im_D.of (by decide +kernel)
theorem D246_1 {g : im_g} : im_D g 246 1 (.istore_n 2) 2 := im_D.of (by decide +kernel)
theorem D246_2 {g : im_g} : im_D g 246 2 (.iload_n 2) 3 := im_D.of (by decide +kernel)
theorem D246_3 {g : im_g} : im_D g 246 3 (.aload_n 0) 4 := im_D.of (by decide +kernel)
theorem D246_4 {g : im_g} : im_D g 246 4 (.getfield 22) 7 := im_D.of (by decide +kernel)
theorem D246_7 {g : im_g} : im_D g 246 7 (.getfield 91) 10 := im_D.of (by decide +kernel)
theorem D246_10 {g : im_g} : im_D g 246 10 (.if_icmp .ge 143) 13 := im_D.of (by decide +kernel)
theorem D246_13 {g : im_g} : im_D g 246 13 (.aload_n 0) 14 := im_D.of (by decide +kernel)
theorem D246_14 {g : im_g} : im_D g 246 14 (.getfield 22) 17 := im_D.of (by decide +kernel)
theorem D246_17 {g : im_g} : im_D g 246 17 (.getfield 81) 20 := im_D.of (by decide +kernel)
theorem D246_20 {g : im_g} : im_D g 246 20 (.iload_n 2) 21 := im_D.of (by decide +kernel)
theorem D246_21 {g : im_g} : im_D g 246 21 (.iaload) 22 := im_D.of (by decide +kernel)
theorem D246_22 {g : im_g} : im_D g 246 22 (.istore_n 3) 23 := im_D.of (by decide +kernel)
theorem D246_23 {g : im_g} : im_D g 246 23 (.iload_n 3) 24 := im_D.of (by decide +kernel)
theorem D246_24 {g : im_g} : im_D g 246 24 (.iconst (-1)) 25 := im_D.of (by decide +kernel)
theorem D246_25 {g : im_g} : im_D g 246 25 (.if_icmp .ne 13) 28 := im_D.of (by decide +kernel)
theorem D246_28 {g : im_g} : im_D g 246 28 (.aload_n 1) 29 := im_D.of (by decide +kernel)
theorem D246_29 {g : im_g} : im_D g 246 29 (.ldc2_w 175) 32 := im_D.of (by decide +kernel)
theorem D246_32 {g : im_g} : im_D g 246 32 (.invokevirtual 177) 35 := im_D.of (by decide +kernel)
theorem D246_35 {g : im_g} : im_D g 246 35 (.goto 8) 38 := im_D.of (by decide +kernel)
theorem D246_38 {g : im_g} : im_D g 246 38 (.aload_n 1) 39 := im_D.of (by decide +kernel)
theorem D246_39 {g : im_g} : im_D g 246 39 (.iload_n 3) 40 := im_D.of (by decide +kernel)
theorem D246_40 {g : im_g} : im_D g 246 40 (.invokevirtual 183) 43 := im_D.of (by decide +kernel)
theorem D246_43 {g : im_g} : im_D g 246 43 (.iload_n 3) 44 := im_D.of (by decide +kernel)
theorem D246_44 {g : im_g} : im_D g 246 44 (.bipush 28) 46 := im_D.of (by decide +kernel)
theorem D246_46 {g : im_g} : im_D g 246 46 (.if_icmp .eq 9) 49 := im_D.of (by decide +kernel)
theorem D246_49 {g : im_g} : im_D g 246 49 (.iload_n 3) 50 := im_D.of (by decide +kernel)
theorem D246_50 {g : im_g} : im_D g 246 50 (.bipush 29) 52 := im_D.of (by decide +kernel)
theorem D246_52 {g : im_g} : im_D g 246 52 (.if_icmp .ne 29) 55 := im_D.of (by decide +kernel)
theorem D246_55 {g : im_g} : im_D g 246 55 (.aload_n 1) 56 := im_D.of (by decide +kernel)
theorem D246_56 {g : im_g} : im_D g 246 56 (.aload_n 0) 57 := im_D.of (by decide +kernel)
theorem D246_57 {g : im_g} : im_D g 246 57 (.getfield 22) 60 := im_D.of (by decide +kernel)
theorem D246_60 {g : im_g} : im_D g 246 60 (.getfield 186) 63 := im_D.of (by decide +kernel)
theorem D246_63 {g : im_g} : im_D g 246 63 (.iload_n 2) 64 := im_D.of (by decide +kernel)
theorem D246_64 {g : im_g} : im_D g 246 64 (.laload) 65 := im_D.of (by decide +kernel)
theorem D246_65 {g : im_g} : im_D g 246 65 (.invokevirtual 177) 68 := im_D.of (by decide +kernel)
theorem D246_68 {g : im_g} : im_D g 246 68 (.aload_n 1) 69 := im_D.of (by decide +kernel)
theorem D246_69 {g : im_g} : im_D g 246 69 (.aload_n 0) 70 := im_D.of (by decide +kernel)
theorem D246_70 {g : im_g} : im_D g 246 70 (.getfield 22) 73 := im_D.of (by decide +kernel)
theorem D246_73 {g : im_g} : im_D g 246 73 (.getfield 187) 76 := im_D.of (by decide +kernel)
theorem D246_76 {g : im_g} : im_D g 246 76 (.iload_n 2) 77 := im_D.of (by decide +kernel)
theorem D246_77 {g : im_g} : im_D g 246 77 (.laload) 78 := im_D.of (by decide +kernel)
theorem D246_78 {g : im_g} : im_D g 246 78 (.invokevirtual 177) 81 := im_D.of (by decide +kernel)
theorem D246_81 {g : im_g} : im_D g 246 81 (.iload_n 3) 82 := im_D.of (by decide +kernel)
theorem D246_82 {g : im_g} : im_D g 246 82 (.bipush 28) 84 := im_D.of (by decide +kernel)
theorem D246_84 {g : im_g} : im_D g 246 84 (.if_icmp .ne 16) 87 := im_D.of (by decide +kernel)
theorem D246_87 {g : im_g} : im_D g 246 87 (.aload_n 1) 88 := im_D.of (by decide +kernel)
theorem D246_88 {g : im_g} : im_D g 246 88 (.aload_n 0) 89 := im_D.of (by decide +kernel)
theorem D246_89 {g : im_g} : im_D g 246 89 (.getfield 22) 92 := im_D.of (by decide +kernel)
theorem D246_92 {g : im_g} : im_D g 246 92 (.getfield 188) 95 := im_D.of (by decide +kernel)
theorem D246_95 {g : im_g} : im_D g 246 95 (.iload_n 2) 96 := im_D.of (by decide +kernel)
theorem D246_96 {g : im_g} : im_D g 246 96 (.laload) 97 := im_D.of (by decide +kernel)
theorem D246_97 {g : im_g} : im_D g 246 97 (.invokevirtual 177) 100 := im_D.of (by decide +kernel)
theorem D246_100 {g : im_g} : im_D g 246 100 (.iload_n 3) 101 := im_D.of (by decide +kernel)
theorem D246_101 {g : im_g} : im_D g 246 101 (.bipush 28) 103 := im_D.of (by decide +kernel)
theorem D246_103 {g : im_g} : im_D g 246 103 (.if_icmp .eq 9) 106 := im_D.of (by decide +kernel)
theorem D246_106 {g : im_g} : im_D g 246 106 (.iload_n 3) 107 := im_D.of (by decide +kernel)
theorem D246_107 {g : im_g} : im_D g 246 107 (.bipush 29) 109 := im_D.of (by decide +kernel)
theorem D246_109 {g : im_g} : im_D g 246 109 (.if_icmp .ne 16) 112 := im_D.of (by decide +kernel)
theorem D246_112 {g : im_g} : im_D g 246 112 (.aload_n 1) 113 := im_D.of (by decide +kernel)
theorem D246_113 {g : im_g} : im_D g 246 113 (.aload_n 0) 114 := im_D.of (by decide +kernel)
theorem D246_114 {g : im_g} : im_D g 246 114 (.getfield 22) 117 := im_D.of (by decide +kernel)
theorem D246_117 {g : im_g} : im_D g 246 117 (.getfield 148) 120 := im_D.of (by decide +kernel)
theorem D246_120 {g : im_g} : im_D g 246 120 (.iload_n 2) 121 := im_D.of (by decide +kernel)
theorem D246_121 {g : im_g} : im_D g 246 121 (.aaload) 122 := im_D.of (by decide +kernel)
theorem D246_122 {g : im_g} : im_D g 246 122 (.invokevirtual 189) 125 := im_D.of (by decide +kernel)
theorem D246_125 {g : im_g} : im_D g 246 125 (.iload_n 3) 126 := im_D.of (by decide +kernel)
theorem D246_126 {g : im_g} : im_D g 246 126 (.iconst (-1)) 127 := im_D.of (by decide +kernel)
theorem D246_127 {g : im_g} : im_D g 246 127 (.if_icmp .eq 10) 130 := im_D.of (by decide +kernel)
theorem D246_130 {g : im_g} : im_D g 246 130 (.aload_n 1) 131 := im_D.of (by decide +kernel)
theorem D246_131 {g : im_g} : im_D g 246 131 (.ldc2_w 192) 134 := im_D.of (by decide +kernel)
theorem D246_134 {g : im_g} : im_D g 246 134 (.invokevirtual 177) 137 := im_D.of (by decide +kernel)
theorem D246_137 {g : im_g} : im_D g 246 137 (.aload_n 1) 138 := im_D.of (by decide +kernel)
theorem D246_138 {g : im_g} : im_D g 246 138 (.aload_n 0) 139 := im_D.of (by decide +kernel)
theorem D246_139 {g : im_g} : im_D g 246 139 (.getfield 26) 142 := im_D.of (by decide +kernel)
theorem D246_142 {g : im_g} : im_D g 246 142 (.iload_n 2) 143 := im_D.of (by decide +kernel)
theorem D246_143 {g : im_g} : im_D g 246 143 (.laload) 144 := im_D.of (by decide +kernel)
theorem D246_144 {g : im_g} : im_D g 246 144 (.invokevirtual 194) 147 := im_D.of (by decide +kernel)
theorem D246_147 {g : im_g} : im_D g 246 147 (.iinc 2 1) 150 := im_D.of (by decide +kernel)
theorem D246_150 {g : im_g} : im_D g 246 150 (.goto (-148)) 153 := im_D.of (by decide +kernel)
theorem D246_153 {g : im_g} : im_D g 246 153 (.return_) 154 := im_D.of (by decide +kernel)
theorem D248_0 {g : im_g} : im_D g 248 0 (.aload_n 0) 1 := im_D.of (by decide +kernel)
theorem D248_1 {g : im_g} : im_D g 248 1 (.invokevirtual 124) 4 := im_D.of (by decide +kernel)
theorem D248_4 {g : im_g} : im_D g 248 4 (.aload_n 0) 5 := im_D.of (by decide +kernel)
theorem D248_5 {g : im_g} : im_D g 248 5 (.getfield 106) 8 := im_D.of (by decide +kernel)
theorem D248_8 {g : im_g} : im_D g 248 8 (.getfield 402) 11 := im_D.of (by decide +kernel)
theorem D248_11 {g : im_g} : im_D g 248 11 (.ireturn) 12 := im_D.of (by decide +kernel)
theorem D250_0 {g : im_g} : im_D g 250 0 (.aload_n 0) 1 := im_D.of (by decide +kernel)
theorem D250_1 {g : im_g} : im_D g 250 1 (.invokevirtual 124) 4 := im_D.of (by decide +kernel)
theorem D250_4 {g : im_g} : im_D g 250 4 (.iload_n 1) 5 := im_D.of (by decide +kernel)
theorem D250_5 {g : im_g} : im_D g 250 5 (.iconst (-1)) 6 := im_D.of (by decide +kernel)
theorem D250_6 {g : im_g} : im_D g 250 6 (.if_icmp .lt 7) 9 := im_D.of (by decide +kernel)
theorem D250_9 {g : im_g} : im_D g 250 9 (.iconst 1) 10 := im_D.of (by decide +kernel)
theorem D250_10 {g : im_g} : im_D g 250 10 (.goto 4) 13 := im_D.of (by decide +kernel)
theorem D250_13 {g : im_g} : im_D g 250 13 (.iconst 0) 14 := im_D.of (by decide +kernel)
theorem D250_14 {g : im_g} : im_D g 250 14 (.invokestatic 195) 17 := im_D.of (by decide +kernel)
theorem D250_17 {g : im_g} : im_D g 250 17 (.aload_n 0) 18 := im_D.of (by decide +kernel)
theorem D250_18 {g : im_g} : im_D g 250 18 (.getfield 113) 21 := im_D.of (by decide +kernel)
theorem D250_21 {g : im_g} : im_D g 250 21 (.iload_n 1) 22 := im_D.of (by decide +kernel)
theorem D250_22 {g : im_g} : im_D g 250 22 (.putfield 405) 25 := im_D.of (by decide +kernel)
theorem D250_25 {g : im_g} : im_D g 250 25 (.return_) 26 := im_D.of (by decide +kernel)
theorem D252_0 {g : im_g} : im_D g 252 0 (.iload_n 1) 1 := im_D.of (by decide +kernel)
theorem D252_1 {g : im_g} : im_D g 252 1 (.sipush 16384) 4 := im_D.of (by decide +kernel)
theorem D252_4 {g : im_g} : im_D g 252 4 (.invokestatic 183) 7 := im_D.of (by decide +kernel)
theorem D252_7 {g : im_g} : im_D g 252 7 (.aload_n 0) 8 := im_D.of (by decide +kernel)
theorem D252_8 {g : im_g} : im_D g 252 8 (.getfield 113) 11 := im_D.of (by decide +kernel)
theorem D252_11 {g : im_g} : im_D g 252 11 (.getfield 408) 14 := im_D.of (by decide +kernel)
theorem D252_14 {g : im_g} : im_D g 252 14 (.iload_n 1) 15 := im_D.of (by decide +kernel)
theorem D252_15 {g : im_g} : im_D g 252 15 (.baload) 16 := im_D.of (by decide +kernel)
theorem D252_16 {g : im_g} : im_D g 252 16 (.sipush 255) 19 := im_D.of (by decide +kernel)
theorem D252_19 {g : im_g} : im_D g 252 19 (.iand) 20 := im_D.of (by decide +kernel)
theorem D252_20 {g : im_g} : im_D g 252 20 (.ireturn) 21 := im_D.of (by decide +kernel)
theorem D254_0 {g : im_g} : im_D g 254 0 (.iload_n 1) 1 := im_D.of (by decide +kernel)
theorem D254_1 {g : im_g} : im_D g 254 1 (.sipush 16384) 4 := im_D.of (by decide +kernel)
theorem D254_4 {g : im_g} : im_D g 254 4 (.invokestatic 183) 7 := im_D.of (by decide +kernel)
theorem D254_7 {g : im_g} : im_D g 254 7 (.iload_n 2) 8 := im_D.of (by decide +kernel)
theorem D254_8 {g : im_g} : im_D g 254 8 (.ifCond .lt 14) 11 := im_D.of (by decide +kernel)
theorem D254_11 {g : im_g} : im_D g 254 11 (.iload_n 2) 12 := im_D.of (by decide +kernel)
theorem D254_12 {g : im_g} : im_D g 254 12 (.sipush 255) 15 := im_D.of (by decide +kernel)
theorem D254_15 {g : im_g} : im_D g 254 15 (.if_icmp .gt 7) 18 := im_D.of (by decide +kernel)
theorem D254_18 {g : im_g} : im_D g 254 18 (.iconst 1) 19 := im_D.of (by decide +kernel)
theorem D254_19 {g : im_g} : im_D g 254 19 (.goto 4) 22 := im_D.of (by decide +kernel)
theorem D254_22 {g : im_g} : im_D g 254 22 (.iconst 0) 23 := im_D.of (by decide +kernel)
theorem D254_23 {g : im_g} : im_D g 254 23 (.invokestatic 195) 26 := im_D.of (by decide +kernel)
theorem D254_26 {g : im_g} : im_D g 254 26 (.aload_n 0) 27 := im_D.of (by decide +kernel)
theorem D254_27 {g : im_g} : im_D g 254 27 (.getfield 113) 30 := im_D.of (by decide +kernel)
theorem D254_30 {g : im_g} : im_D g 254 30 (.getfield 411) 33 := im_D.of (by decide +kernel)
theorem D254_33 {g : im_g} : im_D g 254 33 (.invokestatic 187) 36 := im_D.of (by decide +kernel)
theorem D254_36 {g : im_g} : im_D g 254 36 (.aload_n 0) 37 := im_D.of (by decide +kernel)
theorem D254_37 {g : im_g} : im_D g 254 37 (.getfield 113) 40 := im_D.of (by decide +kernel)
theorem D254_40 {g : im_g} : im_D g 254 40 (.getfield 408) 43 := im_D.of (by decide +kernel)
theorem D254_43 {g : im_g} : im_D g 254 43 (.iload_n 1) 44 := im_D.of (by decide +kernel)
theorem D254_44 {g : im_g} : im_D g 254 44 (.baload) 45 := im_D.of (by decide +kernel)
theorem D254_45 {g : im_g} : im_D g 254 45 (.sipush 255) 48 := im_D.of (by decide +kernel)
theorem D254_48 {g : im_g} : im_D g 254 48 (.iand) 49 := im_D.of (by decide +kernel)
theorem D254_49 {g : im_g} : im_D g 254 49 (.istore_n 3) 50 := im_D.of (by decide +kernel)
theorem D254_50 {g : im_g} : im_D g 254 50 (.aload_n 0) 51 := im_D.of (by decide +kernel)
theorem D254_51 {g : im_g} : im_D g 254 51 (.getfield 113) 54 := im_D.of (by decide +kernel)
theorem D254_54 {g : im_g} : im_D g 254 54 (.getfield 408) 57 := im_D.of (by decide +kernel)
theorem D254_57 {g : im_g} : im_D g 254 57 (.iload_n 1) 58 := im_D.of (by decide +kernel)
theorem D254_58 {g : im_g} : im_D g 254 58 (.iload_n 2) 59 := im_D.of (by decide +kernel)
theorem D254_59 {g : im_g} : im_D g 254 59 (.i2b) 60 := im_D.of (by decide +kernel)
theorem D254_60 {g : im_g} : im_D g 254 60 (.bastore) 61 := im_D.of (by decide +kernel)
theorem D254_61 {g : im_g} : im_D g 254 61 (.iload_n 3) 62 := im_D.of (by decide +kernel)
theorem D254_62 {g : im_g} : im_D g 254 62 (.ireturn) 63 := im_D.of (by decide +kernel)
theorem D256_0 {g : im_g} : im_D g 256 0 (.aload_n 0) 1 := im_D.of (by decide +kernel)
theorem D256_1 {g : im_g} : im_D g 256 1 (.invokevirtual 124) 4 := im_D.of (by decide +kernel)
theorem D256_4 {g : im_g} : im_D g 256 4 (.aload_n 0) 5 := im_D.of (by decide +kernel)
theorem D256_5 {g : im_g} : im_D g 256 5 (.getfield 113) 8 := im_D.of (by decide +kernel)
theorem D256_8 {g : im_g} : im_D g 256 8 (.iconst 1) 9 := im_D.of (by decide +kernel)
theorem D256_9 {g : im_g} : im_D g 256 9 (.putfield 411) 12 := im_D.of (by decide +kernel)
theorem D256_12 {g : im_g} : im_D g 256 12 (.return_) 13 := im_D.of (by decide +kernel)
set_option maxRecDepth 20000 in
set_option maxHeartbeats 4000000 in
theorem k_Search_tellPath_0 {g : im_g} {d : Nat} {e : im_E} {M : im_M} {K : im_K} (hP : im_T g d 246 2 [some (.ref 1793), some (.ref 7), some (vI 0), none] [] e M K) : im_T g d 246 0 [some (.ref 1793), some (.ref 7), none, none] [] e M K := by
  refine im_iconst (q := 1) D246_0 ?_
  refine im_st1 (q := 2) (i := 2) (L' := [some (.ref 1793), some (.ref 7), some (vI 0), none]) D246_1 (Or.inl ⟨_, rfl, rfl⟩) (Nat.le_of_ble_eq_true rfl) rfl ?_
  exact hP.wk ⟨rfl, rfl, rfl, trivial⟩
set_option maxRecDepth 20000 in
set_option maxHeartbeats 4000000 in
theorem k_Search_tellPath_2 {g : im_g} {d : Nat} {e : im_E} {M : im_M} {K : im_K} {p2 : Int} (hd : 1 ≤ d) (hP : (im_i32 p2) ∧ (((M 1795 5) ≤ p2 → K (.inl none) e M) ∧ (p2 < (M 1795 5) → (0 ≤ p2 ∧ p2 < 128) ∧ ((¬ (M 1796 p2) = (-1) → im_T g (d - 1) 182 0 [some (.ref 7), some (vI (M 1796 p2))] [] e M (im_r0 (fun  e_ M7 => e = e_ ∧ ((((¬ (M 1796 p2) = 28 → ((¬ (M 1796 p2) = 29 → ((¬ (M 1796 p2) = 28 → ((((¬ (M 1796 p2) = 28 → ((¬ (M 1796 p2) = 29 → (((M 1796 p2) = (-1) → im_T g (d - 1) 187 0 [some (.ref 7), some (vL (M7 2057 p2)), none] [] e M7 (im_r0 (fun  e_ M102 => e = e_ ∧ im_T g d 246 2 [some (.ref 1793), some (.ref 7), some (vI (p2 + 1)), none] [] e M102 K))) ∧ (¬ (M 1796 p2) = (-1) → im_T g (d - 1) 183 0 [some (.ref 7), some (vL 24948), none] [] e M7 (im_r0 (fun  e_ M104 => e = e_ ∧ im_T g (d - 1) 187 0 [some (.ref 7), some (vL (M104 2057 p2)), none] [] e M104 (im_r0 (fun  e_ M106 => e = e_ ∧ im_T g d 246 2 [some (.ref 1793), some (.ref 7), some (vI (p2 + 1)), none] [] e M106 K))))))))))) ∧ (((((M 1796 p2) = 28)) ∨ ((¬ (M 1796 p2) = 28) ∧ ((M 1796 p2) = 29))) → ∃ b86 : Nat, ((M7 1800 p2) = (b86 : Int)) ∧ (im_num e b86) ∧ im_T g (d - 1) 177 0 [some (.ref 7), some (.ref b86), none, none, none, none] [] e M7 (im_r0 (fun  e_ M89 => e = e_ ∧ (((M 1796 p2) = (-1) → im_T g (d - 1) 187 0 [some (.ref 7), some (vL (M89 2057 p2)), none] [] e M89 (im_r0 (fun  e_ M92 => e = e_ ∧ im_T g d 246 2 [some (.ref 1793), some (.ref 7), some (vI (p2 + 1)), none] [] e M92 K))) ∧ (¬ (M 1796 p2) = (-1) → im_T g (d - 1) 183 0 [some (.ref 7), some (vL 24948), none] [] e M89 (im_r0 (fun  e_ M94 => e = e_ ∧ im_T g (d - 1) 187 0 [some (.ref 7), some (vL (M94 2057 p2)), none] [] e M94 (im_r0 (fun  e_ M96 => e = e_ ∧ im_T g d 246 2 [some (.ref 1793), some (.ref 7), some (vI (p2 + 1)), none] [] e M96 K))))))))))) ∧ ((M 1796 p2) = 28 → im_T g (d - 1) 183 0 [some (.ref 7), some (vL (M7 1799 p2)), none] [] e M7 (im_r0 (fun  e_ M109 => e = e_ ∧ ((((¬ (M 1796 p2) = 28 → ((¬ (M 1796 p2) = 29 → (((M 1796 p2) = (-1) → im_T g (d - 1) 187 0 [some (.ref 7), some (vL (M109 2057 p2)), none] [] e M109 (im_r0 (fun  e_ M131 => e = e_ ∧ im_T g d 246 2 [some (.ref 1793), some (.ref 7), some (vI (p2 + 1)), none] [] e M131 K))) ∧ (¬ (M 1796 p2) = (-1) → im_T g (d - 1) 183 0 [some (.ref 7), some (vL 24948), none] [] e M109 (im_r0 (fun  e_ M133 => e = e_ ∧ im_T g (d - 1) 187 0 [some (.ref 7), some (vL (M133 2057 p2)), none] [] e M133 (im_r0 (fun  e_ M135 => e = e_ ∧ im_T g d 246 2 [some (.ref 1793), some (.ref 7), some (vI (p2 + 1)), none] [] e M135 K))))))))))) ∧ (((((M 1796 p2) = 28)) ∨ ((¬ (M 1796 p2) = 28) ∧ ((M 1796 p2) = 29))) → ∃ b115 : Nat, ((M109 1800 p2) = (b115 : Int)) ∧ (im_num e b115) ∧ im_T g (d - 1) 177 0 [some (.ref 7), some (.ref b115), none, none, none, none] [] e M109 (im_r0 (fun  e_ M118 => e = e_ ∧ (((M 1796 p2) = (-1) → im_T g (d - 1) 187 0 [some (.ref 7), some (vL (M118 2057 p2)), none] [] e M118 (im_r0 (fun  e_ M121 => e = e_ ∧ im_T g d 246 2 [some (.ref 1793), some (.ref 7), some (vI (p2 + 1)), none] [] e M121 K))) ∧ (¬ (M 1796 p2) = (-1) → im_T g (d - 1) 183 0 [some (.ref 7), some (vL 24948), none] [] e M118 (im_r0 (fun  e_ M123 => e = e_ ∧ im_T g (d - 1) 187 0 [some (.ref 7), some (vL (M123 2057 p2)), none] [] e M123 (im_r0 (fun  e_ M125 => e = e_ ∧ im_T g d 246 2 [some (.ref 1793), some (.ref 7), some (vI (p2 + 1)), none] [] e M125 K))))))))))))))))))) ∧ (((((M 1796 p2) = 28)) ∨ ((¬ (M 1796 p2) = 28) ∧ ((M 1796 p2) = 29))) → im_T g (d - 1) 183 0 [some (.ref 7), some (vL (M7 1797 p2)), none] [] e M7 (im_r0 (fun  e_ M14 => e = e_ ∧ im_T g (d - 1) 183 0 [some (.ref 7), some (vL (M14 1798 p2)), none] [] e M14 (im_r0 (fun  e_ M16 => e = e_ ∧ ((¬ (M 1796 p2) = 28 → ((((¬ (M 1796 p2) = 28 → ((¬ (M 1796 p2) = 29 → (((M 1796 p2) = (-1) → im_T g (d - 1) 187 0 [some (.ref 7), some (vL (M16 2057 p2)), none] [] e M16 (im_r0 (fun  e_ M40 => e = e_ ∧ im_T g d 246 2 [some (.ref 1793), some (.ref 7), some (vI (p2 + 1)), none] [] e M40 K))) ∧ (¬ (M 1796 p2) = (-1) → im_T g (d - 1) 183 0 [some (.ref 7), some (vL 24948), none] [] e M16 (im_r0 (fun  e_ M42 => e = e_ ∧ im_T g (d - 1) 187 0 [some (.ref 7), some (vL (M42 2057 p2)), none] [] e M42 (im_r0 (fun  e_ M44 => e = e_ ∧ im_T g d 246 2 [some (.ref 1793), some (.ref 7), some (vI (p2 + 1)), none] [] e M44 K))))))))))) ∧ (((((M 1796 p2) = 28)) ∨ ((¬ (M 1796 p2) = 28) ∧ ((M 1796 p2) = 29))) → ∃ b24 : Nat, ((M16 1800 p2) = (b24 : Int)) ∧ (im_num e b24) ∧ im_T g (d - 1) 177 0 [some (.ref 7), some (.ref b24), none, none, none, none] [] e M16 (im_r0 (fun  e_ M27 => e = e_ ∧ (((M 1796 p2) = (-1) → im_T g (d - 1) 187 0 [some (.ref 7), some (vL (M27 2057 p2)), none] [] e M27 (im_r0 (fun  e_ M30 => e = e_ ∧ im_T g d 246 2 [some (.ref 1793), some (.ref 7), some (vI (p2 + 1)), none] [] e M30 K))) ∧ (¬ (M 1796 p2) = (-1) → im_T g (d - 1) 183 0 [some (.ref 7), some (vL 24948), none] [] e M27 (im_r0 (fun  e_ M32 => e = e_ ∧ im_T g (d - 1) 187 0 [some (.ref 7), some (vL (M32 2057 p2)), none] [] e M32 (im_r0 (fun  e_ M34 => e = e_ ∧ im_T g d 246 2 [some (.ref 1793), some (.ref 7), some (vI (p2 + 1)), none] [] e M34 K))))))))))) ∧ ((M 1796 p2) = 28 → im_T g (d - 1) 183 0 [some (.ref 7), some (vL (M16 1799 p2)), none] [] e M16 (im_r0 (fun  e_ M47 => e = e_ ∧ ((((¬ (M 1796 p2) = 28 → ((¬ (M 1796 p2) = 29 → (((M 1796 p2) = (-1) → im_T g (d - 1) 187 0 [some (.ref 7), some (vL (M47 2057 p2)), none] [] e M47 (im_r0 (fun  e_ M69 => e = e_ ∧ im_T g d 246 2 [some (.ref 1793), some (.ref 7), some (vI (p2 + 1)), none] [] e M69 K))) ∧ (¬ (M 1796 p2) = (-1) → im_T g (d - 1) 183 0 [some (.ref 7), some (vL 24948), none] [] e M47 (im_r0 (fun  e_ M71 => e = e_ ∧ im_T g (d - 1) 187 0 [some (.ref 7), some (vL (M71 2057 p2)), none] [] e M71 (im_r0 (fun  e_ M73 => e = e_ ∧ im_T g d 246 2 [some (.ref 1793), some (.ref 7), some (vI (p2 + 1)), none] [] e M73 K))))))))))) ∧ (((((M 1796 p2) = 28)) ∨ ((¬ (M 1796 p2) = 28) ∧ ((M 1796 p2) = 29))) → ∃ b53 : Nat, ((M47 1800 p2) = (b53 : Int)) ∧ (im_num e b53) ∧ im_T g (d - 1) 177 0 [some (.ref 7), some (.ref b53), none, none, none, none] [] e M47 (im_r0 (fun  e_ M56 => e = e_ ∧ (((M 1796 p2) = (-1) → im_T g (d - 1) 187 0 [some (.ref 7), some (vL (M56 2057 p2)), none] [] e M56 (im_r0 (fun  e_ M59 => e = e_ ∧ im_T g d 246 2 [some (.ref 1793), some (.ref 7), some (vI (p2 + 1)), none] [] e M59 K))) ∧ (¬ (M 1796 p2) = (-1) → im_T g (d - 1) 183 0 [some (.ref 7), some (vL 24948), none] [] e M56 (im_r0 (fun  e_ M61 => e = e_ ∧ im_T g (d - 1) 187 0 [some (.ref 7), some (vL (M61 2057 p2)), none] [] e M61 (im_r0 (fun  e_ M63 => e = e_ ∧ im_T g d 246 2 [some (.ref 1793), some (.ref 7), some (vI (p2 + 1)), none] [] e M63 K))))))))))))))))))))))) ∧ ((M 1796 p2) = (-1) → im_T g (d - 1) 183 0 [some (.ref 7), some (vL 2002872692), none] [] e M (im_r0 (fun  e_ M140 => e = e_ ∧ ((((¬ (M 1796 p2) = 28 → ((¬ (M 1796 p2) = 29 → ((¬ (M 1796 p2) = 28 → ((((¬ (M 1796 p2) = 28 → ((¬ (M 1796 p2) = 29 → (((M 1796 p2) = (-1) → im_T g (d - 1) 187 0 [some (.ref 7), some (vL (M140 2057 p2)), none] [] e M140 (im_r0 (fun  e_ M235 => e = e_ ∧ im_T g d 246 2 [some (.ref 1793), some (.ref 7), some (vI (p2 + 1)), none] [] e M235 K))) ∧ (¬ (M 1796 p2) = (-1) → im_T g (d - 1) 183 0 [some (.ref 7), some (vL 24948), none] [] e M140 (im_r0 (fun  e_ M237 => e = e_ ∧ im_T g (d - 1) 187 0 [some (.ref 7), some (vL (M237 2057 p2)), none] [] e M237 (im_r0 (fun  e_ M239 => e = e_ ∧ im_T g d 246 2 [some (.ref 1793), some (.ref 7), some (vI (p2 + 1)), none] [] e M239 K))))))))))) ∧ (((((M 1796 p2) = 28)) ∨ ((¬ (M 1796 p2) = 28) ∧ ((M 1796 p2) = 29))) → ∃ b219 : Nat, ((M140 1800 p2) = (b219 : Int)) ∧ (im_num e b219) ∧ im_T g (d - 1) 177 0 [some (.ref 7), some (.ref b219), none, none, none, none] [] e M140 (im_r0 (fun  e_ M222 => e = e_ ∧ (((M 1796 p2) = (-1) → im_T g (d - 1) 187 0 [some (.ref 7), some (vL (M222 2057 p2)), none] [] e M222 (im_r0 (fun  e_ M225 => e = e_ ∧ im_T g d 246 2 [some (.ref 1793), some (.ref 7), some (vI (p2 + 1)), none] [] e M225 K))) ∧ (¬ (M 1796 p2) = (-1) → im_T g (d - 1) 183 0 [some (.ref 7), some (vL 24948), none] [] e M222 (im_r0 (fun  e_ M227 => e = e_ ∧ im_T g (d - 1) 187 0 [some (.ref 7), some (vL (M227 2057 p2)), none] [] e M227 (im_r0 (fun  e_ M229 => e = e_ ∧ im_T g d 246 2 [some (.ref 1793), some (.ref 7), some (vI (p2 + 1)), none] [] e M229 K))))))))))) ∧ ((M 1796 p2) = 28 → im_T g (d - 1) 183 0 [some (.ref 7), some (vL (M140 1799 p2)), none] [] e M140 (im_r0 (fun  e_ M242 => e = e_ ∧ ((((¬ (M 1796 p2) = 28 → ((¬ (M 1796 p2) = 29 → (((M 1796 p2) = (-1) → im_T g (d - 1) 187 0 [some (.ref 7), some (vL (M242 2057 p2)), none] [] e M242 (im_r0 (fun  e_ M264 => e = e_ ∧ im_T g d 246 2 [some (.ref 1793), some (.ref 7), some (vI (p2 + 1)), none] [] e M264 K))) ∧ (¬ (M 1796 p2) = (-1) → im_T g (d - 1) 183 0 [some (.ref 7), some (vL 24948), none] [] e M242 (im_r0 (fun  e_ M266 => e = e_ ∧ im_T g (d - 1) 187 0 [some (.ref 7), some (vL (M266 2057 p2)), none] [] e M266 (im_r0 (fun  e_ M268 => e = e_ ∧ im_T g d 246 2 [some (.ref 1793), some (.ref 7), some (vI (p2 + 1)), none] [] e M268 K))))))))))) ∧ (((((M 1796 p2) = 28)) ∨ ((¬ (M 1796 p2) = 28) ∧ ((M 1796 p2) = 29))) → ∃ b248 : Nat, ((M242 1800 p2) = (b248 : Int)) ∧ (im_num e b248) ∧ im_T g (d - 1) 177 0 [some (.ref 7), some (.ref b248), none, none, none, none] [] e M242 (im_r0 (fun  e_ M251 => e = e_ ∧ (((M 1796 p2) = (-1) → im_T g (d - 1) 187 0 [some (.ref 7), some (vL (M251 2057 p2)), none] [] e M251 (im_r0 (fun  e_ M254 => e = e_ ∧ im_T g d 246 2 [some (.ref 1793), some (.ref 7), some (vI (p2 + 1)), none] [] e M254 K))) ∧ (¬ (M 1796 p2) = (-1) → im_T g (d - 1) 183 0 [some (.ref 7), some (vL 24948), none] [] e M251 (im_r0 (fun  e_ M256 => e = e_ ∧ im_T g (d - 1) 187 0 [some (.ref 7), some (vL (M256 2057 p2)), none] [] e M256 (im_r0 (fun  e_ M258 => e = e_ ∧ im_T g d 246 2 [some (.ref 1793), some (.ref 7), some (vI (p2 + 1)), none] [] e M258 K))))))))))))))))))) ∧ (((((M 1796 p2) = 28)) ∨ ((¬ (M 1796 p2) = 28) ∧ ((M 1796 p2) = 29))) → im_T g (d - 1) 183 0 [some (.ref 7), some (vL (M140 1797 p2)), none] [] e M140 (im_r0 (fun  e_ M147 => e = e_ ∧ im_T g (d - 1) 183 0 [some (.ref 7), some (vL (M147 1798 p2)), none] [] e M147 (im_r0 (fun  e_ M149 => e = e_ ∧ ((¬ (M 1796 p2) = 28 → ((((¬ (M 1796 p2) = 28 → ((¬ (M 1796 p2) = 29 → (((M 1796 p2) = (-1) → im_T g (d - 1) 187 0 [some (.ref 7), some (vL (M149 2057 p2)), none] [] e M149 (im_r0 (fun  e_ M173 => e = e_ ∧ im_T g d 246 2 [some (.ref 1793), some (.ref 7), some (vI (p2 + 1)), none] [] e M173 K))) ∧ (¬ (M 1796 p2) = (-1) → im_T g (d - 1) 183 0 [some (.ref 7), some (vL 24948), none] [] e M149 (im_r0 (fun  e_ M175 => e = e_ ∧ im_T g (d - 1) 187 0 [some (.ref 7), some (vL (M175 2057 p2)), none] [] e M175 (im_r0 (fun  e_ M177 => e = e_ ∧ im_T g d 246 2 [some (.ref 1793), some (.ref 7), some (vI (p2 + 1)), none] [] e M177 K))))))))))) ∧ (((((M 1796 p2) = 28)) ∨ ((¬ (M 1796 p2) = 28) ∧ ((M 1796 p2) = 29))) → ∃ b157 : Nat, ((M149 1800 p2) = (b157 : Int)) ∧ (im_num e b157) ∧ im_T g (d - 1) 177 0 [some (.ref 7), some (.ref b157), none, none, none, none] [] e M149 (im_r0 (fun  e_ M160 => e = e_ ∧ (((M 1796 p2) = (-1) → im_T g (d - 1) 187 0 [some (.ref 7), some (vL (M160 2057 p2)), none] [] e M160 (im_r0 (fun  e_ M163 => e = e_ ∧ im_T g d 246 2 [some (.ref 1793), some (.ref 7), some (vI (p2 + 1)), none] [] e M163 K))) ∧ (¬ (M 1796 p2) = (-1) → im_T g (d - 1) 183 0 [some (.ref 7), some (vL 24948), none] [] e M160 (im_r0 (fun  e_ M165 => e = e_ ∧ im_T g (d - 1) 187 0 [some (.ref 7), some (vL (M165 2057 p2)), none] [] e M165 (im_r0 (fun  e_ M167 => e = e_ ∧ im_T g d 246 2 [some (.ref 1793), some (.ref 7), some (vI (p2 + 1)), none] [] e M167 K))))))))))) ∧ ((M 1796 p2) = 28 → im_T g (d - 1) 183 0 [some (.ref 7), some (vL (M149 1799 p2)), none] [] e M149 (im_r0 (fun  e_ M180 => e = e_ ∧ ((((¬ (M 1796 p2) = 28 → ((¬ (M 1796 p2) = 29 → (((M 1796 p2) = (-1) → im_T g (d - 1) 187 0 [some (.ref 7), some (vL (M180 2057 p2)), none] [] e M180 (im_r0 (fun  e_ M202 => e = e_ ∧ im_T g d 246 2 [some (.ref 1793), some (.ref 7), some (vI (p2 + 1)), none] [] e M202 K))) ∧ (¬ (M 1796 p2) = (-1) → im_T g (d - 1) 183 0 [some (.ref 7), some (vL 24948), none] [] e M180 (im_r0 (fun  e_ M204 => e = e_ ∧ im_T g (d - 1) 187 0 [some (.ref 7), some (vL (M204 2057 p2)), none] [] e M204 (im_r0 (fun  e_ M206 => e = e_ ∧ im_T g d 246 2 [some (.ref 1793), some (.ref 7), some (vI (p2 + 1)), none] [] e M206 K))))))))))) ∧ (((((M 1796 p2) = 28)) ∨ ((¬ (M 1796 p2) = 28) ∧ ((M 1796 p2) = 29))) → ∃ b186 : Nat, ((M180 1800 p2) = (b186 : Int)) ∧ (im_num e b186) ∧ im_T g (d - 1) 177 0 [some (.ref 7), some (.ref b186), none, none, none, none] [] e M180 (im_r0 (fun  e_ M189 => e = e_ ∧ (((M 1796 p2) = (-1) → im_T g (d - 1) 187 0 [some (.ref 7), some (vL (M189 2057 p2)), none] [] e M189 (im_r0 (fun  e_ M192 => e = e_ ∧ im_T g d 246 2 [some (.ref 1793), some (.ref 7), some (vI (p2 + 1)), none] [] e M192 K))) ∧ (¬ (M 1796 p2) = (-1) → im_T g (d - 1) 183 0 [some (.ref 7), some (vL 24948), none] [] e M189 (im_r0 (fun  e_ M194 => e = e_ ∧ im_T g (d - 1) 187 0 [some (.ref 7), some (vL (M194 2057 p2)), none] [] e M194 (im_r0 (fun  e_ M196 => e = e_ ∧ im_T g d 246 2 [some (.ref 1793), some (.ref 7), some (vI (p2 + 1)), none] [] e M196 K))))))))))))))))))))))))))) : im_T g d 246 2 [some (.ref 1793), some (.ref 7), some (vI p2), none] [] e M K := by
  refine im_ld (q := 3) (i := 2) D246_2 rfl rfl rfl ?_
  refine im_ld (q := 4) (i := 0) D246_3 rfl rfl rfl ?_
  refine im_gfR (q := 7) (b := 1795) D246_4 (im_fl cn_246 fl_8_22) sf_1793 rfl rfl tR_8_3 rfl ?_
  refine im_rng (j := 5) sf_1795 (by decide) (by decide) (fun hr1 => ?_)
  refine im_gfI (q := 10) D246_7 (im_fl cn_246 fl_8_91) sf_1795 rfl rfl tI_7_5 rfl ?_
  obtain ⟨hg2, hP⟩ := hP
  refine im_icmp (q := 13) (t := 153) D246_10 rfl hg2 hr1 (fun hc3 => ?_) (fun hc3 => ?_)
  · replace hP := hP.1 hc3
    exact im_vret (q := 154) D246_153 rfl hP
  · replace hP := hP.2 (Int.not_le.mp hc3)
    refine im_ld (q := 14) (i := 0) D246_13 rfl rfl rfl ?_
    refine im_gfR (q := 17) (b := 1795) D246_14 (im_fl cn_246 fl_8_22) sf_1793 rfl rfl tR_8_3 rfl ?_
    refine im_gfR (q := 20) (b := 1796) D246_17 (im_fl cn_246 fl_8_81) sf_1795 rfl rfl tR_7_0 rfl ?_
    refine im_ld (q := 21) (i := 2) D246_20 rfl rfl rfl ?_
    obtain ⟨hg4, hP⟩ := hP
    refine im_rng (j := p2) sf_1796 hg4.1 hg4.2 (fun hr5 => ?_)
    refine im_iald (q := 22) D246_21 sf_1796 hg4.1 hg4.2 (by decide) rfl ?_
    refine im_st1 (q := 23) (i := 3) (L' := [some (.ref 1793), some (.ref 7), some (vI p2), some (vI (M 1796 p2))]) D246_22 (Or.inl ⟨_, rfl, rfl⟩) (Nat.le_of_ble_eq_true rfl) rfl ?_
    refine im_ld (q := 24) (i := 3) D246_23 rfl rfl rfl ?_
    refine im_iconst (q := 25) D246_24 ?_
    refine im_icmp (q := 28) (t := 38) D246_25 rfl hr5 (by decide) (fun hc6 => ?_) (fun hc6 => ?_)
    · replace hP := hP.1 hc6
      refine im_ld (q := 39) (i := 1) D246_38 rfl rfl rfl ?_
      refine im_ld (q := 40) (i := 3) D246_39 rfl rfl rfl ?_
      refine im_callV (q := 43) (kd := 1) (y := 182) (n := 1) (ci := 10) (a := 7) (vs := [.ref 7, vI (M 1796 p2)]) (r := []) (L2 := [some (.ref 7), some (vI (M 1796 p2))]) D246_40 (im_cal cn_246 cl_8_183) (Or.inl rfl) rfl sf_7 rfl rfl rfl rfl hd ⟨rfl, rfl, trivial⟩ ?_
      refine hP.mono ?_
      rintro _ e139 M7 ⟨rfl, rfl, hP⟩
      refine im_bkN ?_
      refine im_ld (q := 44) (i := 3) D246_43 rfl rfl rfl ?_
      refine im_bipush (q := 46) D246_44 rfl ?_
      obtain ⟨hP, hJ10⟩ := hP
      have kJ11 : ((((M 1796 p2) = 28)) ∨ ((¬ (M 1796 p2) = 28) ∧ ((M 1796 p2) = 29))) → im_T g d 246 55 [some (.ref 1793), some (.ref 7), some (vI p2), some (vI (M 1796 p2))] [] e M7 K := by
        intro  hx12
        have hP := hJ10  hx12
        refine im_ld (q := 56) (i := 1) D246_55 rfl rfl rfl ?_
        refine im_ld (q := 57) (i := 0) D246_56 rfl rfl rfl ?_
        refine im_gfR (q := 60) (b := 1795) D246_57 (im_fl cn_246 fl_8_22) sf_1793 rfl rfl tR_8_3 rfl ?_
        refine im_gfR (q := 63) (b := 1797) D246_60 (im_fl cn_246 fl_8_186) sf_1795 rfl rfl tR_7_1 rfl ?_
        refine im_ld (q := 64) (i := 2) D246_63 rfl rfl rfl ?_
        refine im_rng (j := p2) sf_1797 hg4.1 hg4.2 (fun hr13 => ?_)
        refine im_lald (q := 65) D246_64 sf_1797 hg4.1 hg4.2 (by decide) rfl ?_
        refine im_callV (q := 68) (kd := 1) (y := 183) (n := 1) (ci := 10) (a := 7) (vs := [.ref 7, vL (M7 1797 p2)]) (r := []) (L2 := [some (.ref 7), some (vL (M7 1797 p2)), none]) D246_65 (im_cal cn_246 cl_8_177) (Or.inl rfl) rfl sf_7 rfl rfl rfl rfl hd ⟨rfl, rfl, trivial⟩ ?_
        refine hP.mono ?_
        rintro _ e78 M14 ⟨rfl, rfl, hP⟩
        refine im_bkN ?_
        refine im_ld (q := 69) (i := 1) D246_68 rfl rfl rfl ?_
        refine im_ld (q := 70) (i := 0) D246_69 rfl rfl rfl ?_
        refine im_gfR (q := 73) (b := 1795) D246_70 (im_fl cn_246 fl_8_22) sf_1793 rfl rfl tR_8_3 rfl ?_
        refine im_gfR (q := 76) (b := 1798) D246_73 (im_fl cn_246 fl_8_187) sf_1795 rfl rfl tR_7_2 rfl ?_
        refine im_ld (q := 77) (i := 2) D246_76 rfl rfl rfl ?_
        refine im_rng (j := p2) sf_1798 hg4.1 hg4.2 (fun hr15 => ?_)
        refine im_lald (q := 78) D246_77 sf_1798 hg4.1 hg4.2 (by decide) rfl ?_
        refine im_callV (q := 81) (kd := 1) (y := 183) (n := 1) (ci := 10) (a := 7) (vs := [.ref 7, vL (M14 1798 p2)]) (r := []) (L2 := [some (.ref 7), some (vL (M14 1798 p2)), none]) D246_78 (im_cal cn_246 cl_8_177) (Or.inl rfl) rfl sf_7 rfl rfl rfl rfl hd ⟨rfl, rfl, trivial⟩ ?_
        refine hP.mono ?_
        rintro _ e77 M16 ⟨rfl, rfl, hP⟩
        refine im_bkN ?_
        refine im_ld (q := 82) (i := 3) D246_81 rfl rfl rfl ?_
        refine im_bipush (q := 84) D246_82 rfl ?_
        refine im_icmp (q := 87) (t := 100) D246_84 rfl hr5 (by decide) (fun hc17 => ?_) (fun hc17 => ?_)
        · replace hP := hP.1 hc17
          refine im_ld (q := 101) (i := 3) D246_100 rfl rfl rfl ?_
          refine im_bipush (q := 103) D246_101 rfl ?_
          obtain ⟨hP, hJ21⟩ := hP
          have kJ22 : ((((M 1796 p2) = 28)) ∨ ((¬ (M 1796 p2) = 28) ∧ ((M 1796 p2) = 29))) → im_T g d 246 112 [some (.ref 1793), some (.ref 7), some (vI p2), some (vI (M 1796 p2))] [] e M16 K := by
            intro  hx23
            have hP := hJ21  hx23
            refine im_ld (q := 113) (i := 1) D246_112 rfl rfl rfl ?_
            refine im_ld (q := 114) (i := 0) D246_113 rfl rfl rfl ?_
            refine im_gfR (q := 117) (b := 1795) D246_114 (im_fl cn_246 fl_8_22) sf_1793 rfl rfl tR_8_3 rfl ?_
            refine im_gfR (q := 120) (b := 1800) D246_117 (im_fl cn_246 fl_8_148) sf_1795 rfl rfl tR_7_4 rfl ?_
            refine im_ld (q := 121) (i := 2) D246_120 rfl rfl rfl ?_
            obtain ⟨b24, hb25, hP⟩ := hP
            obtain ⟨hb26, hP⟩ := hP
            refine im_aald (q := 122) D246_121 sf_1800 (Or.inl rfl) hg4.1 hg4.2 (by decide) hb25 ?_
            refine im_callV (q := 125) (kd := 1) (y := 177) (n := 1) (ci := 10) (a := 7) (vs := [.ref 7, .ref b24]) (r := []) (L2 := [some (.ref 7), some (.ref b24), none, none, none, none]) D246_122 (im_cal cn_246 cl_8_189) (Or.inl rfl) rfl sf_7 rfl rfl rfl rfl hd ⟨rfl, rfl, trivial⟩ ?_
            refine hP.mono ?_
            rintro _ e37 M27 ⟨rfl, rfl, hP⟩
            refine im_bkN ?_
            refine im_ld (q := 126) (i := 3) D246_125 rfl rfl rfl ?_
            refine im_iconst (q := 127) D246_126 ?_
            refine im_icmp (q := 130) (t := 137) D246_127 rfl hr5 (by decide) (fun hc28 => ?_) (fun hc28 => ?_)
            · replace hP := hP.1 hc28
              refine im_ld (q := 138) (i := 1) D246_137 rfl rfl rfl ?_
              refine im_ld (q := 139) (i := 0) D246_138 rfl rfl rfl ?_
              refine im_gfR (q := 142) (b := 2057) D246_139 (im_fl cn_246 fl_8_26) sf_1793 rfl rfl tR_8_4 rfl ?_
              refine im_ld (q := 143) (i := 2) D246_142 rfl rfl rfl ?_
              refine im_rng (j := p2) sf_2057 hg4.1 hg4.2 (fun hr29 => ?_)
              refine im_lald (q := 144) D246_143 sf_2057 hg4.1 hg4.2 (by decide) rfl ?_
              refine im_callV (q := 147) (kd := 1) (y := 187) (n := 1) (ci := 10) (a := 7) (vs := [.ref 7, vL (M27 2057 p2)]) (r := []) (L2 := [some (.ref 7), some (vL (M27 2057 p2)), none]) D246_144 (im_cal cn_246 cl_8_194) (Or.inl rfl) rfl sf_7 rfl rfl rfl rfl hd ⟨rfl, rfl, trivial⟩ ?_
              refine hP.mono ?_
              rintro _ e31 M30 ⟨rfl, rfl, hP⟩
              refine im_bkN ?_
              refine im_iinc (q := 150) (i := 2) (L' := [some (.ref 1793), some (.ref 7), some (vI (p2 + 1)), some (vI (M 1796 p2))]) D246_147 rfl (Nat.le_of_ble_eq_true rfl) rfl ?_
              refine im_goto (q := 153) (t := 2) D246_150 rfl ?_
              exact hP.wk ⟨rfl, rfl, rfl, trivial⟩
            · replace hP := hP.2 hc28
              refine im_ld (q := 131) (i := 1) D246_130 rfl rfl rfl ?_
              refine im_ldc2 (q := 134) (n := 24948) D246_131 rfl ?_
              refine im_callV (q := 137) (kd := 1) (y := 183) (n := 1) (ci := 10) (a := 7) (vs := [.ref 7, vL 24948]) (r := []) (L2 := [some (.ref 7), some (vL 24948), none]) D246_134 (im_cal cn_246 cl_8_177) (Or.inl rfl) rfl sf_7 rfl rfl rfl rfl hd ⟨rfl, rfl, trivial⟩ ?_
              refine hP.mono ?_
              rintro _ e36 M32 ⟨rfl, rfl, hP⟩
              refine im_bkN ?_
              refine im_ld (q := 138) (i := 1) D246_137 rfl rfl rfl ?_
              refine im_ld (q := 139) (i := 0) D246_138 rfl rfl rfl ?_
              refine im_gfR (q := 142) (b := 2057) D246_139 (im_fl cn_246 fl_8_26) sf_1793 rfl rfl tR_8_4 rfl ?_
              refine im_ld (q := 143) (i := 2) D246_142 rfl rfl rfl ?_
              refine im_rng (j := p2) sf_2057 hg4.1 hg4.2 (fun hr33 => ?_)
              refine im_lald (q := 144) D246_143 sf_2057 hg4.1 hg4.2 (by decide) rfl ?_
              refine im_callV (q := 147) (kd := 1) (y := 187) (n := 1) (ci := 10) (a := 7) (vs := [.ref 7, vL (M32 2057 p2)]) (r := []) (L2 := [some (.ref 7), some (vL (M32 2057 p2)), none]) D246_144 (im_cal cn_246 cl_8_194) (Or.inl rfl) rfl sf_7 rfl rfl rfl rfl hd ⟨rfl, rfl, trivial⟩ ?_
              refine hP.mono ?_
              rintro _ e35 M34 ⟨rfl, rfl, hP⟩
              refine im_bkN ?_
              refine im_iinc (q := 150) (i := 2) (L' := [some (.ref 1793), some (.ref 7), some (vI (p2 + 1)), some (vI (M 1796 p2))]) D246_147 rfl (Nat.le_of_ble_eq_true rfl) rfl ?_
              refine im_goto (q := 153) (t := 2) D246_150 rfl ?_
              exact hP.wk ⟨rfl, rfl, rfl, trivial⟩
          refine im_icmp (q := 106) (t := 112) D246_103 rfl hr5 (by decide) (fun hc19 => ?_) (fun hc19 => ?_)
          · exact (kJ22  (Or.inl hc19)).wk ⟨rfl, rfl, rfl, rfl, trivial⟩
          · replace hP := hP hc19
            refine im_ld (q := 107) (i := 3) D246_106 rfl rfl rfl ?_
            refine im_bipush (q := 109) D246_107 rfl ?_
            refine im_icmp (q := 112) (t := 125) D246_109 rfl hr5 (by decide) (fun hc20 => ?_) (fun hc20 => ?_)
            · replace hP := hP hc20
              refine im_ld (q := 126) (i := 3) D246_125 rfl rfl rfl ?_
              refine im_iconst (q := 127) D246_126 ?_
              refine im_icmp (q := 130) (t := 137) D246_127 rfl hr5 (by decide) (fun hc38 => ?_) (fun hc38 => ?_)
              · replace hP := hP.1 hc38
                refine im_ld (q := 138) (i := 1) D246_137 rfl rfl rfl ?_
                refine im_ld (q := 139) (i := 0) D246_138 rfl rfl rfl ?_
                refine im_gfR (q := 142) (b := 2057) D246_139 (im_fl cn_246 fl_8_26) sf_1793 rfl rfl tR_8_4 rfl ?_
                refine im_ld (q := 143) (i := 2) D246_142 rfl rfl rfl ?_
                refine im_rng (j := p2) sf_2057 hg4.1 hg4.2 (fun hr39 => ?_)
                refine im_lald (q := 144) D246_143 sf_2057 hg4.1 hg4.2 (by decide) rfl ?_
                refine im_callV (q := 147) (kd := 1) (y := 187) (n := 1) (ci := 10) (a := 7) (vs := [.ref 7, vL (M16 2057 p2)]) (r := []) (L2 := [some (.ref 7), some (vL (M16 2057 p2)), none]) D246_144 (im_cal cn_246 cl_8_194) (Or.inl rfl) rfl sf_7 rfl rfl rfl rfl hd ⟨rfl, rfl, trivial⟩ ?_
                refine hP.mono ?_
                rintro _ e41 M40 ⟨rfl, rfl, hP⟩
                refine im_bkN ?_
                refine im_iinc (q := 150) (i := 2) (L' := [some (.ref 1793), some (.ref 7), some (vI (p2 + 1)), some (vI (M 1796 p2))]) D246_147 rfl (Nat.le_of_ble_eq_true rfl) rfl ?_
                refine im_goto (q := 153) (t := 2) D246_150 rfl ?_
                exact hP.wk ⟨rfl, rfl, rfl, trivial⟩
              · replace hP := hP.2 hc38
                refine im_ld (q := 131) (i := 1) D246_130 rfl rfl rfl ?_
                refine im_ldc2 (q := 134) (n := 24948) D246_131 rfl ?_
                refine im_callV (q := 137) (kd := 1) (y := 183) (n := 1) (ci := 10) (a := 7) (vs := [.ref 7, vL 24948]) (r := []) (L2 := [some (.ref 7), some (vL 24948), none]) D246_134 (im_cal cn_246 cl_8_177) (Or.inl rfl) rfl sf_7 rfl rfl rfl rfl hd ⟨rfl, rfl, trivial⟩ ?_
                refine hP.mono ?_
                rintro _ e46 M42 ⟨rfl, rfl, hP⟩
                refine im_bkN ?_
                refine im_ld (q := 138) (i := 1) D246_137 rfl rfl rfl ?_
                refine im_ld (q := 139) (i := 0) D246_138 rfl rfl rfl ?_
                refine im_gfR (q := 142) (b := 2057) D246_139 (im_fl cn_246 fl_8_26) sf_1793 rfl rfl tR_8_4 rfl ?_
                refine im_ld (q := 143) (i := 2) D246_142 rfl rfl rfl ?_
                refine im_rng (j := p2) sf_2057 hg4.1 hg4.2 (fun hr43 => ?_)
                refine im_lald (q := 144) D246_143 sf_2057 hg4.1 hg4.2 (by decide) rfl ?_
                refine im_callV (q := 147) (kd := 1) (y := 187) (n := 1) (ci := 10) (a := 7) (vs := [.ref 7, vL (M42 2057 p2)]) (r := []) (L2 := [some (.ref 7), some (vL (M42 2057 p2)), none]) D246_144 (im_cal cn_246 cl_8_194) (Or.inl rfl) rfl sf_7 rfl rfl rfl rfl hd ⟨rfl, rfl, trivial⟩ ?_
                refine hP.mono ?_
                rintro _ e45 M44 ⟨rfl, rfl, hP⟩
                refine im_bkN ?_
                refine im_iinc (q := 150) (i := 2) (L' := [some (.ref 1793), some (.ref 7), some (vI (p2 + 1)), some (vI (M 1796 p2))]) D246_147 rfl (Nat.le_of_ble_eq_true rfl) rfl ?_
                refine im_goto (q := 153) (t := 2) D246_150 rfl ?_
                exact hP.wk ⟨rfl, rfl, rfl, trivial⟩
            · exact (kJ22  (Or.inr ⟨hc19, (Decidable.not_not.mp hc20)⟩)).wk ⟨rfl, rfl, rfl, rfl, trivial⟩
        · replace hP := hP.2 (Decidable.not_not.mp hc17)
          refine im_ld (q := 88) (i := 1) D246_87 rfl rfl rfl ?_
          refine im_ld (q := 89) (i := 0) D246_88 rfl rfl rfl ?_
          refine im_gfR (q := 92) (b := 1795) D246_89 (im_fl cn_246 fl_8_22) sf_1793 rfl rfl tR_8_3 rfl ?_
          refine im_gfR (q := 95) (b := 1799) D246_92 (im_fl cn_246 fl_8_188) sf_1795 rfl rfl tR_7_3 rfl ?_
          refine im_ld (q := 96) (i := 2) D246_95 rfl rfl rfl ?_
          refine im_rng (j := p2) sf_1799 hg4.1 hg4.2 (fun hr18 => ?_)
          refine im_lald (q := 97) D246_96 sf_1799 hg4.1 hg4.2 (by decide) rfl ?_
          refine im_callV (q := 100) (kd := 1) (y := 183) (n := 1) (ci := 10) (a := 7) (vs := [.ref 7, vL (M16 1799 p2)]) (r := []) (L2 := [some (.ref 7), some (vL (M16 1799 p2)), none]) D246_97 (im_cal cn_246 cl_8_177) (Or.inl rfl) rfl sf_7 rfl rfl rfl rfl hd ⟨rfl, rfl, trivial⟩ ?_
          refine hP.mono ?_
          rintro _ e76 M47 ⟨rfl, rfl, hP⟩
          refine im_bkN ?_
          refine im_ld (q := 101) (i := 3) D246_100 rfl rfl rfl ?_
          refine im_bipush (q := 103) D246_101 rfl ?_
          obtain ⟨hP, hJ50⟩ := hP
          have kJ51 : ((((M 1796 p2) = 28)) ∨ ((¬ (M 1796 p2) = 28) ∧ ((M 1796 p2) = 29))) → im_T g d 246 112 [some (.ref 1793), some (.ref 7), some (vI p2), some (vI (M 1796 p2))] [] e M47 K := by
            intro  hx52
            have hP := hJ50  hx52
            refine im_ld (q := 113) (i := 1) D246_112 rfl rfl rfl ?_
            refine im_ld (q := 114) (i := 0) D246_113 rfl rfl rfl ?_
            refine im_gfR (q := 117) (b := 1795) D246_114 (im_fl cn_246 fl_8_22) sf_1793 rfl rfl tR_8_3 rfl ?_
            refine im_gfR (q := 120) (b := 1800) D246_117 (im_fl cn_246 fl_8_148) sf_1795 rfl rfl tR_7_4 rfl ?_
            refine im_ld (q := 121) (i := 2) D246_120 rfl rfl rfl ?_
            obtain ⟨b53, hb54, hP⟩ := hP
            obtain ⟨hb55, hP⟩ := hP
            refine im_aald (q := 122) D246_121 sf_1800 (Or.inl rfl) hg4.1 hg4.2 (by decide) hb54 ?_
            refine im_callV (q := 125) (kd := 1) (y := 177) (n := 1) (ci := 10) (a := 7) (vs := [.ref 7, .ref b53]) (r := []) (L2 := [some (.ref 7), some (.ref b53), none, none, none, none]) D246_122 (im_cal cn_246 cl_8_189) (Or.inl rfl) rfl sf_7 rfl rfl rfl rfl hd ⟨rfl, rfl, trivial⟩ ?_
            refine hP.mono ?_
            rintro _ e66 M56 ⟨rfl, rfl, hP⟩
            refine im_bkN ?_
            refine im_ld (q := 126) (i := 3) D246_125 rfl rfl rfl ?_
            refine im_iconst (q := 127) D246_126 ?_
            refine im_icmp (q := 130) (t := 137) D246_127 rfl hr5 (by decide) (fun hc57 => ?_) (fun hc57 => ?_)
            · replace hP := hP.1 hc57
              refine im_ld (q := 138) (i := 1) D246_137 rfl rfl rfl ?_
              refine im_ld (q := 139) (i := 0) D246_138 rfl rfl rfl ?_
              refine im_gfR (q := 142) (b := 2057) D246_139 (im_fl cn_246 fl_8_26) sf_1793 rfl rfl tR_8_4 rfl ?_
              refine im_ld (q := 143) (i := 2) D246_142 rfl rfl rfl ?_
              refine im_rng (j := p2) sf_2057 hg4.1 hg4.2 (fun hr58 => ?_)
              refine im_lald (q := 144) D246_143 sf_2057 hg4.1 hg4.2 (by decide) rfl ?_
              refine im_callV (q := 147) (kd := 1) (y := 187) (n := 1) (ci := 10) (a := 7) (vs := [.ref 7, vL (M56 2057 p2)]) (r := []) (L2 := [some (.ref 7), some (vL (M56 2057 p2)), none]) D246_144 (im_cal cn_246 cl_8_194) (Or.inl rfl) rfl sf_7 rfl rfl rfl rfl hd ⟨rfl, rfl, trivial⟩ ?_
              refine hP.mono ?_
              rintro _ e60 M59 ⟨rfl, rfl, hP⟩
              refine im_bkN ?_
              refine im_iinc (q := 150) (i := 2) (L' := [some (.ref 1793), some (.ref 7), some (vI (p2 + 1)), some (vI (M 1796 p2))]) D246_147 rfl (Nat.le_of_ble_eq_true rfl) rfl ?_
              refine im_goto (q := 153) (t := 2) D246_150 rfl ?_
              exact hP.wk ⟨rfl, rfl, rfl, trivial⟩
            · replace hP := hP.2 hc57
              refine im_ld (q := 131) (i := 1) D246_130 rfl rfl rfl ?_
              refine im_ldc2 (q := 134) (n := 24948) D246_131 rfl ?_
              refine im_callV (q := 137) (kd := 1) (y := 183) (n := 1) (ci := 10) (a := 7) (vs := [.ref 7, vL 24948]) (r := []) (L2 := [some (.ref 7), some (vL 24948), none]) D246_134 (im_cal cn_246 cl_8_177) (Or.inl rfl) rfl sf_7 rfl rfl rfl rfl hd ⟨rfl, rfl, trivial⟩ ?_
              refine hP.mono ?_
              rintro _ e65 M61 ⟨rfl, rfl, hP⟩
              refine im_bkN ?_
              refine im_ld (q := 138) (i := 1) D246_137 rfl rfl rfl ?_
              refine im_ld (q := 139) (i := 0) D246_138 rfl rfl rfl ?_
              refine im_gfR (q := 142) (b := 2057) D246_139 (im_fl cn_246 fl_8_26) sf_1793 rfl rfl tR_8_4 rfl ?_
              refine im_ld (q := 143) (i := 2) D246_142 rfl rfl rfl ?_
              refine im_rng (j := p2) sf_2057 hg4.1 hg4.2 (fun hr62 => ?_)
              refine im_lald (q := 144) D246_143 sf_2057 hg4.1 hg4.2 (by decide) rfl ?_
              refine im_callV (q := 147) (kd := 1) (y := 187) (n := 1) (ci := 10) (a := 7) (vs := [.ref 7, vL (M61 2057 p2)]) (r := []) (L2 := [some (.ref 7), some (vL (M61 2057 p2)), none]) D246_144 (im_cal cn_246 cl_8_194) (Or.inl rfl) rfl sf_7 rfl rfl rfl rfl hd ⟨rfl, rfl, trivial⟩ ?_
              refine hP.mono ?_
              rintro _ e64 M63 ⟨rfl, rfl, hP⟩
              refine im_bkN ?_
              refine im_iinc (q := 150) (i := 2) (L' := [some (.ref 1793), some (.ref 7), some (vI (p2 + 1)), some (vI (M 1796 p2))]) D246_147 rfl (Nat.le_of_ble_eq_true rfl) rfl ?_
              refine im_goto (q := 153) (t := 2) D246_150 rfl ?_
              exact hP.wk ⟨rfl, rfl, rfl, trivial⟩
          refine im_icmp (q := 106) (t := 112) D246_103 rfl hr5 (by decide) (fun hc48 => ?_) (fun hc48 => ?_)
          · exact (kJ51  (Or.inl hc48)).wk ⟨rfl, rfl, rfl, rfl, trivial⟩
          · replace hP := hP hc48
            refine im_ld (q := 107) (i := 3) D246_106 rfl rfl rfl ?_
            refine im_bipush (q := 109) D246_107 rfl ?_
            refine im_icmp (q := 112) (t := 125) D246_109 rfl hr5 (by decide) (fun hc49 => ?_) (fun hc49 => ?_)
            · replace hP := hP hc49
              refine im_ld (q := 126) (i := 3) D246_125 rfl rfl rfl ?_
              refine im_iconst (q := 127) D246_126 ?_
              refine im_icmp (q := 130) (t := 137) D246_127 rfl hr5 (by decide) (fun hc67 => ?_) (fun hc67 => ?_)
              · replace hP := hP.1 hc67
                refine im_ld (q := 138) (i := 1) D246_137 rfl rfl rfl ?_
                refine im_ld (q := 139) (i := 0) D246_138 rfl rfl rfl ?_
                refine im_gfR (q := 142) (b := 2057) D246_139 (im_fl cn_246 fl_8_26) sf_1793 rfl rfl tR_8_4 rfl ?_
                refine im_ld (q := 143) (i := 2) D246_142 rfl rfl rfl ?_
                refine im_rng (j := p2) sf_2057 hg4.1 hg4.2 (fun hr68 => ?_)
                refine im_lald (q := 144) D246_143 sf_2057 hg4.1 hg4.2 (by decide) rfl ?_
                refine im_callV (q := 147) (kd := 1) (y := 187) (n := 1) (ci := 10) (a := 7) (vs := [.ref 7, vL (M47 2057 p2)]) (r := []) (L2 := [some (.ref 7), some (vL (M47 2057 p2)), none]) D246_144 (im_cal cn_246 cl_8_194) (Or.inl rfl) rfl sf_7 rfl rfl rfl rfl hd ⟨rfl, rfl, trivial⟩ ?_
                refine hP.mono ?_
                rintro _ e70 M69 ⟨rfl, rfl, hP⟩
                refine im_bkN ?_
                refine im_iinc (q := 150) (i := 2) (L' := [some (.ref 1793), some (.ref 7), some (vI (p2 + 1)), some (vI (M 1796 p2))]) D246_147 rfl (Nat.le_of_ble_eq_true rfl) rfl ?_
                refine im_goto (q := 153) (t := 2) D246_150 rfl ?_
                exact hP.wk ⟨rfl, rfl, rfl, trivial⟩
              · replace hP := hP.2 hc67
                refine im_ld (q := 131) (i := 1) D246_130 rfl rfl rfl ?_
                refine im_ldc2 (q := 134) (n := 24948) D246_131 rfl ?_
                refine im_callV (q := 137) (kd := 1) (y := 183) (n := 1) (ci := 10) (a := 7) (vs := [.ref 7, vL 24948]) (r := []) (L2 := [some (.ref 7), some (vL 24948), none]) D246_134 (im_cal cn_246 cl_8_177) (Or.inl rfl) rfl sf_7 rfl rfl rfl rfl hd ⟨rfl, rfl, trivial⟩ ?_
                refine hP.mono ?_
                rintro _ e75 M71 ⟨rfl, rfl, hP⟩
                refine im_bkN ?_
                refine im_ld (q := 138) (i := 1) D246_137 rfl rfl rfl ?_
                refine im_ld (q := 139) (i := 0) D246_138 rfl rfl rfl ?_
                refine im_gfR (q := 142) (b := 2057) D246_139 (im_fl cn_246 fl_8_26) sf_1793 rfl rfl tR_8_4 rfl ?_
                refine im_ld (q := 143) (i := 2) D246_142 rfl rfl rfl ?_
                refine im_rng (j := p2) sf_2057 hg4.1 hg4.2 (fun hr72 => ?_)
                refine im_lald (q := 144) D246_143 sf_2057 hg4.1 hg4.2 (by decide) rfl ?_
                refine im_callV (q := 147) (kd := 1) (y := 187) (n := 1) (ci := 10) (a := 7) (vs := [.ref 7, vL (M71 2057 p2)]) (r := []) (L2 := [some (.ref 7), some (vL (M71 2057 p2)), none]) D246_144 (im_cal cn_246 cl_8_194) (Or.inl rfl) rfl sf_7 rfl rfl rfl rfl hd ⟨rfl, rfl, trivial⟩ ?_
                refine hP.mono ?_
                rintro _ e74 M73 ⟨rfl, rfl, hP⟩
                refine im_bkN ?_
                refine im_iinc (q := 150) (i := 2) (L' := [some (.ref 1793), some (.ref 7), some (vI (p2 + 1)), some (vI (M 1796 p2))]) D246_147 rfl (Nat.le_of_ble_eq_true rfl) rfl ?_
                refine im_goto (q := 153) (t := 2) D246_150 rfl ?_
                exact hP.wk ⟨rfl, rfl, rfl, trivial⟩
            · exact (kJ51  (Or.inr ⟨hc48, (Decidable.not_not.mp hc49)⟩)).wk ⟨rfl, rfl, rfl, rfl, trivial⟩
      refine im_icmp (q := 49) (t := 55) D246_46 rfl hr5 (by decide) (fun hc8 => ?_) (fun hc8 => ?_)
      · exact (kJ11  (Or.inl hc8)).wk ⟨rfl, rfl, rfl, rfl, trivial⟩
      · replace hP := hP hc8
        refine im_ld (q := 50) (i := 3) D246_49 rfl rfl rfl ?_
        refine im_bipush (q := 52) D246_50 rfl ?_
        refine im_icmp (q := 55) (t := 81) D246_52 rfl hr5 (by decide) (fun hc9 => ?_) (fun hc9 => ?_)
        · replace hP := hP hc9
          refine im_ld (q := 82) (i := 3) D246_81 rfl rfl rfl ?_
          refine im_bipush (q := 84) D246_82 rfl ?_
          refine im_icmp (q := 87) (t := 100) D246_84 rfl hr5 (by decide) (fun hc79 => ?_) (fun hc79 => ?_)
          · replace hP := hP.1 hc79
            refine im_ld (q := 101) (i := 3) D246_100 rfl rfl rfl ?_
            refine im_bipush (q := 103) D246_101 rfl ?_
            obtain ⟨hP, hJ83⟩ := hP
            have kJ84 : ((((M 1796 p2) = 28)) ∨ ((¬ (M 1796 p2) = 28) ∧ ((M 1796 p2) = 29))) → im_T g d 246 112 [some (.ref 1793), some (.ref 7), some (vI p2), some (vI (M 1796 p2))] [] e M7 K := by
              intro  hx85
              have hP := hJ83  hx85
              refine im_ld (q := 113) (i := 1) D246_112 rfl rfl rfl ?_
              refine im_ld (q := 114) (i := 0) D246_113 rfl rfl rfl ?_
              refine im_gfR (q := 117) (b := 1795) D246_114 (im_fl cn_246 fl_8_22) sf_1793 rfl rfl tR_8_3 rfl ?_
              refine im_gfR (q := 120) (b := 1800) D246_117 (im_fl cn_246 fl_8_148) sf_1795 rfl rfl tR_7_4 rfl ?_
              refine im_ld (q := 121) (i := 2) D246_120 rfl rfl rfl ?_
              obtain ⟨b86, hb87, hP⟩ := hP
              obtain ⟨hb88, hP⟩ := hP
              refine im_aald (q := 122) D246_121 sf_1800 (Or.inl rfl) hg4.1 hg4.2 (by decide) hb87 ?_
              refine im_callV (q := 125) (kd := 1) (y := 177) (n := 1) (ci := 10) (a := 7) (vs := [.ref 7, .ref b86]) (r := []) (L2 := [some (.ref 7), some (.ref b86), none, none, none, none]) D246_122 (im_cal cn_246 cl_8_189) (Or.inl rfl) rfl sf_7 rfl rfl rfl rfl hd ⟨rfl, rfl, trivial⟩ ?_
              refine hP.mono ?_
              rintro _ e99 M89 ⟨rfl, rfl, hP⟩
              refine im_bkN ?_
              refine im_ld (q := 126) (i := 3) D246_125 rfl rfl rfl ?_
              refine im_iconst (q := 127) D246_126 ?_
              refine im_icmp (q := 130) (t := 137) D246_127 rfl hr5 (by decide) (fun hc90 => ?_) (fun hc90 => ?_)
              · replace hP := hP.1 hc90
                refine im_ld (q := 138) (i := 1) D246_137 rfl rfl rfl ?_
                refine im_ld (q := 139) (i := 0) D246_138 rfl rfl rfl ?_
                refine im_gfR (q := 142) (b := 2057) D246_139 (im_fl cn_246 fl_8_26) sf_1793 rfl rfl tR_8_4 rfl ?_
                refine im_ld (q := 143) (i := 2) D246_142 rfl rfl rfl ?_
                refine im_rng (j := p2) sf_2057 hg4.1 hg4.2 (fun hr91 => ?_)
                refine im_lald (q := 144) D246_143 sf_2057 hg4.1 hg4.2 (by decide) rfl ?_
                refine im_callV (q := 147) (kd := 1) (y := 187) (n := 1) (ci := 10) (a := 7) (vs := [.ref 7, vL (M89 2057 p2)]) (r := []) (L2 := [some (.ref 7), some (vL (M89 2057 p2)), none]) D246_144 (im_cal cn_246 cl_8_194) (Or.inl rfl) rfl sf_7 rfl rfl rfl rfl hd ⟨rfl, rfl, trivial⟩ ?_
                refine hP.mono ?_
                rintro _ e93 M92 ⟨rfl, rfl, hP⟩
                refine im_bkN ?_
                refine im_iinc (q := 150) (i := 2) (L' := [some (.ref 1793), some (.ref 7), some (vI (p2 + 1)), some (vI (M 1796 p2))]) D246_147 rfl (Nat.le_of_ble_eq_true rfl) rfl ?_
                refine im_goto (q := 153) (t := 2) D246_150 rfl ?_
                exact hP.wk ⟨rfl, rfl, rfl, trivial⟩
              · replace hP := hP.2 hc90
                refine im_ld (q := 131) (i := 1) D246_130 rfl rfl rfl ?_
                refine im_ldc2 (q := 134) (n := 24948) D246_131 rfl ?_
                refine im_callV (q := 137) (kd := 1) (y := 183) (n := 1) (ci := 10) (a := 7) (vs := [.ref 7, vL 24948]) (r := []) (L2 := [some (.ref 7), some (vL 24948), none]) D246_134 (im_cal cn_246 cl_8_177) (Or.inl rfl) rfl sf_7 rfl rfl rfl rfl hd ⟨rfl, rfl, trivial⟩ ?_
                refine hP.mono ?_
                rintro _ e98 M94 ⟨rfl, rfl, hP⟩
                refine im_bkN ?_
                refine im_ld (q := 138) (i := 1) D246_137 rfl rfl rfl ?_
                refine im_ld (q := 139) (i := 0) D246_138 rfl rfl rfl ?_
                refine im_gfR (q := 142) (b := 2057) D246_139 (im_fl cn_246 fl_8_26) sf_1793 rfl rfl tR_8_4 rfl ?_
                refine im_ld (q := 143) (i := 2) D246_142 rfl rfl rfl ?_
                refine im_rng (j := p2) sf_2057 hg4.1 hg4.2 (fun hr95 => ?_)
                refine im_lald (q := 144) D246_143 sf_2057 hg4.1 hg4.2 (by decide) rfl ?_
                refine im_callV (q := 147) (kd := 1) (y := 187) (n := 1) (ci := 10) (a := 7) (vs := [.ref 7, vL (M94 2057 p2)]) (r := []) (L2 := [some (.ref 7), some (vL (M94 2057 p2)), none]) D246_144 (im_cal cn_246 cl_8_194) (Or.inl rfl) rfl sf_7 rfl rfl rfl rfl hd ⟨rfl, rfl, trivial⟩ ?_
                refine hP.mono ?_
                rintro _ e97 M96 ⟨rfl, rfl, hP⟩
                refine im_bkN ?_
                refine im_iinc (q := 150) (i := 2) (L' := [some (.ref 1793), some (.ref 7), some (vI (p2 + 1)), some (vI (M 1796 p2))]) D246_147 rfl (Nat.le_of_ble_eq_true rfl) rfl ?_
                refine im_goto (q := 153) (t := 2) D246_150 rfl ?_
                exact hP.wk ⟨rfl, rfl, rfl, trivial⟩
            refine im_icmp (q := 106) (t := 112) D246_103 rfl hr5 (by decide) (fun hc81 => ?_) (fun hc81 => ?_)
            · exact (kJ84  (Or.inl hc81)).wk ⟨rfl, rfl, rfl, rfl, trivial⟩
            · replace hP := hP hc81
              refine im_ld (q := 107) (i := 3) D246_106 rfl rfl rfl ?_
              refine im_bipush (q := 109) D246_107 rfl ?_
              refine im_icmp (q := 112) (t := 125) D246_109 rfl hr5 (by decide) (fun hc82 => ?_) (fun hc82 => ?_)
              · replace hP := hP hc82
                refine im_ld (q := 126) (i := 3) D246_125 rfl rfl rfl ?_
                refine im_iconst (q := 127) D246_126 ?_
                refine im_icmp (q := 130) (t := 137) D246_127 rfl hr5 (by decide) (fun hc100 => ?_) (fun hc100 => ?_)
                · replace hP := hP.1 hc100
                  refine im_ld (q := 138) (i := 1) D246_137 rfl rfl rfl ?_
                  refine im_ld (q := 139) (i := 0) D246_138 rfl rfl rfl ?_
                  refine im_gfR (q := 142) (b := 2057) D246_139 (im_fl cn_246 fl_8_26) sf_1793 rfl rfl tR_8_4 rfl ?_
                  refine im_ld (q := 143) (i := 2) D246_142 rfl rfl rfl ?_
                  refine im_rng (j := p2) sf_2057 hg4.1 hg4.2 (fun hr101 => ?_)
                  refine im_lald (q := 144) D246_143 sf_2057 hg4.1 hg4.2 (by decide) rfl ?_
                  refine im_callV (q := 147) (kd := 1) (y := 187) (n := 1) (ci := 10) (a := 7) (vs := [.ref 7, vL (M7 2057 p2)]) (r := []) (L2 := [some (.ref 7), some (vL (M7 2057 p2)), none]) D246_144 (im_cal cn_246 cl_8_194) (Or.inl rfl) rfl sf_7 rfl rfl rfl rfl hd ⟨rfl, rfl, trivial⟩ ?_
                  refine hP.mono ?_
                  rintro _ e103 M102 ⟨rfl, rfl, hP⟩
                  refine im_bkN ?_
                  refine im_iinc (q := 150) (i := 2) (L' := [some (.ref 1793), some (.ref 7), some (vI (p2 + 1)), some (vI (M 1796 p2))]) D246_147 rfl (Nat.le_of_ble_eq_true rfl) rfl ?_
                  refine im_goto (q := 153) (t := 2) D246_150 rfl ?_
                  exact hP.wk ⟨rfl, rfl, rfl, trivial⟩
                · replace hP := hP.2 hc100
                  refine im_ld (q := 131) (i := 1) D246_130 rfl rfl rfl ?_
                  refine im_ldc2 (q := 134) (n := 24948) D246_131 rfl ?_
                  refine im_callV (q := 137) (kd := 1) (y := 183) (n := 1) (ci := 10) (a := 7) (vs := [.ref 7, vL 24948]) (r := []) (L2 := [some (.ref 7), some (vL 24948), none]) D246_134 (im_cal cn_246 cl_8_177) (Or.inl rfl) rfl sf_7 rfl rfl rfl rfl hd ⟨rfl, rfl, trivial⟩ ?_
                  refine hP.mono ?_
                  rintro _ e108 M104 ⟨rfl, rfl, hP⟩
                  refine im_bkN ?_
                  refine im_ld (q := 138) (i := 1) D246_137 rfl rfl rfl ?_
                  refine im_ld (q := 139) (i := 0) D246_138 rfl rfl rfl ?_
                  refine im_gfR (q := 142) (b := 2057) D246_139 (im_fl cn_246 fl_8_26) sf_1793 rfl rfl tR_8_4 rfl ?_
                  refine im_ld (q := 143) (i := 2) D246_142 rfl rfl rfl ?_
                  refine im_rng (j := p2) sf_2057 hg4.1 hg4.2 (fun hr105 => ?_)
                  refine im_lald (q := 144) D246_143 sf_2057 hg4.1 hg4.2 (by decide) rfl ?_
                  refine im_callV (q := 147) (kd := 1) (y := 187) (n := 1) (ci := 10) (a := 7) (vs := [.ref 7, vL (M104 2057 p2)]) (r := []) (L2 := [some (.ref 7), some (vL (M104 2057 p2)), none]) D246_144 (im_cal cn_246 cl_8_194) (Or.inl rfl) rfl sf_7 rfl rfl rfl rfl hd ⟨rfl, rfl, trivial⟩ ?_
                  refine hP.mono ?_
                  rintro _ e107 M106 ⟨rfl, rfl, hP⟩
                  refine im_bkN ?_
                  refine im_iinc (q := 150) (i := 2) (L' := [some (.ref 1793), some (.ref 7), some (vI (p2 + 1)), some (vI (M 1796 p2))]) D246_147 rfl (Nat.le_of_ble_eq_true rfl) rfl ?_
                  refine im_goto (q := 153) (t := 2) D246_150 rfl ?_
                  exact hP.wk ⟨rfl, rfl, rfl, trivial⟩
              · exact (kJ84  (Or.inr ⟨hc81, (Decidable.not_not.mp hc82)⟩)).wk ⟨rfl, rfl, rfl, rfl, trivial⟩
          · replace hP := hP.2 (Decidable.not_not.mp hc79)
            refine im_ld (q := 88) (i := 1) D246_87 rfl rfl rfl ?_
            refine im_ld (q := 89) (i := 0) D246_88 rfl rfl rfl ?_
            refine im_gfR (q := 92) (b := 1795) D246_89 (im_fl cn_246 fl_8_22) sf_1793 rfl rfl tR_8_3 rfl ?_
            refine im_gfR (q := 95) (b := 1799) D246_92 (im_fl cn_246 fl_8_188) sf_1795 rfl rfl tR_7_3 rfl ?_
            refine im_ld (q := 96) (i := 2) D246_95 rfl rfl rfl ?_
            refine im_rng (j := p2) sf_1799 hg4.1 hg4.2 (fun hr80 => ?_)
            refine im_lald (q := 97) D246_96 sf_1799 hg4.1 hg4.2 (by decide) rfl ?_
            refine im_callV (q := 100) (kd := 1) (y := 183) (n := 1) (ci := 10) (a := 7) (vs := [.ref 7, vL (M7 1799 p2)]) (r := []) (L2 := [some (.ref 7), some (vL (M7 1799 p2)), none]) D246_97 (im_cal cn_246 cl_8_177) (Or.inl rfl) rfl sf_7 rfl rfl rfl rfl hd ⟨rfl, rfl, trivial⟩ ?_
            refine hP.mono ?_
            rintro _ e138 M109 ⟨rfl, rfl, hP⟩
            refine im_bkN ?_
            refine im_ld (q := 101) (i := 3) D246_100 rfl rfl rfl ?_
            refine im_bipush (q := 103) D246_101 rfl ?_
            obtain ⟨hP, hJ112⟩ := hP
            have kJ113 : ((((M 1796 p2) = 28)) ∨ ((¬ (M 1796 p2) = 28) ∧ ((M 1796 p2) = 29))) → im_T g d 246 112 [some (.ref 1793), some (.ref 7), some (vI p2), some (vI (M 1796 p2))] [] e M109 K := by
              intro  hx114
              have hP := hJ112  hx114
              refine im_ld (q := 113) (i := 1) D246_112 rfl rfl rfl ?_
              refine im_ld (q := 114) (i := 0) D246_113 rfl rfl rfl ?_
              refine im_gfR (q := 117) (b := 1795) D246_114 (im_fl cn_246 fl_8_22) sf_1793 rfl rfl tR_8_3 rfl ?_
              refine im_gfR (q := 120) (b := 1800) D246_117 (im_fl cn_246 fl_8_148) sf_1795 rfl rfl tR_7_4 rfl ?_
              refine im_ld (q := 121) (i := 2) D246_120 rfl rfl rfl ?_
              obtain ⟨b115, hb116, hP⟩ := hP
              obtain ⟨hb117, hP⟩ := hP
              refine im_aald (q := 122) D246_121 sf_1800 (Or.inl rfl) hg4.1 hg4.2 (by decide) hb116 ?_
              refine im_callV (q := 125) (kd := 1) (y := 177) (n := 1) (ci := 10) (a := 7) (vs := [.ref 7, .ref b115]) (r := []) (L2 := [some (.ref 7), some (.ref b115), none, none, none, none]) D246_122 (im_cal cn_246 cl_8_189) (Or.inl rfl) rfl sf_7 rfl rfl rfl rfl hd ⟨rfl, rfl, trivial⟩ ?_
              refine hP.mono ?_
              rintro _ e128 M118 ⟨rfl, rfl, hP⟩
              refine im_bkN ?_
              refine im_ld (q := 126) (i := 3) D246_125 rfl rfl rfl ?_
              refine im_iconst (q := 127) D246_126 ?_
              refine im_icmp (q := 130) (t := 137) D246_127 rfl hr5 (by decide) (fun hc119 => ?_) (fun hc119 => ?_)
              · replace hP := hP.1 hc119
                refine im_ld (q := 138) (i := 1) D246_137 rfl rfl rfl ?_
                refine im_ld (q := 139) (i := 0) D246_138 rfl rfl rfl ?_
                refine im_gfR (q := 142) (b := 2057) D246_139 (im_fl cn_246 fl_8_26) sf_1793 rfl rfl tR_8_4 rfl ?_
                refine im_ld (q := 143) (i := 2) D246_142 rfl rfl rfl ?_
                refine im_rng (j := p2) sf_2057 hg4.1 hg4.2 (fun hr120 => ?_)
                refine im_lald (q := 144) D246_143 sf_2057 hg4.1 hg4.2 (by decide) rfl ?_
                refine im_callV (q := 147) (kd := 1) (y := 187) (n := 1) (ci := 10) (a := 7) (vs := [.ref 7, vL (M118 2057 p2)]) (r := []) (L2 := [some (.ref 7), some (vL (M118 2057 p2)), none]) D246_144 (im_cal cn_246 cl_8_194) (Or.inl rfl) rfl sf_7 rfl rfl rfl rfl hd ⟨rfl, rfl, trivial⟩ ?_
                refine hP.mono ?_
                rintro _ e122 M121 ⟨rfl, rfl, hP⟩
                refine im_bkN ?_
                refine im_iinc (q := 150) (i := 2) (L' := [some (.ref 1793), some (.ref 7), some (vI (p2 + 1)), some (vI (M 1796 p2))]) D246_147 rfl (Nat.le_of_ble_eq_true rfl) rfl ?_
                refine im_goto (q := 153) (t := 2) D246_150 rfl ?_
                exact hP.wk ⟨rfl, rfl, rfl, trivial⟩
              · replace hP := hP.2 hc119
                refine im_ld (q := 131) (i := 1) D246_130 rfl rfl rfl ?_
                refine im_ldc2 (q := 134) (n := 24948) D246_131 rfl ?_
                refine im_callV (q := 137) (kd := 1) (y := 183) (n := 1) (ci := 10) (a := 7) (vs := [.ref 7, vL 24948]) (r := []) (L2 := [some (.ref 7), some (vL 24948), none]) D246_134 (im_cal cn_246 cl_8_177) (Or.inl rfl) rfl sf_7 rfl rfl rfl rfl hd ⟨rfl, rfl, trivial⟩ ?_
                refine hP.mono ?_
                rintro _ e127 M123 ⟨rfl, rfl, hP⟩
                refine im_bkN ?_
                refine im_ld (q := 138) (i := 1) D246_137 rfl rfl rfl ?_
                refine im_ld (q := 139) (i := 0) D246_138 rfl rfl rfl ?_
                refine im_gfR (q := 142) (b := 2057) D246_139 (im_fl cn_246 fl_8_26) sf_1793 rfl rfl tR_8_4 rfl ?_
                refine im_ld (q := 143) (i := 2) D246_142 rfl rfl rfl ?_
                refine im_rng (j := p2) sf_2057 hg4.1 hg4.2 (fun hr124 => ?_)
                refine im_lald (q := 144) D246_143 sf_2057 hg4.1 hg4.2 (by decide) rfl ?_
                refine im_callV (q := 147) (kd := 1) (y := 187) (n := 1) (ci := 10) (a := 7) (vs := [.ref 7, vL (M123 2057 p2)]) (r := []) (L2 := [some (.ref 7), some (vL (M123 2057 p2)), none]) D246_144 (im_cal cn_246 cl_8_194) (Or.inl rfl) rfl sf_7 rfl rfl rfl rfl hd ⟨rfl, rfl, trivial⟩ ?_
                refine hP.mono ?_
                rintro _ e126 M125 ⟨rfl, rfl, hP⟩
                refine im_bkN ?_
                refine im_iinc (q := 150) (i := 2) (L' := [some (.ref 1793), some (.ref 7), some (vI (p2 + 1)), some (vI (M 1796 p2))]) D246_147 rfl (Nat.le_of_ble_eq_true rfl) rfl ?_
                refine im_goto (q := 153) (t := 2) D246_150 rfl ?_
                exact hP.wk ⟨rfl, rfl, rfl, trivial⟩
            refine im_icmp (q := 106) (t := 112) D246_103 rfl hr5 (by decide) (fun hc110 => ?_) (fun hc110 => ?_)
            · exact (kJ113  (Or.inl hc110)).wk ⟨rfl, rfl, rfl, rfl, trivial⟩
            · replace hP := hP hc110
              refine im_ld (q := 107) (i := 3) D246_106 rfl rfl rfl ?_
              refine im_bipush (q := 109) D246_107 rfl ?_
              refine im_icmp (q := 112) (t := 125) D246_109 rfl hr5 (by decide) (fun hc111 => ?_) (fun hc111 => ?_)
              · replace hP := hP hc111
                refine im_ld (q := 126) (i := 3) D246_125 rfl rfl rfl ?_
                refine im_iconst (q := 127) D246_126 ?_
                refine im_icmp (q := 130) (t := 137) D246_127 rfl hr5 (by decide) (fun hc129 => ?_) (fun hc129 => ?_)
                · replace hP := hP.1 hc129
                  refine im_ld (q := 138) (i := 1) D246_137 rfl rfl rfl ?_
                  refine im_ld (q := 139) (i := 0) D246_138 rfl rfl rfl ?_
                  refine im_gfR (q := 142) (b := 2057) D246_139 (im_fl cn_246 fl_8_26) sf_1793 rfl rfl tR_8_4 rfl ?_
                  refine im_ld (q := 143) (i := 2) D246_142 rfl rfl rfl ?_
                  refine im_rng (j := p2) sf_2057 hg4.1 hg4.2 (fun hr130 => ?_)
                  refine im_lald (q := 144) D246_143 sf_2057 hg4.1 hg4.2 (by decide) rfl ?_
                  refine im_callV (q := 147) (kd := 1) (y := 187) (n := 1) (ci := 10) (a := 7) (vs := [.ref 7, vL (M109 2057 p2)]) (r := []) (L2 := [some (.ref 7), some (vL (M109 2057 p2)), none]) D246_144 (im_cal cn_246 cl_8_194) (Or.inl rfl) rfl sf_7 rfl rfl rfl rfl hd ⟨rfl, rfl, trivial⟩ ?_
                  refine hP.mono ?_
                  rintro _ e132 M131 ⟨rfl, rfl, hP⟩
                  refine im_bkN ?_
                  refine im_iinc (q := 150) (i := 2) (L' := [some (.ref 1793), some (.ref 7), some (vI (p2 + 1)), some (vI (M 1796 p2))]) D246_147 rfl (Nat.le_of_ble_eq_true rfl) rfl ?_
                  refine im_goto (q := 153) (t := 2) D246_150 rfl ?_
                  exact hP.wk ⟨rfl, rfl, rfl, trivial⟩
                · replace hP := hP.2 hc129
                  refine im_ld (q := 131) (i := 1) D246_130 rfl rfl rfl ?_
                  refine im_ldc2 (q := 134) (n := 24948) D246_131 rfl ?_
                  refine im_callV (q := 137) (kd := 1) (y := 183) (n := 1) (ci := 10) (a := 7) (vs := [.ref 7, vL 24948]) (r := []) (L2 := [some (.ref 7), some (vL 24948), none]) D246_134 (im_cal cn_246 cl_8_177) (Or.inl rfl) rfl sf_7 rfl rfl rfl rfl hd ⟨rfl, rfl, trivial⟩ ?_
                  refine hP.mono ?_
                  rintro _ e137 M133 ⟨rfl, rfl, hP⟩
                  refine im_bkN ?_
                  refine im_ld (q := 138) (i := 1) D246_137 rfl rfl rfl ?_
                  refine im_ld (q := 139) (i := 0) D246_138 rfl rfl rfl ?_
                  refine im_gfR (q := 142) (b := 2057) D246_139 (im_fl cn_246 fl_8_26) sf_1793 rfl rfl tR_8_4 rfl ?_
                  refine im_ld (q := 143) (i := 2) D246_142 rfl rfl rfl ?_
                  refine im_rng (j := p2) sf_2057 hg4.1 hg4.2 (fun hr134 => ?_)
                  refine im_lald (q := 144) D246_143 sf_2057 hg4.1 hg4.2 (by decide) rfl ?_
                  refine im_callV (q := 147) (kd := 1) (y := 187) (n := 1) (ci := 10) (a := 7) (vs := [.ref 7, vL (M133 2057 p2)]) (r := []) (L2 := [some (.ref 7), some (vL (M133 2057 p2)), none]) D246_144 (im_cal cn_246 cl_8_194) (Or.inl rfl) rfl sf_7 rfl rfl rfl rfl hd ⟨rfl, rfl, trivial⟩ ?_
                  refine hP.mono ?_
                  rintro _ e136 M135 ⟨rfl, rfl, hP⟩
                  refine im_bkN ?_
                  refine im_iinc (q := 150) (i := 2) (L' := [some (.ref 1793), some (.ref 7), some (vI (p2 + 1)), some (vI (M 1796 p2))]) D246_147 rfl (Nat.le_of_ble_eq_true rfl) rfl ?_
                  refine im_goto (q := 153) (t := 2) D246_150 rfl ?_
                  exact hP.wk ⟨rfl, rfl, rfl, trivial⟩
              · exact (kJ113  (Or.inr ⟨hc110, (Decidable.not_not.mp hc111)⟩)).wk ⟨rfl, rfl, rfl, rfl, trivial⟩
        · exact (kJ11  (Or.inr ⟨hc8, (Decidable.not_not.mp hc9)⟩)).wk ⟨rfl, rfl, rfl, rfl, trivial⟩
    · replace hP := hP.2 (Decidable.not_not.mp hc6)
      refine im_ld (q := 29) (i := 1) D246_28 rfl rfl rfl ?_
      refine im_ldc2 (q := 32) (n := 2002872692) D246_29 rfl ?_
      refine im_callV (q := 35) (kd := 1) (y := 183) (n := 1) (ci := 10) (a := 7) (vs := [.ref 7, vL 2002872692]) (r := []) (L2 := [some (.ref 7), some (vL 2002872692), none]) D246_32 (im_cal cn_246 cl_8_177) (Or.inl rfl) rfl sf_7 rfl rfl rfl rfl hd ⟨rfl, rfl, trivial⟩ ?_
      refine hP.mono ?_
      rintro _ e272 M140 ⟨rfl, rfl, hP⟩
      refine im_bkN ?_
      refine im_goto (q := 38) (t := 43) D246_35 rfl ?_
      refine im_ld (q := 44) (i := 3) D246_43 rfl rfl rfl ?_
      refine im_bipush (q := 46) D246_44 rfl ?_
      obtain ⟨hP, hJ143⟩ := hP
      have kJ144 : ((((M 1796 p2) = 28)) ∨ ((¬ (M 1796 p2) = 28) ∧ ((M 1796 p2) = 29))) → im_T g d 246 55 [some (.ref 1793), some (.ref 7), some (vI p2), some (vI (M 1796 p2))] [] e M140 K := by
        intro  hx145
        have hP := hJ143  hx145
        refine im_ld (q := 56) (i := 1) D246_55 rfl rfl rfl ?_
        refine im_ld (q := 57) (i := 0) D246_56 rfl rfl rfl ?_
        refine im_gfR (q := 60) (b := 1795) D246_57 (im_fl cn_246 fl_8_22) sf_1793 rfl rfl tR_8_3 rfl ?_
        refine im_gfR (q := 63) (b := 1797) D246_60 (im_fl cn_246 fl_8_186) sf_1795 rfl rfl tR_7_1 rfl ?_
        refine im_ld (q := 64) (i := 2) D246_63 rfl rfl rfl ?_
        refine im_rng (j := p2) sf_1797 hg4.1 hg4.2 (fun hr146 => ?_)
        refine im_lald (q := 65) D246_64 sf_1797 hg4.1 hg4.2 (by decide) rfl ?_
        refine im_callV (q := 68) (kd := 1) (y := 183) (n := 1) (ci := 10) (a := 7) (vs := [.ref 7, vL (M140 1797 p2)]) (r := []) (L2 := [some (.ref 7), some (vL (M140 1797 p2)), none]) D246_65 (im_cal cn_246 cl_8_177) (Or.inl rfl) rfl sf_7 rfl rfl rfl rfl hd ⟨rfl, rfl, trivial⟩ ?_
        refine hP.mono ?_
        rintro _ e211 M147 ⟨rfl, rfl, hP⟩
        refine im_bkN ?_
        refine im_ld (q := 69) (i := 1) D246_68 rfl rfl rfl ?_
        refine im_ld (q := 70) (i := 0) D246_69 rfl rfl rfl ?_
        refine im_gfR (q := 73) (b := 1795) D246_70 (im_fl cn_246 fl_8_22) sf_1793 rfl rfl tR_8_3 rfl ?_
        refine im_gfR (q := 76) (b := 1798) D246_73 (im_fl cn_246 fl_8_187) sf_1795 rfl rfl tR_7_2 rfl ?_
        refine im_ld (q := 77) (i := 2) D246_76 rfl rfl rfl ?_
        refine im_rng (j := p2) sf_1798 hg4.1 hg4.2 (fun hr148 => ?_)
        refine im_lald (q := 78) D246_77 sf_1798 hg4.1 hg4.2 (by decide) rfl ?_
        refine im_callV (q := 81) (kd := 1) (y := 183) (n := 1) (ci := 10) (a := 7) (vs := [.ref 7, vL (M147 1798 p2)]) (r := []) (L2 := [some (.ref 7), some (vL (M147 1798 p2)), none]) D246_78 (im_cal cn_246 cl_8_177) (Or.inl rfl) rfl sf_7 rfl rfl rfl rfl hd ⟨rfl, rfl, trivial⟩ ?_
        refine hP.mono ?_
        rintro _ e210 M149 ⟨rfl, rfl, hP⟩
        refine im_bkN ?_
        refine im_ld (q := 82) (i := 3) D246_81 rfl rfl rfl ?_
        refine im_bipush (q := 84) D246_82 rfl ?_
        refine im_icmp (q := 87) (t := 100) D246_84 rfl hr5 (by decide) (fun hc150 => ?_) (fun hc150 => ?_)
        · replace hP := hP.1 hc150
          refine im_ld (q := 101) (i := 3) D246_100 rfl rfl rfl ?_
          refine im_bipush (q := 103) D246_101 rfl ?_
          obtain ⟨hP, hJ154⟩ := hP
          have kJ155 : ((((M 1796 p2) = 28)) ∨ ((¬ (M 1796 p2) = 28) ∧ ((M 1796 p2) = 29))) → im_T g d 246 112 [some (.ref 1793), some (.ref 7), some (vI p2), some (vI (M 1796 p2))] [] e M149 K := by
            intro  hx156
            have hP := hJ154  hx156
            refine im_ld (q := 113) (i := 1) D246_112 rfl rfl rfl ?_
            refine im_ld (q := 114) (i := 0) D246_113 rfl rfl rfl ?_
            refine im_gfR (q := 117) (b := 1795) D246_114 (im_fl cn_246 fl_8_22) sf_1793 rfl rfl tR_8_3 rfl ?_
            refine im_gfR (q := 120) (b := 1800) D246_117 (im_fl cn_246 fl_8_148) sf_1795 rfl rfl tR_7_4 rfl ?_
            refine im_ld (q := 121) (i := 2) D246_120 rfl rfl rfl ?_
            obtain ⟨b157, hb158, hP⟩ := hP
            obtain ⟨hb159, hP⟩ := hP
            refine im_aald (q := 122) D246_121 sf_1800 (Or.inl rfl) hg4.1 hg4.2 (by decide) hb158 ?_
            refine im_callV (q := 125) (kd := 1) (y := 177) (n := 1) (ci := 10) (a := 7) (vs := [.ref 7, .ref b157]) (r := []) (L2 := [some (.ref 7), some (.ref b157), none, none, none, none]) D246_122 (im_cal cn_246 cl_8_189) (Or.inl rfl) rfl sf_7 rfl rfl rfl rfl hd ⟨rfl, rfl, trivial⟩ ?_
            refine hP.mono ?_
            rintro _ e170 M160 ⟨rfl, rfl, hP⟩
            refine im_bkN ?_
            refine im_ld (q := 126) (i := 3) D246_125 rfl rfl rfl ?_
            refine im_iconst (q := 127) D246_126 ?_
            refine im_icmp (q := 130) (t := 137) D246_127 rfl hr5 (by decide) (fun hc161 => ?_) (fun hc161 => ?_)
            · replace hP := hP.1 hc161
              refine im_ld (q := 138) (i := 1) D246_137 rfl rfl rfl ?_
              refine im_ld (q := 139) (i := 0) D246_138 rfl rfl rfl ?_
              refine im_gfR (q := 142) (b := 2057) D246_139 (im_fl cn_246 fl_8_26) sf_1793 rfl rfl tR_8_4 rfl ?_
              refine im_ld (q := 143) (i := 2) D246_142 rfl rfl rfl ?_
              refine im_rng (j := p2) sf_2057 hg4.1 hg4.2 (fun hr162 => ?_)
              refine im_lald (q := 144) D246_143 sf_2057 hg4.1 hg4.2 (by decide) rfl ?_
              refine im_callV (q := 147) (kd := 1) (y := 187) (n := 1) (ci := 10) (a := 7) (vs := [.ref 7, vL (M160 2057 p2)]) (r := []) (L2 := [some (.ref 7), some (vL (M160 2057 p2)), none]) D246_144 (im_cal cn_246 cl_8_194) (Or.inl rfl) rfl sf_7 rfl rfl rfl rfl hd ⟨rfl, rfl, trivial⟩ ?_
              refine hP.mono ?_
              rintro _ e164 M163 ⟨rfl, rfl, hP⟩
              refine im_bkN ?_
              refine im_iinc (q := 150) (i := 2) (L' := [some (.ref 1793), some (.ref 7), some (vI (p2 + 1)), some (vI (M 1796 p2))]) D246_147 rfl (Nat.le_of_ble_eq_true rfl) rfl ?_
              refine im_goto (q := 153) (t := 2) D246_150 rfl ?_
              exact hP.wk ⟨rfl, rfl, rfl, trivial⟩
            · replace hP := hP.2 hc161
              refine im_ld (q := 131) (i := 1) D246_130 rfl rfl rfl ?_
              refine im_ldc2 (q := 134) (n := 24948) D246_131 rfl ?_
              refine im_callV (q := 137) (kd := 1) (y := 183) (n := 1) (ci := 10) (a := 7) (vs := [.ref 7, vL 24948]) (r := []) (L2 := [some (.ref 7), some (vL 24948), none]) D246_134 (im_cal cn_246 cl_8_177) (Or.inl rfl) rfl sf_7 rfl rfl rfl rfl hd ⟨rfl, rfl, trivial⟩ ?_
              refine hP.mono ?_
              rintro _ e169 M165 ⟨rfl, rfl, hP⟩
              refine im_bkN ?_
              refine im_ld (q := 138) (i := 1) D246_137 rfl rfl rfl ?_
              refine im_ld (q := 139) (i := 0) D246_138 rfl rfl rfl ?_
              refine im_gfR (q := 142) (b := 2057) D246_139 (im_fl cn_246 fl_8_26) sf_1793 rfl rfl tR_8_4 rfl ?_
              refine im_ld (q := 143) (i := 2) D246_142 rfl rfl rfl ?_
              refine im_rng (j := p2) sf_2057 hg4.1 hg4.2 (fun hr166 => ?_)
              refine im_lald (q := 144) D246_143 sf_2057 hg4.1 hg4.2 (by decide) rfl ?_
              refine im_callV (q := 147) (kd := 1) (y := 187) (n := 1) (ci := 10) (a := 7) (vs := [.ref 7, vL (M165 2057 p2)]) (r := []) (L2 := [some (.ref 7), some (vL (M165 2057 p2)), none]) D246_144 (im_cal cn_246 cl_8_194) (Or.inl rfl) rfl sf_7 rfl rfl rfl rfl hd ⟨rfl, rfl, trivial⟩ ?_
              refine hP.mono ?_
              rintro _ e168 M167 ⟨rfl, rfl, hP⟩
              refine im_bkN ?_
              refine im_iinc (q := 150) (i := 2) (L' := [some (.ref 1793), some (.ref 7), some (vI (p2 + 1)), some (vI (M 1796 p2))]) D246_147 rfl (Nat.le_of_ble_eq_true rfl) rfl ?_
              refine im_goto (q := 153) (t := 2) D246_150 rfl ?_
              exact hP.wk ⟨rfl, rfl, rfl, trivial⟩
          refine im_icmp (q := 106) (t := 112) D246_103 rfl hr5 (by decide) (fun hc152 => ?_) (fun hc152 => ?_)
          · exact (kJ155  (Or.inl hc152)).wk ⟨rfl, rfl, rfl, rfl, trivial⟩
          · replace hP := hP hc152
            refine im_ld (q := 107) (i := 3) D246_106 rfl rfl rfl ?_
            refine im_bipush (q := 109) D246_107 rfl ?_
            refine im_icmp (q := 112) (t := 125) D246_109 rfl hr5 (by decide) (fun hc153 => ?_) (fun hc153 => ?_)
            · replace hP := hP hc153
              refine im_ld (q := 126) (i := 3) D246_125 rfl rfl rfl ?_
              refine im_iconst (q := 127) D246_126 ?_
              refine im_icmp (q := 130) (t := 137) D246_127 rfl hr5 (by decide) (fun hc171 => ?_) (fun hc171 => ?_)
              · replace hP := hP.1 hc171
                refine im_ld (q := 138) (i := 1) D246_137 rfl rfl rfl ?_
                refine im_ld (q := 139) (i := 0) D246_138 rfl rfl rfl ?_
                refine im_gfR (q := 142) (b := 2057) D246_139 (im_fl cn_246 fl_8_26) sf_1793 rfl rfl tR_8_4 rfl ?_
                refine im_ld (q := 143) (i := 2) D246_142 rfl rfl rfl ?_
                refine im_rng (j := p2) sf_2057 hg4.1 hg4.2 (fun hr172 => ?_)
                refine im_lald (q := 144) D246_143 sf_2057 hg4.1 hg4.2 (by decide) rfl ?_
                refine im_callV (q := 147) (kd := 1) (y := 187) (n := 1) (ci := 10) (a := 7) (vs := [.ref 7, vL (M149 2057 p2)]) (r := []) (L2 := [some (.ref 7), some (vL (M149 2057 p2)), none]) D246_144 (im_cal cn_246 cl_8_194) (Or.inl rfl) rfl sf_7 rfl rfl rfl rfl hd ⟨rfl, rfl, trivial⟩ ?_
                refine hP.mono ?_
                rintro _ e174 M173 ⟨rfl, rfl, hP⟩
                refine im_bkN ?_
                refine im_iinc (q := 150) (i := 2) (L' := [some (.ref 1793), some (.ref 7), some (vI (p2 + 1)), some (vI (M 1796 p2))]) D246_147 rfl (Nat.le_of_ble_eq_true rfl) rfl ?_
                refine im_goto (q := 153) (t := 2) D246_150 rfl ?_
                exact hP.wk ⟨rfl, rfl, rfl, trivial⟩
              · replace hP := hP.2 hc171
                refine im_ld (q := 131) (i := 1) D246_130 rfl rfl rfl ?_
                refine im_ldc2 (q := 134) (n := 24948) D246_131 rfl ?_
                refine im_callV (q := 137) (kd := 1) (y := 183) (n := 1) (ci := 10) (a := 7) (vs := [.ref 7, vL 24948]) (r := []) (L2 := [some (.ref 7), some (vL 24948), none]) D246_134 (im_cal cn_246 cl_8_177) (Or.inl rfl) rfl sf_7 rfl rfl rfl rfl hd ⟨rfl, rfl, trivial⟩ ?_
                refine hP.mono ?_
                rintro _ e179 M175 ⟨rfl, rfl, hP⟩
                refine im_bkN ?_
                refine im_ld (q := 138) (i := 1) D246_137 rfl rfl rfl ?_
                refine im_ld (q := 139) (i := 0) D246_138 rfl rfl rfl ?_
                refine im_gfR (q := 142) (b := 2057) D246_139 (im_fl cn_246 fl_8_26) sf_1793 rfl rfl tR_8_4 rfl ?_
                refine im_ld (q := 143) (i := 2) D246_142 rfl rfl rfl ?_
                refine im_rng (j := p2) sf_2057 hg4.1 hg4.2 (fun hr176 => ?_)
                refine im_lald (q := 144) D246_143 sf_2057 hg4.1 hg4.2 (by decide) rfl ?_
                refine im_callV (q := 147) (kd := 1) (y := 187) (n := 1) (ci := 10) (a := 7) (vs := [.ref 7, vL (M175 2057 p2)]) (r := []) (L2 := [some (.ref 7), some (vL (M175 2057 p2)), none]) D246_144 (im_cal cn_246 cl_8_194) (Or.inl rfl) rfl sf_7 rfl rfl rfl rfl hd ⟨rfl, rfl, trivial⟩ ?_
                refine hP.mono ?_
                rintro _ e178 M177 ⟨rfl, rfl, hP⟩
                refine im_bkN ?_
                refine im_iinc (q := 150) (i := 2) (L' := [some (.ref 1793), some (.ref 7), some (vI (p2 + 1)), some (vI (M 1796 p2))]) D246_147 rfl (Nat.le_of_ble_eq_true rfl) rfl ?_
                refine im_goto (q := 153) (t := 2) D246_150 rfl ?_
                exact hP.wk ⟨rfl, rfl, rfl, trivial⟩
            · exact (kJ155  (Or.inr ⟨hc152, (Decidable.not_not.mp hc153)⟩)).wk ⟨rfl, rfl, rfl, rfl, trivial⟩
        · replace hP := hP.2 (Decidable.not_not.mp hc150)
          refine im_ld (q := 88) (i := 1) D246_87 rfl rfl rfl ?_
          refine im_ld (q := 89) (i := 0) D246_88 rfl rfl rfl ?_
          refine im_gfR (q := 92) (b := 1795) D246_89 (im_fl cn_246 fl_8_22) sf_1793 rfl rfl tR_8_3 rfl ?_
          refine im_gfR (q := 95) (b := 1799) D246_92 (im_fl cn_246 fl_8_188) sf_1795 rfl rfl tR_7_3 rfl ?_
          refine im_ld (q := 96) (i := 2) D246_95 rfl rfl rfl ?_
          refine im_rng (j := p2) sf_1799 hg4.1 hg4.2 (fun hr151 => ?_)
          refine im_lald (q := 97) D246_96 sf_1799 hg4.1 hg4.2 (by decide) rfl ?_
          refine im_callV (q := 100) (kd := 1) (y := 183) (n := 1) (ci := 10) (a := 7) (vs := [.ref 7, vL (M149 1799 p2)]) (r := []) (L2 := [some (.ref 7), some (vL (M149 1799 p2)), none]) D246_97 (im_cal cn_246 cl_8_177) (Or.inl rfl) rfl sf_7 rfl rfl rfl rfl hd ⟨rfl, rfl, trivial⟩ ?_
          refine hP.mono ?_
          rintro _ e209 M180 ⟨rfl, rfl, hP⟩
          refine im_bkN ?_
          refine im_ld (q := 101) (i := 3) D246_100 rfl rfl rfl ?_
          refine im_bipush (q := 103) D246_101 rfl ?_
          obtain ⟨hP, hJ183⟩ := hP
          have kJ184 : ((((M 1796 p2) = 28)) ∨ ((¬ (M 1796 p2) = 28) ∧ ((M 1796 p2) = 29))) → im_T g d 246 112 [some (.ref 1793), some (.ref 7), some (vI p2), some (vI (M 1796 p2))] [] e M180 K := by
            intro  hx185
            have hP := hJ183  hx185
            refine im_ld (q := 113) (i := 1) D246_112 rfl rfl rfl ?_
            refine im_ld (q := 114) (i := 0) D246_113 rfl rfl rfl ?_
            refine im_gfR (q := 117) (b := 1795) D246_114 (im_fl cn_246 fl_8_22) sf_1793 rfl rfl tR_8_3 rfl ?_
            refine im_gfR (q := 120) (b := 1800) D246_117 (im_fl cn_246 fl_8_148) sf_1795 rfl rfl tR_7_4 rfl ?_
            refine im_ld (q := 121) (i := 2) D246_120 rfl rfl rfl ?_
            obtain ⟨b186, hb187, hP⟩ := hP
            obtain ⟨hb188, hP⟩ := hP
            refine im_aald (q := 122) D246_121 sf_1800 (Or.inl rfl) hg4.1 hg4.2 (by decide) hb187 ?_
            refine im_callV (q := 125) (kd := 1) (y := 177) (n := 1) (ci := 10) (a := 7) (vs := [.ref 7, .ref b186]) (r := []) (L2 := [some (.ref 7), some (.ref b186), none, none, none, none]) D246_122 (im_cal cn_246 cl_8_189) (Or.inl rfl) rfl sf_7 rfl rfl rfl rfl hd ⟨rfl, rfl, trivial⟩ ?_
            refine hP.mono ?_
            rintro _ e199 M189 ⟨rfl, rfl, hP⟩
            refine im_bkN ?_
            refine im_ld (q := 126) (i := 3) D246_125 rfl rfl rfl ?_
            refine im_iconst (q := 127) D246_126 ?_
            refine im_icmp (q := 130) (t := 137) D246_127 rfl hr5 (by decide) (fun hc190 => ?_) (fun hc190 => ?_)
            · replace hP := hP.1 hc190
              refine im_ld (q := 138) (i := 1) D246_137 rfl rfl rfl ?_
              refine im_ld (q := 139) (i := 0) D246_138 rfl rfl rfl ?_
              refine im_gfR (q := 142) (b := 2057) D246_139 (im_fl cn_246 fl_8_26) sf_1793 rfl rfl tR_8_4 rfl ?_
              refine im_ld (q := 143) (i := 2) D246_142 rfl rfl rfl ?_
              refine im_rng (j := p2) sf_2057 hg4.1 hg4.2 (fun hr191 => ?_)
              refine im_lald (q := 144) D246_143 sf_2057 hg4.1 hg4.2 (by decide) rfl ?_
              refine im_callV (q := 147) (kd := 1) (y := 187) (n := 1) (ci := 10) (a := 7) (vs := [.ref 7, vL (M189 2057 p2)]) (r := []) (L2 := [some (.ref 7), some (vL (M189 2057 p2)), none]) D246_144 (im_cal cn_246 cl_8_194) (Or.inl rfl) rfl sf_7 rfl rfl rfl rfl hd ⟨rfl, rfl, trivial⟩ ?_
              refine hP.mono ?_
              rintro _ e193 M192 ⟨rfl, rfl, hP⟩
              refine im_bkN ?_
              refine im_iinc (q := 150) (i := 2) (L' := [some (.ref 1793), some (.ref 7), some (vI (p2 + 1)), some (vI (M 1796 p2))]) D246_147 rfl (Nat.le_of_ble_eq_true rfl) rfl ?_
              refine im_goto (q := 153) (t := 2) D246_150 rfl ?_
              exact hP.wk ⟨rfl, rfl, rfl, trivial⟩
            · replace hP := hP.2 hc190
              refine im_ld (q := 131) (i := 1) D246_130 rfl rfl rfl ?_
              refine im_ldc2 (q := 134) (n := 24948) D246_131 rfl ?_
              refine im_callV (q := 137) (kd := 1) (y := 183) (n := 1) (ci := 10) (a := 7) (vs := [.ref 7, vL 24948]) (r := []) (L2 := [some (.ref 7), some (vL 24948), none]) D246_134 (im_cal cn_246 cl_8_177) (Or.inl rfl) rfl sf_7 rfl rfl rfl rfl hd ⟨rfl, rfl, trivial⟩ ?_
              refine hP.mono ?_
              rintro _ e198 M194 ⟨rfl, rfl, hP⟩
              refine im_bkN ?_
              refine im_ld (q := 138) (i := 1) D246_137 rfl rfl rfl ?_
              refine im_ld (q := 139) (i := 0) D246_138 rfl rfl rfl ?_
              refine im_gfR (q := 142) (b := 2057) D246_139 (im_fl cn_246 fl_8_26) sf_1793 rfl rfl tR_8_4 rfl ?_
              refine im_ld (q := 143) (i := 2) D246_142 rfl rfl rfl ?_
              refine im_rng (j := p2) sf_2057 hg4.1 hg4.2 (fun hr195 => ?_)
              refine im_lald (q := 144) D246_143 sf_2057 hg4.1 hg4.2 (by decide) rfl ?_
              refine im_callV (q := 147) (kd := 1) (y := 187) (n := 1) (ci := 10) (a := 7) (vs := [.ref 7, vL (M194 2057 p2)]) (r := []) (L2 := [some (.ref 7), some (vL (M194 2057 p2)), none]) D246_144 (im_cal cn_246 cl_8_194) (Or.inl rfl) rfl sf_7 rfl rfl rfl rfl hd ⟨rfl, rfl, trivial⟩ ?_
              refine hP.mono ?_
              rintro _ e197 M196 ⟨rfl, rfl, hP⟩
              refine im_bkN ?_
              refine im_iinc (q := 150) (i := 2) (L' := [some (.ref 1793), some (.ref 7), some (vI (p2 + 1)), some (vI (M 1796 p2))]) D246_147 rfl (Nat.le_of_ble_eq_true rfl) rfl ?_
              refine im_goto (q := 153) (t := 2) D246_150 rfl ?_
              exact hP.wk ⟨rfl, rfl, rfl, trivial⟩
          refine im_icmp (q := 106) (t := 112) D246_103 rfl hr5 (by decide) (fun hc181 => ?_) (fun hc181 => ?_)
          · exact (kJ184  (Or.inl hc181)).wk ⟨rfl, rfl, rfl, rfl, trivial⟩
          · replace hP := hP hc181
            refine im_ld (q := 107) (i := 3) D246_106 rfl rfl rfl ?_
            refine im_bipush (q := 109) D246_107 rfl ?_
            refine im_icmp (q := 112) (t := 125) D246_109 rfl hr5 (by decide) (fun hc182 => ?_) (fun hc182 => ?_)
            · replace hP := hP hc182
              refine im_ld (q := 126) (i := 3) D246_125 rfl rfl rfl ?_
              refine im_iconst (q := 127) D246_126 ?_
              refine im_icmp (q := 130) (t := 137) D246_127 rfl hr5 (by decide) (fun hc200 => ?_) (fun hc200 => ?_)
              · replace hP := hP.1 hc200
                refine im_ld (q := 138) (i := 1) D246_137 rfl rfl rfl ?_
                refine im_ld (q := 139) (i := 0) D246_138 rfl rfl rfl ?_
                refine im_gfR (q := 142) (b := 2057) D246_139 (im_fl cn_246 fl_8_26) sf_1793 rfl rfl tR_8_4 rfl ?_
                refine im_ld (q := 143) (i := 2) D246_142 rfl rfl rfl ?_
                refine im_rng (j := p2) sf_2057 hg4.1 hg4.2 (fun hr201 => ?_)
                refine im_lald (q := 144) D246_143 sf_2057 hg4.1 hg4.2 (by decide) rfl ?_
                refine im_callV (q := 147) (kd := 1) (y := 187) (n := 1) (ci := 10) (a := 7) (vs := [.ref 7, vL (M180 2057 p2)]) (r := []) (L2 := [some (.ref 7), some (vL (M180 2057 p2)), none]) D246_144 (im_cal cn_246 cl_8_194) (Or.inl rfl) rfl sf_7 rfl rfl rfl rfl hd ⟨rfl, rfl, trivial⟩ ?_
                refine hP.mono ?_
                rintro _ e203 M202 ⟨rfl, rfl, hP⟩
                refine im_bkN ?_
                refine im_iinc (q := 150) (i := 2) (L' := [some (.ref 1793), some (.ref 7), some (vI (p2 + 1)), some (vI (M 1796 p2))]) D246_147 rfl (Nat.le_of_ble_eq_true rfl) rfl ?_
                refine im_goto (q := 153) (t := 2) D246_150 rfl ?_
                exact hP.wk ⟨rfl, rfl, rfl, trivial⟩
              · replace hP := hP.2 hc200
                refine im_ld (q := 131) (i := 1) D246_130 rfl rfl rfl ?_
                refine im_ldc2 (q := 134) (n := 24948) D246_131 rfl ?_
                refine im_callV (q := 137) (kd := 1) (y := 183) (n := 1) (ci := 10) (a := 7) (vs := [.ref 7, vL 24948]) (r := []) (L2 := [some (.ref 7), some (vL 24948), none]) D246_134 (im_cal cn_246 cl_8_177) (Or.inl rfl) rfl sf_7 rfl rfl rfl rfl hd ⟨rfl, rfl, trivial⟩ ?_
                refine hP.mono ?_
                rintro _ e208 M204 ⟨rfl, rfl, hP⟩
                refine im_bkN ?_
                refine im_ld (q := 138) (i := 1) D246_137 rfl rfl rfl ?_
                refine im_ld (q := 139) (i := 0) D246_138 rfl rfl rfl ?_
                refine im_gfR (q := 142) (b := 2057) D246_139 (im_fl cn_246 fl_8_26) sf_1793 rfl rfl tR_8_4 rfl ?_
                refine im_ld (q := 143) (i := 2) D246_142 rfl rfl rfl ?_
                refine im_rng (j := p2) sf_2057 hg4.1 hg4.2 (fun hr205 => ?_)
                refine im_lald (q := 144) D246_143 sf_2057 hg4.1 hg4.2 (by decide) rfl ?_
                refine im_callV (q := 147) (kd := 1) (y := 187) (n := 1) (ci := 10) (a := 7) (vs := [.ref 7, vL (M204 2057 p2)]) (r := []) (L2 := [some (.ref 7), some (vL (M204 2057 p2)), none]) D246_144 (im_cal cn_246 cl_8_194) (Or.inl rfl) rfl sf_7 rfl rfl rfl rfl hd ⟨rfl, rfl, trivial⟩ ?_
                refine hP.mono ?_
                rintro _ e207 M206 ⟨rfl, rfl, hP⟩
                refine im_bkN ?_
                refine im_iinc (q := 150) (i := 2) (L' := [some (.ref 1793), some (.ref 7), some (vI (p2 + 1)), some (vI (M 1796 p2))]) D246_147 rfl (Nat.le_of_ble_eq_true rfl) rfl ?_
                refine im_goto (q := 153) (t := 2) D246_150 rfl ?_
                exact hP.wk ⟨rfl, rfl, rfl, trivial⟩
            · exact (kJ184  (Or.inr ⟨hc181, (Decidable.not_not.mp hc182)⟩)).wk ⟨rfl, rfl, rfl, rfl, trivial⟩
      refine im_icmp (q := 49) (t := 55) D246_46 rfl hr5 (by decide) (fun hc141 => ?_) (fun hc141 => ?_)
      · exact (kJ144  (Or.inl hc141)).wk ⟨rfl, rfl, rfl, rfl, trivial⟩
      · replace hP := hP hc141
        refine im_ld (q := 50) (i := 3) D246_49 rfl rfl rfl ?_
        refine im_bipush (q := 52) D246_50 rfl ?_
        refine im_icmp (q := 55) (t := 81) D246_52 rfl hr5 (by decide) (fun hc142 => ?_) (fun hc142 => ?_)
        · replace hP := hP hc142
          refine im_ld (q := 82) (i := 3) D246_81 rfl rfl rfl ?_
          refine im_bipush (q := 84) D246_82 rfl ?_
          refine im_icmp (q := 87) (t := 100) D246_84 rfl hr5 (by decide) (fun hc212 => ?_) (fun hc212 => ?_)
          · replace hP := hP.1 hc212
            refine im_ld (q := 101) (i := 3) D246_100 rfl rfl rfl ?_
            refine im_bipush (q := 103) D246_101 rfl ?_
            obtain ⟨hP, hJ216⟩ := hP
            have kJ217 : ((((M 1796 p2) = 28)) ∨ ((¬ (M 1796 p2) = 28) ∧ ((M 1796 p2) = 29))) → im_T g d 246 112 [some (.ref 1793), some (.ref 7), some (vI p2), some (vI (M 1796 p2))] [] e M140 K := by
              intro  hx218
              have hP := hJ216  hx218
              refine im_ld (q := 113) (i := 1) D246_112 rfl rfl rfl ?_
              refine im_ld (q := 114) (i := 0) D246_113 rfl rfl rfl ?_
              refine im_gfR (q := 117) (b := 1795) D246_114 (im_fl cn_246 fl_8_22) sf_1793 rfl rfl tR_8_3 rfl ?_
              refine im_gfR (q := 120) (b := 1800) D246_117 (im_fl cn_246 fl_8_148) sf_1795 rfl rfl tR_7_4 rfl ?_
              refine im_ld (q := 121) (i := 2) D246_120 rfl rfl rfl ?_
              obtain ⟨b219, hb220, hP⟩ := hP
              obtain ⟨hb221, hP⟩ := hP
              refine im_aald (q := 122) D246_121 sf_1800 (Or.inl rfl) hg4.1 hg4.2 (by decide) hb220 ?_
              refine im_callV (q := 125) (kd := 1) (y := 177) (n := 1) (ci := 10) (a := 7) (vs := [.ref 7, .ref b219]) (r := []) (L2 := [some (.ref 7), some (.ref b219), none, none, none, none]) D246_122 (im_cal cn_246 cl_8_189) (Or.inl rfl) rfl sf_7 rfl rfl rfl rfl hd ⟨rfl, rfl, trivial⟩ ?_
              refine hP.mono ?_
              rintro _ e232 M222 ⟨rfl, rfl, hP⟩
              refine im_bkN ?_
              refine im_ld (q := 126) (i := 3) D246_125 rfl rfl rfl ?_
              refine im_iconst (q := 127) D246_126 ?_
              refine im_icmp (q := 130) (t := 137) D246_127 rfl hr5 (by decide) (fun hc223 => ?_) (fun hc223 => ?_)
              · replace hP := hP.1 hc223
                refine im_ld (q := 138) (i := 1) D246_137 rfl rfl rfl ?_
                refine im_ld (q := 139) (i := 0) D246_138 rfl rfl rfl ?_
                refine im_gfR (q := 142) (b := 2057) D246_139 (im_fl cn_246 fl_8_26) sf_1793 rfl rfl tR_8_4 rfl ?_
                refine im_ld (q := 143) (i := 2) D246_142 rfl rfl rfl ?_
                refine im_rng (j := p2) sf_2057 hg4.1 hg4.2 (fun hr224 => ?_)
                refine im_lald (q := 144) D246_143 sf_2057 hg4.1 hg4.2 (by decide) rfl ?_
                refine im_callV (q := 147) (kd := 1) (y := 187) (n := 1) (ci := 10) (a := 7) (vs := [.ref 7, vL (M222 2057 p2)]) (r := []) (L2 := [some (.ref 7), some (vL (M222 2057 p2)), none]) D246_144 (im_cal cn_246 cl_8_194) (Or.inl rfl) rfl sf_7 rfl rfl rfl rfl hd ⟨rfl, rfl, trivial⟩ ?_
                refine hP.mono ?_
                rintro _ e226 M225 ⟨rfl, rfl, hP⟩
                refine im_bkN ?_
                refine im_iinc (q := 150) (i := 2) (L' := [some (.ref 1793), some (.ref 7), some (vI (p2 + 1)), some (vI (M 1796 p2))]) D246_147 rfl (Nat.le_of_ble_eq_true rfl) rfl ?_
                refine im_goto (q := 153) (t := 2) D246_150 rfl ?_
                exact hP.wk ⟨rfl, rfl, rfl, trivial⟩
              · replace hP := hP.2 hc223
                refine im_ld (q := 131) (i := 1) D246_130 rfl rfl rfl ?_
                refine im_ldc2 (q := 134) (n := 24948) D246_131 rfl ?_
                refine im_callV (q := 137) (kd := 1) (y := 183) (n := 1) (ci := 10) (a := 7) (vs := [.ref 7, vL 24948]) (r := []) (L2 := [some (.ref 7), some (vL 24948), none]) D246_134 (im_cal cn_246 cl_8_177) (Or.inl rfl) rfl sf_7 rfl rfl rfl rfl hd ⟨rfl, rfl, trivial⟩ ?_
                refine hP.mono ?_
                rintro _ e231 M227 ⟨rfl, rfl, hP⟩
                refine im_bkN ?_
                refine im_ld (q := 138) (i := 1) D246_137 rfl rfl rfl ?_
                refine im_ld (q := 139) (i := 0) D246_138 rfl rfl rfl ?_
                refine im_gfR (q := 142) (b := 2057) D246_139 (im_fl cn_246 fl_8_26) sf_1793 rfl rfl tR_8_4 rfl ?_
                refine im_ld (q := 143) (i := 2) D246_142 rfl rfl rfl ?_
                refine im_rng (j := p2) sf_2057 hg4.1 hg4.2 (fun hr228 => ?_)
                refine im_lald (q := 144) D246_143 sf_2057 hg4.1 hg4.2 (by decide) rfl ?_
                refine im_callV (q := 147) (kd := 1) (y := 187) (n := 1) (ci := 10) (a := 7) (vs := [.ref 7, vL (M227 2057 p2)]) (r := []) (L2 := [some (.ref 7), some (vL (M227 2057 p2)), none]) D246_144 (im_cal cn_246 cl_8_194) (Or.inl rfl) rfl sf_7 rfl rfl rfl rfl hd ⟨rfl, rfl, trivial⟩ ?_
                refine hP.mono ?_
                rintro _ e230 M229 ⟨rfl, rfl, hP⟩
                refine im_bkN ?_
                refine im_iinc (q := 150) (i := 2) (L' := [some (.ref 1793), some (.ref 7), some (vI (p2 + 1)), some (vI (M 1796 p2))]) D246_147 rfl (Nat.le_of_ble_eq_true rfl) rfl ?_
                refine im_goto (q := 153) (t := 2) D246_150 rfl ?_
                exact hP.wk ⟨rfl, rfl, rfl, trivial⟩
            refine im_icmp (q := 106) (t := 112) D246_103 rfl hr5 (by decide) (fun hc214 => ?_) (fun hc214 => ?_)
            · exact (kJ217  (Or.inl hc214)).wk ⟨rfl, rfl, rfl, rfl, trivial⟩
            · replace hP := hP hc214
              refine im_ld (q := 107) (i := 3) D246_106 rfl rfl rfl ?_
              refine im_bipush (q := 109) D246_107 rfl ?_
              refine im_icmp (q := 112) (t := 125) D246_109 rfl hr5 (by decide) (fun hc215 => ?_) (fun hc215 => ?_)
              · replace hP := hP hc215
                refine im_ld (q := 126) (i := 3) D246_125 rfl rfl rfl ?_
                refine im_iconst (q := 127) D246_126 ?_
                refine im_icmp (q := 130) (t := 137) D246_127 rfl hr5 (by decide) (fun hc233 => ?_) (fun hc233 => ?_)
                · replace hP := hP.1 hc233
                  refine im_ld (q := 138) (i := 1) D246_137 rfl rfl rfl ?_
                  refine im_ld (q := 139) (i := 0) D246_138 rfl rfl rfl ?_
                  refine im_gfR (q := 142) (b := 2057) D246_139 (im_fl cn_246 fl_8_26) sf_1793 rfl rfl tR_8_4 rfl ?_
                  refine im_ld (q := 143) (i := 2) D246_142 rfl rfl rfl ?_
                  refine im_rng (j := p2) sf_2057 hg4.1 hg4.2 (fun hr234 => ?_)
                  refine im_lald (q := 144) D246_143 sf_2057 hg4.1 hg4.2 (by decide) rfl ?_
                  refine im_callV (q := 147) (kd := 1) (y := 187) (n := 1) (ci := 10) (a := 7) (vs := [.ref 7, vL (M140 2057 p2)]) (r := []) (L2 := [some (.ref 7), some (vL (M140 2057 p2)), none]) D246_144 (im_cal cn_246 cl_8_194) (Or.inl rfl) rfl sf_7 rfl rfl rfl rfl hd ⟨rfl, rfl, trivial⟩ ?_
                  refine hP.mono ?_
                  rintro _ e236 M235 ⟨rfl, rfl, hP⟩
                  refine im_bkN ?_
                  refine im_iinc (q := 150) (i := 2) (L' := [some (.ref 1793), some (.ref 7), some (vI (p2 + 1)), some (vI (M 1796 p2))]) D246_147 rfl (Nat.le_of_ble_eq_true rfl) rfl ?_
                  refine im_goto (q := 153) (t := 2) D246_150 rfl ?_
                  exact hP.wk ⟨rfl, rfl, rfl, trivial⟩
                · replace hP := hP.2 hc233
                  refine im_ld (q := 131) (i := 1) D246_130 rfl rfl rfl ?_
                  refine im_ldc2 (q := 134) (n := 24948) D246_131 rfl ?_
                  refine im_callV (q := 137) (kd := 1) (y := 183) (n := 1) (ci := 10) (a := 7) (vs := [.ref 7, vL 24948]) (r := []) (L2 := [some (.ref 7), some (vL 24948), none]) D246_134 (im_cal cn_246 cl_8_177) (Or.inl rfl) rfl sf_7 rfl rfl rfl rfl hd ⟨rfl, rfl, trivial⟩ ?_
                  refine hP.mono ?_
                  rintro _ e241 M237 ⟨rfl, rfl, hP⟩
                  refine im_bkN ?_
                  refine im_ld (q := 138) (i := 1) D246_137 rfl rfl rfl ?_
                  refine im_ld (q := 139) (i := 0) D246_138 rfl rfl rfl ?_
                  refine im_gfR (q := 142) (b := 2057) D246_139 (im_fl cn_246 fl_8_26) sf_1793 rfl rfl tR_8_4 rfl ?_
                  refine im_ld (q := 143) (i := 2) D246_142 rfl rfl rfl ?_
                  refine im_rng (j := p2) sf_2057 hg4.1 hg4.2 (fun hr238 => ?_)
                  refine im_lald (q := 144) D246_143 sf_2057 hg4.1 hg4.2 (by decide) rfl ?_
                  refine im_callV (q := 147) (kd := 1) (y := 187) (n := 1) (ci := 10) (a := 7) (vs := [.ref 7, vL (M237 2057 p2)]) (r := []) (L2 := [some (.ref 7), some (vL (M237 2057 p2)), none]) D246_144 (im_cal cn_246 cl_8_194) (Or.inl rfl) rfl sf_7 rfl rfl rfl rfl hd ⟨rfl, rfl, trivial⟩ ?_
                  refine hP.mono ?_
                  rintro _ e240 M239 ⟨rfl, rfl, hP⟩
                  refine im_bkN ?_
                  refine im_iinc (q := 150) (i := 2) (L' := [some (.ref 1793), some (.ref 7), some (vI (p2 + 1)), some (vI (M 1796 p2))]) D246_147 rfl (Nat.le_of_ble_eq_true rfl) rfl ?_
                  refine im_goto (q := 153) (t := 2) D246_150 rfl ?_
                  exact hP.wk ⟨rfl, rfl, rfl, trivial⟩
              · exact (kJ217  (Or.inr ⟨hc214, (Decidable.not_not.mp hc215)⟩)).wk ⟨rfl, rfl, rfl, rfl, trivial⟩
          · replace hP := hP.2 (Decidable.not_not.mp hc212)
            refine im_ld (q := 88) (i := 1) D246_87 rfl rfl rfl ?_
            refine im_ld (q := 89) (i := 0) D246_88 rfl rfl rfl ?_
            refine im_gfR (q := 92) (b := 1795) D246_89 (im_fl cn_246 fl_8_22) sf_1793 rfl rfl tR_8_3 rfl ?_
            refine im_gfR (q := 95) (b := 1799) D246_92 (im_fl cn_246 fl_8_188) sf_1795 rfl rfl tR_7_3 rfl ?_
            refine im_ld (q := 96) (i := 2) D246_95 rfl rfl rfl ?_
            refine im_rng (j := p2) sf_1799 hg4.1 hg4.2 (fun hr213 => ?_)
            refine im_lald (q := 97) D246_96 sf_1799 hg4.1 hg4.2 (by decide) rfl ?_
            refine im_callV (q := 100) (kd := 1) (y := 183) (n := 1) (ci := 10) (a := 7) (vs := [.ref 7, vL (M140 1799 p2)]) (r := []) (L2 := [some (.ref 7), some (vL (M140 1799 p2)), none]) D246_97 (im_cal cn_246 cl_8_177) (Or.inl rfl) rfl sf_7 rfl rfl rfl rfl hd ⟨rfl, rfl, trivial⟩ ?_
            refine hP.mono ?_
            rintro _ e271 M242 ⟨rfl, rfl, hP⟩
            refine im_bkN ?_
            refine im_ld (q := 101) (i := 3) D246_100 rfl rfl rfl ?_
            refine im_bipush (q := 103) D246_101 rfl ?_
            obtain ⟨hP, hJ245⟩ := hP
            have kJ246 : ((((M 1796 p2) = 28)) ∨ ((¬ (M 1796 p2) = 28) ∧ ((M 1796 p2) = 29))) → im_T g d 246 112 [some (.ref 1793), some (.ref 7), some (vI p2), some (vI (M 1796 p2))] [] e M242 K := by
              intro  hx247
              have hP := hJ245  hx247
              refine im_ld (q := 113) (i := 1) D246_112 rfl rfl rfl ?_
              refine im_ld (q := 114) (i := 0) D246_113 rfl rfl rfl ?_
              refine im_gfR (q := 117) (b := 1795) D246_114 (im_fl cn_246 fl_8_22) sf_1793 rfl rfl tR_8_3 rfl ?_
              refine im_gfR (q := 120) (b := 1800) D246_117 (im_fl cn_246 fl_8_148) sf_1795 rfl rfl tR_7_4 rfl ?_
              refine im_ld (q := 121) (i := 2) D246_120 rfl rfl rfl ?_
              obtain ⟨b248, hb249, hP⟩ := hP
              obtain ⟨hb250, hP⟩ := hP
              refine im_aald (q := 122) D246_121 sf_1800 (Or.inl rfl) hg4.1 hg4.2 (by decide) hb249 ?_
              refine im_callV (q := 125) (kd := 1) (y := 177) (n := 1) (ci := 10) (a := 7) (vs := [.ref 7, .ref b248]) (r := []) (L2 := [some (.ref 7), some (.ref b248), none, none, none, none]) D246_122 (im_cal cn_246 cl_8_189) (Or.inl rfl) rfl sf_7 rfl rfl rfl rfl hd ⟨rfl, rfl, trivial⟩ ?_
              refine hP.mono ?_
              rintro _ e261 M251 ⟨rfl, rfl, hP⟩
              refine im_bkN ?_
              refine im_ld (q := 126) (i := 3) D246_125 rfl rfl rfl ?_
              refine im_iconst (q := 127) D246_126 ?_
              refine im_icmp (q := 130) (t := 137) D246_127 rfl hr5 (by decide) (fun hc252 => ?_) (fun hc252 => ?_)
              · replace hP := hP.1 hc252
                refine im_ld (q := 138) (i := 1) D246_137 rfl rfl rfl ?_
                refine im_ld (q := 139) (i := 0) D246_138 rfl rfl rfl ?_
                refine im_gfR (q := 142) (b := 2057) D246_139 (im_fl cn_246 fl_8_26) sf_1793 rfl rfl tR_8_4 rfl ?_
                refine im_ld (q := 143) (i := 2) D246_142 rfl rfl rfl ?_
                refine im_rng (j := p2) sf_2057 hg4.1 hg4.2 (fun hr253 => ?_)
                refine im_lald (q := 144) D246_143 sf_2057 hg4.1 hg4.2 (by decide) rfl ?_
                refine im_callV (q := 147) (kd := 1) (y := 187) (n := 1) (ci := 10) (a := 7) (vs := [.ref 7, vL (M251 2057 p2)]) (r := []) (L2 := [some (.ref 7), some (vL (M251 2057 p2)), none]) D246_144 (im_cal cn_246 cl_8_194) (Or.inl rfl) rfl sf_7 rfl rfl rfl rfl hd ⟨rfl, rfl, trivial⟩ ?_
                refine hP.mono ?_
                rintro _ e255 M254 ⟨rfl, rfl, hP⟩
                refine im_bkN ?_
                refine im_iinc (q := 150) (i := 2) (L' := [some (.ref 1793), some (.ref 7), some (vI (p2 + 1)), some (vI (M 1796 p2))]) D246_147 rfl (Nat.le_of_ble_eq_true rfl) rfl ?_
                refine im_goto (q := 153) (t := 2) D246_150 rfl ?_
                exact hP.wk ⟨rfl, rfl, rfl, trivial⟩
              · replace hP := hP.2 hc252
                refine im_ld (q := 131) (i := 1) D246_130 rfl rfl rfl ?_
                refine im_ldc2 (q := 134) (n := 24948) D246_131 rfl ?_
                refine im_callV (q := 137) (kd := 1) (y := 183) (n := 1) (ci := 10) (a := 7) (vs := [.ref 7, vL 24948]) (r := []) (L2 := [some (.ref 7), some (vL 24948), none]) D246_134 (im_cal cn_246 cl_8_177) (Or.inl rfl) rfl sf_7 rfl rfl rfl rfl hd ⟨rfl, rfl, trivial⟩ ?_
                refine hP.mono ?_
                rintro _ e260 M256 ⟨rfl, rfl, hP⟩
                refine im_bkN ?_
                refine im_ld (q := 138) (i := 1) D246_137 rfl rfl rfl ?_
                refine im_ld (q := 139) (i := 0) D246_138 rfl rfl rfl ?_
                refine im_gfR (q := 142) (b := 2057) D246_139 (im_fl cn_246 fl_8_26) sf_1793 rfl rfl tR_8_4 rfl ?_
                refine im_ld (q := 143) (i := 2) D246_142 rfl rfl rfl ?_
                refine im_rng (j := p2) sf_2057 hg4.1 hg4.2 (fun hr257 => ?_)
                refine im_lald (q := 144) D246_143 sf_2057 hg4.1 hg4.2 (by decide) rfl ?_
                refine im_callV (q := 147) (kd := 1) (y := 187) (n := 1) (ci := 10) (a := 7) (vs := [.ref 7, vL (M256 2057 p2)]) (r := []) (L2 := [some (.ref 7), some (vL (M256 2057 p2)), none]) D246_144 (im_cal cn_246 cl_8_194) (Or.inl rfl) rfl sf_7 rfl rfl rfl rfl hd ⟨rfl, rfl, trivial⟩ ?_
                refine hP.mono ?_
                rintro _ e259 M258 ⟨rfl, rfl, hP⟩
                refine im_bkN ?_
                refine im_iinc (q := 150) (i := 2) (L' := [some (.ref 1793), some (.ref 7), some (vI (p2 + 1)), some (vI (M 1796 p2))]) D246_147 rfl (Nat.le_of_ble_eq_true rfl) rfl ?_
                refine im_goto (q := 153) (t := 2) D246_150 rfl ?_
                exact hP.wk ⟨rfl, rfl, rfl, trivial⟩
            refine im_icmp (q := 106) (t := 112) D246_103 rfl hr5 (by decide) (fun hc243 => ?_) (fun hc243 => ?_)
            · exact (kJ246  (Or.inl hc243)).wk ⟨rfl, rfl, rfl, rfl, trivial⟩
            · replace hP := hP hc243
              refine im_ld (q := 107) (i := 3) D246_106 rfl rfl rfl ?_
              refine im_bipush (q := 109) D246_107 rfl ?_
              refine im_icmp (q := 112) (t := 125) D246_109 rfl hr5 (by decide) (fun hc244 => ?_) (fun hc244 => ?_)
              · replace hP := hP hc244
                refine im_ld (q := 126) (i := 3) D246_125 rfl rfl rfl ?_
                refine im_iconst (q := 127) D246_126 ?_
                refine im_icmp (q := 130) (t := 137) D246_127 rfl hr5 (by decide) (fun hc262 => ?_) (fun hc262 => ?_)
                · replace hP := hP.1 hc262
                  refine im_ld (q := 138) (i := 1) D246_137 rfl rfl rfl ?_
                  refine im_ld (q := 139) (i := 0) D246_138 rfl rfl rfl ?_
                  refine im_gfR (q := 142) (b := 2057) D246_139 (im_fl cn_246 fl_8_26) sf_1793 rfl rfl tR_8_4 rfl ?_
                  refine im_ld (q := 143) (i := 2) D246_142 rfl rfl rfl ?_
                  refine im_rng (j := p2) sf_2057 hg4.1 hg4.2 (fun hr263 => ?_)
                  refine im_lald (q := 144) D246_143 sf_2057 hg4.1 hg4.2 (by decide) rfl ?_
                  refine im_callV (q := 147) (kd := 1) (y := 187) (n := 1) (ci := 10) (a := 7) (vs := [.ref 7, vL (M242 2057 p2)]) (r := []) (L2 := [some (.ref 7), some (vL (M242 2057 p2)), none]) D246_144 (im_cal cn_246 cl_8_194) (Or.inl rfl) rfl sf_7 rfl rfl rfl rfl hd ⟨rfl, rfl, trivial⟩ ?_
                  refine hP.mono ?_
                  rintro _ e265 M264 ⟨rfl, rfl, hP⟩
                  refine im_bkN ?_
                  refine im_iinc (q := 150) (i := 2) (L' := [some (.ref 1793), some (.ref 7), some (vI (p2 + 1)), some (vI (M 1796 p2))]) D246_147 rfl (Nat.le_of_ble_eq_true rfl) rfl ?_
                  refine im_goto (q := 153) (t := 2) D246_150 rfl ?_
                  exact hP.wk ⟨rfl, rfl, rfl, trivial⟩
                · replace hP := hP.2 hc262
                  refine im_ld (q := 131) (i := 1) D246_130 rfl rfl rfl ?_
                  refine im_ldc2 (q := 134) (n := 24948) D246_131 rfl ?_
                  refine im_callV (q := 137) (kd := 1) (y := 183) (n := 1) (ci := 10) (a := 7) (vs := [.ref 7, vL 24948]) (r := []) (L2 := [some (.ref 7), some (vL 24948), none]) D246_134 (im_cal cn_246 cl_8_177) (Or.inl rfl) rfl sf_7 rfl rfl rfl rfl hd ⟨rfl, rfl, trivial⟩ ?_
                  refine hP.mono ?_
                  rintro _ e270 M266 ⟨rfl, rfl, hP⟩
                  refine im_bkN ?_
                  refine im_ld (q := 138) (i := 1) D246_137 rfl rfl rfl ?_
                  refine im_ld (q := 139) (i := 0) D246_138 rfl rfl rfl ?_
                  refine im_gfR (q := 142) (b := 2057) D246_139 (im_fl cn_246 fl_8_26) sf_1793 rfl rfl tR_8_4 rfl ?_
                  refine im_ld (q := 143) (i := 2) D246_142 rfl rfl rfl ?_
                  refine im_rng (j := p2) sf_2057 hg4.1 hg4.2 (fun hr267 => ?_)
                  refine im_lald (q := 144) D246_143 sf_2057 hg4.1 hg4.2 (by decide) rfl ?_
                  refine im_callV (q := 147) (kd := 1) (y := 187) (n := 1) (ci := 10) (a := 7) (vs := [.ref 7, vL (M266 2057 p2)]) (r := []) (L2 := [some (.ref 7), some (vL (M266 2057 p2)), none]) D246_144 (im_cal cn_246 cl_8_194) (Or.inl rfl) rfl sf_7 rfl rfl rfl rfl hd ⟨rfl, rfl, trivial⟩ ?_
                  refine hP.mono ?_
                  rintro _ e269 M268 ⟨rfl, rfl, hP⟩
                  refine im_bkN ?_
                  refine im_iinc (q := 150) (i := 2) (L' := [some (.ref 1793), some (.ref 7), some (vI (p2 + 1)), some (vI (M 1796 p2))]) D246_147 rfl (Nat.le_of_ble_eq_true rfl) rfl ?_
                  refine im_goto (q := 153) (t := 2) D246_150 rfl ?_
                  exact hP.wk ⟨rfl, rfl, rfl, trivial⟩
              · exact (kJ246  (Or.inr ⟨hc243, (Decidable.not_not.mp hc244)⟩)).wk ⟨rfl, rfl, rfl, rfl, trivial⟩
        · exact (kJ144  (Or.inr ⟨hc141, (Decidable.not_not.mp hc142)⟩)).wk ⟨rfl, rfl, rfl, rfl, trivial⟩
set_option maxRecDepth 20000 in
set_option maxHeartbeats 4000000 in
theorem k_P_tries_0 {g : im_g} {d : Nat} {e : im_E} {M : im_M} {K : im_K} (hd : 1 ≤ d) (hP : im_T g (d - 1) 152 0 [some (.ref 0)] [] e M (im_rx (im_r0 (fun  e_ M1 => e = e_ ∧ K (.inl (some (vI (M1 1793 9)))) e M1)) (fun E_ e_ M_ => K (.inr E_) e_ M_))) : im_T g d 248 0 [some (.ref 0)] [] e M K := by
  refine im_ld (q := 1) (i := 0) D248_0 rfl rfl rfl ?_
  refine im_callV (q := 4) (kd := 1) (y := 152) (n := 0) (ci := 11) (a := 0) (vs := [.ref 0]) (r := []) (L2 := [some (.ref 0)]) D248_1 (im_cal cn_248 cl_11_124) (Or.inl rfl) rfl sf_0 rfl rfl rfl rfl hd ⟨rfl, trivial⟩ ?_
  refine hP.mono ?_
  rintro _ e3 M1 (⟨rfl, rfl, hP⟩ | ⟨E_, rfl, hX⟩)
  · refine im_bkN ?_
    refine im_ld (q := 5) (i := 0) D248_4 rfl rfl rfl ?_
    refine im_gfR (q := 8) (b := 1793) D248_5 (im_fl cn_248 fl_11_106) sf_0 rfl rfl tR_11_16 rfl ?_
    refine im_rng (j := 9) sf_1793 (by decide) (by decide) (fun hr2 => ?_)
    refine im_gfI (q := 11) D248_8 (im_fl cn_248 fl_11_402) sf_1793 rfl rfl tI_8_9 rfl ?_
    exact im_iret (q := 12) D248_11 rfl hP
  · exact im_bkE rfl hX
set_option maxRecDepth 20000 in
set_option maxHeartbeats 4000000 in
theorem k_P_fuse_0 {g : im_g} {d : Nat} {e : im_E} {M : im_M} {K : im_K} {p1 : Int} (hd : 1 ≤ d) (hP : im_T g (d - 1) 152 0 [some (.ref 0)] [] e M (im_rx (im_r0 (fun  e_ M1 => e = e_ ∧ (im_i32 p1) ∧ ((∀ x4 : Int, (((p1 < (-1)) ∧ x4 = 0) ∨ (((-1) ≤ p1) ∧ x4 = 1)) → im_T g (d - 1) 168 0 [some (vI x4)] [] e M1 (im_rx (im_r0 (fun  e_ M8 => e = e_ ∧ K (.inl none) e (im_u M8 2068 3 p1))) (fun E_ e_ M_ => K (.inr E_) e_ M_)))))) (fun E_ e_ M_ => K (.inr E_) e_ M_))) : im_T g d 250 0 [some (.ref 0), some (vI p1)] [] e M K := by
  refine im_ld (q := 1) (i := 0) D250_0 rfl rfl rfl ?_
  refine im_callV (q := 4) (kd := 1) (y := 152) (n := 0) (ci := 11) (a := 0) (vs := [.ref 0]) (r := []) (L2 := [some (.ref 0)]) D250_1 (im_cal cn_250 cl_11_124) (Or.inl rfl) rfl sf_0 rfl rfl rfl rfl hd ⟨rfl, trivial⟩ ?_
  refine hP.mono ?_
  rintro _ e10 M1 (⟨rfl, rfl, hP⟩ | ⟨E_, rfl, hX⟩)
  · refine im_bkN ?_
    refine im_ld (q := 5) (i := 1) D250_4 rfl rfl rfl ?_
    refine im_iconst (q := 6) D250_5 ?_
    obtain ⟨hg2, hP⟩ := hP
    have hJ5 := hP
    have kJ6 : ∀ x4 : Int, (((p1 < (-1)) ∧ x4 = 0) ∨ (((-1) ≤ p1) ∧ x4 = 1)) → im_T g d 250 14 [some (.ref 0), some (vI p1)] [vI x4] e M1 K := by
      intro x4 hx7
      have hP := hJ5 x4 hx7
      refine im_callS (q := 17) (kd := 0) (y := 168) (n := 1) (z := 11) (vs := [vI x4]) (r := []) (L2 := [some (vI x4)]) D250_14 rfl (im_cal cn_250 cl_11_195) (Or.inl rfl) rfl rfl rfl rfl rfl hd ⟨rfl, trivial⟩ ?_
      refine hP.mono ?_
      rintro _ e9 M8 (⟨rfl, rfl, hP⟩ | ⟨E_, rfl, hX⟩)
      · refine im_bkN ?_
        refine im_ld (q := 18) (i := 0) D250_17 rfl rfl rfl ?_
        refine im_gfR (q := 21) (b := 2068) D250_18 (im_fl cn_250 fl_11_113) sf_0 rfl rfl tR_11_17 rfl ?_
        refine im_ld (q := 22) (i := 1) D250_21 rfl rfl rfl ?_
        refine im_pfI (q := 25) D250_22 (im_fl cn_250 fl_11_405) sf_2068 rfl rfl ti_1_3 hg2 ?_
        exact im_vret (q := 26) D250_25 rfl hP
      · exact im_bkE rfl hX
    refine im_icmp (q := 9) (t := 13) D250_6 rfl hg2 (by decide) (fun hc3 => ?_) (fun hc3 => ?_)
    · refine im_iconst (q := 14) D250_13 ?_
      exact (kJ6 (0) (Or.inl ⟨hc3, rfl⟩)).wk ⟨rfl, rfl, trivial⟩
    · refine im_iconst (q := 10) D250_9 ?_
      refine im_goto (q := 13) (t := 14) D250_10 rfl ?_
      exact (kJ6 (1) (Or.inr ⟨(Int.not_lt.mp hc3), rfl⟩)).wk ⟨rfl, rfl, trivial⟩
  · exact im_bkE rfl hX
set_option maxRecDepth 20000 in
set_option maxHeartbeats 4000000 in
theorem k_P_peek_0 {g : im_g} {d : Nat} {e : im_E} {M : im_M} {K : im_K} {p1 : Int} (hd : 1 ≤ d) (hP : im_T g (d - 1) 169 0 [some (vI p1), some (vI 16384)] [] e M (im_rx (im_r0 (fun  e_ M1 => e = e_ ∧ (0 ≤ p1 ∧ p1 < 16384) ∧ K (.inl (some (vI (xiand (M1 2069 p1) 255)))) e M1)) (fun E_ e_ M_ => K (.inr E_) e_ M_))) : im_T g d 252 0 [some (.ref 0), some (vI p1)] [] e M K := by
  refine im_ld (q := 1) (i := 1) D252_0 rfl rfl rfl ?_
  refine im_sipush (q := 4) D252_1 rfl ?_
  refine im_callS (q := 7) (kd := 0) (y := 169) (n := 2) (z := 11) (vs := [vI p1, vI 16384]) (r := []) (L2 := [some (vI p1), some (vI 16384)]) D252_4 rfl (im_cal cn_252 cl_11_183) (Or.inl rfl) rfl rfl rfl rfl rfl hd ⟨rfl, rfl, trivial⟩ ?_
  refine hP.mono ?_
  rintro _ e4 M1 (⟨rfl, rfl, hP⟩ | ⟨E_, rfl, hX⟩)
  · refine im_bkN ?_
    refine im_ld (q := 8) (i := 0) D252_7 rfl rfl rfl ?_
    refine im_gfR (q := 11) (b := 2068) D252_8 (im_fl cn_252 fl_11_113) sf_0 rfl rfl tR_11_17 rfl ?_
    refine im_gfR (q := 14) (b := 2069) D252_11 (im_fl cn_252 fl_11_408) sf_2068 rfl rfl tR_1_0 rfl ?_
    refine im_ld (q := 15) (i := 1) D252_14 rfl rfl rfl ?_
    obtain ⟨hg2, hP⟩ := hP
    refine im_rng (j := p1) sf_2069 hg2.1 hg2.2 (fun hr3 => ?_)
    refine im_bald (q := 16) D252_15 sf_2069 (Or.inl rfl) hg2.1 hg2.2 (by decide) rfl ?_
    refine im_sipush (q := 19) D252_16 rfl ?_
    refine im_iand (q := 20) D252_19 ?_
    exact im_iret (q := 21) D252_20 rfl hP
  · exact im_bkE rfl hX
set_option maxRecDepth 20000 in
set_option maxHeartbeats 4000000 in
theorem k_P_poke_0 {g : im_g} {d : Nat} {e : im_E} {M : im_M} {K : im_K} {p1 p2 : Int} (hd : 1 ≤ d) (hP : im_T g (d - 1) 169 0 [some (vI p1), some (vI 16384)] [] e M (im_rx (im_r0 (fun  e_ M1 => e = e_ ∧ (im_i32 p2) ∧ ((((0 ≤ p2 → ((p2 ≤ 255 → im_T g (d - 1) 168 0 [some (vI 1)] [] e M1 (im_rx (im_r0 (fun  e_ M15 => e = e_ ∧ im_T g (d - 1) 167 0 [some (vI (M15 2068 4))] [] e M15 (im_rx (im_r0 (fun  e_ M17 => e = e_ ∧ (0 ≤ p1 ∧ p1 < 16384) ∧ K (.inl (some (vI (xiand (M17 2069 p1) 255)))) e (im_u M17 2069 p1 ((p2.bmod 256).bmod 256)))) (fun E_ e_ M_ => K (.inr E_) e_ M_)))) (fun E_ e_ M_ => K (.inr E_) e_ M_))))))) ∧ ((((p2 < 0)) ∨ ((0 ≤ p2) ∧ (255 < p2))) → im_T g (d - 1) 168 0 [some (vI 0)] [] e M1 (im_rx (im_r0 (fun  e_ M8 => e = e_ ∧ im_T g (d - 1) 167 0 [some (vI (M8 2068 4))] [] e M8 (im_rx (im_r0 (fun  e_ M10 => e = e_ ∧ (0 ≤ p1 ∧ p1 < 16384) ∧ K (.inl (some (vI (xiand (M10 2069 p1) 255)))) e (im_u M10 2069 p1 ((p2.bmod 256).bmod 256)))) (fun E_ e_ M_ => K (.inr E_) e_ M_)))) (fun E_ e_ M_ => K (.inr E_) e_ M_)))))) (fun E_ e_ M_ => K (.inr E_) e_ M_))) : im_T g d 254 0 [some (.ref 0), some (vI p1), some (vI p2), none] [] e M K := by
  refine im_ld (q := 1) (i := 1) D254_0 rfl rfl rfl ?_
  refine im_sipush (q := 4) D254_1 rfl ?_
  refine im_callS (q := 7) (kd := 0) (y := 169) (n := 2) (z := 11) (vs := [vI p1, vI 16384]) (r := []) (L2 := [some (vI p1), some (vI 16384)]) D254_4 rfl (im_cal cn_254 cl_11_183) (Or.inl rfl) rfl rfl rfl rfl rfl hd ⟨rfl, rfl, trivial⟩ ?_
  refine hP.mono ?_
  rintro _ e22 M1 (⟨rfl, rfl, hP⟩ | ⟨E_, rfl, hX⟩)
  · refine im_bkN ?_
    refine im_ld (q := 8) (i := 2) D254_7 rfl rfl rfl ?_
    obtain ⟨hg2, hP⟩ := hP
    obtain ⟨hP, hJ5⟩ := hP
    have kJ6 : (((p2 < 0)) ∨ ((0 ≤ p2) ∧ (255 < p2))) → im_T g d 254 22 [some (.ref 0), some (vI p1), some (vI p2), none] [] e M1 K := by
      intro  hx7
      have hP := hJ5  hx7
      refine im_iconst (q := 23) D254_22 ?_
      refine im_callS (q := 26) (kd := 0) (y := 168) (n := 1) (z := 11) (vs := [vI 0]) (r := []) (L2 := [some (vI 0)]) D254_23 rfl (im_cal cn_254 cl_11_195) (Or.inl rfl) rfl rfl rfl rfl rfl hd ⟨rfl, trivial⟩ ?_
      refine hP.mono ?_
      rintro _ e14 M8 (⟨rfl, rfl, hP⟩ | ⟨E_, rfl, hX⟩)
      · refine im_bkN ?_
        refine im_ld (q := 27) (i := 0) D254_26 rfl rfl rfl ?_
        refine im_gfR (q := 30) (b := 2068) D254_27 (im_fl cn_254 fl_11_113) sf_0 rfl rfl tR_11_17 rfl ?_
        refine im_rng (j := 4) sf_2068 (by decide) (by decide) (fun hr9 => ?_)
        refine im_gfI (q := 33) D254_30 (im_fl cn_254 fl_11_411) sf_2068 rfl rfl tI_1_4 rfl ?_
        refine im_callS (q := 36) (kd := 0) (y := 167) (n := 1) (z := 11) (vs := [vI (M8 2068 4)]) (r := []) (L2 := [some (vI (M8 2068 4))]) D254_33 rfl (im_cal cn_254 cl_11_187) (Or.inl rfl) rfl rfl rfl rfl rfl hd ⟨rfl, trivial⟩ ?_
        refine hP.mono ?_
        rintro _ e13 M10 (⟨rfl, rfl, hP⟩ | ⟨E_, rfl, hX⟩)
        · refine im_bkN ?_
          refine im_ld (q := 37) (i := 0) D254_36 rfl rfl rfl ?_
          refine im_gfR (q := 40) (b := 2068) D254_37 (im_fl cn_254 fl_11_113) sf_0 rfl rfl tR_11_17 rfl ?_
          refine im_gfR (q := 43) (b := 2069) D254_40 (im_fl cn_254 fl_11_408) sf_2068 rfl rfl tR_1_0 rfl ?_
          refine im_ld (q := 44) (i := 1) D254_43 rfl rfl rfl ?_
          obtain ⟨hg11, hP⟩ := hP
          refine im_rng (j := p1) sf_2069 hg11.1 hg11.2 (fun hr12 => ?_)
          refine im_bald (q := 45) D254_44 sf_2069 (Or.inl rfl) hg11.1 hg11.2 (by decide) rfl ?_
          refine im_sipush (q := 48) D254_45 rfl ?_
          refine im_iand (q := 49) D254_48 ?_
          refine im_st1 (q := 50) (i := 3) (L' := [some (.ref 0), some (vI p1), some (vI p2), some (vI (xiand (M10 2069 p1) 255))]) D254_49 (Or.inl ⟨_, rfl, rfl⟩) (Nat.le_of_ble_eq_true rfl) rfl ?_
          refine im_ld (q := 51) (i := 0) D254_50 rfl rfl rfl ?_
          refine im_gfR (q := 54) (b := 2068) D254_51 (im_fl cn_254 fl_11_113) sf_0 rfl rfl tR_11_17 rfl ?_
          refine im_gfR (q := 57) (b := 2069) D254_54 (im_fl cn_254 fl_11_408) sf_2068 rfl rfl tR_1_0 rfl ?_
          refine im_ld (q := 58) (i := 1) D254_57 rfl rfl rfl ?_
          refine im_ld (q := 59) (i := 2) D254_58 rfl rfl rfl ?_
          refine im_i2b (q := 60) D254_59 ?_
          refine im_bast (q := 61) D254_60 sf_2069 hg11.1 hg11.2 (by decide) ?_
          refine im_ld (q := 62) (i := 3) D254_61 rfl rfl rfl ?_
          exact im_iret (q := 63) D254_62 rfl hP
        · exact im_bkE rfl hX
      · exact im_bkE rfl hX
    refine im_ifc (q := 11) (t := 22) D254_8 rfl hg2 (fun hc3 => ?_) (fun hc3 => ?_)
    · exact (kJ6  (Or.inl hc3)).wk ⟨rfl, rfl, rfl, trivial⟩
    · replace hP := hP (Int.not_lt.mp hc3)
      refine im_ld (q := 12) (i := 2) D254_11 rfl rfl rfl ?_
      refine im_sipush (q := 15) D254_12 rfl ?_
      refine im_icmp (q := 18) (t := 22) D254_15 rfl hg2 (by decide) (fun hc4 => ?_) (fun hc4 => ?_)
      · exact (kJ6  (Or.inr ⟨(Int.not_lt.mp hc3), hc4⟩)).wk ⟨rfl, rfl, rfl, trivial⟩
      · replace hP := hP (Int.not_lt.mp hc4)
        refine im_iconst (q := 19) D254_18 ?_
        refine im_goto (q := 22) (t := 23) D254_19 rfl ?_
        refine im_callS (q := 26) (kd := 0) (y := 168) (n := 1) (z := 11) (vs := [vI 1]) (r := []) (L2 := [some (vI 1)]) D254_23 rfl (im_cal cn_254 cl_11_195) (Or.inl rfl) rfl rfl rfl rfl rfl hd ⟨rfl, trivial⟩ ?_
        refine hP.mono ?_
        rintro _ e21 M15 (⟨rfl, rfl, hP⟩ | ⟨E_, rfl, hX⟩)
        · refine im_bkN ?_
          refine im_ld (q := 27) (i := 0) D254_26 rfl rfl rfl ?_
          refine im_gfR (q := 30) (b := 2068) D254_27 (im_fl cn_254 fl_11_113) sf_0 rfl rfl tR_11_17 rfl ?_
          refine im_rng (j := 4) sf_2068 (by decide) (by decide) (fun hr16 => ?_)
          refine im_gfI (q := 33) D254_30 (im_fl cn_254 fl_11_411) sf_2068 rfl rfl tI_1_4 rfl ?_
          refine im_callS (q := 36) (kd := 0) (y := 167) (n := 1) (z := 11) (vs := [vI (M15 2068 4)]) (r := []) (L2 := [some (vI (M15 2068 4))]) D254_33 rfl (im_cal cn_254 cl_11_187) (Or.inl rfl) rfl rfl rfl rfl rfl hd ⟨rfl, trivial⟩ ?_
          refine hP.mono ?_
          rintro _ e20 M17 (⟨rfl, rfl, hP⟩ | ⟨E_, rfl, hX⟩)
          · refine im_bkN ?_
            refine im_ld (q := 37) (i := 0) D254_36 rfl rfl rfl ?_
            refine im_gfR (q := 40) (b := 2068) D254_37 (im_fl cn_254 fl_11_113) sf_0 rfl rfl tR_11_17 rfl ?_
            refine im_gfR (q := 43) (b := 2069) D254_40 (im_fl cn_254 fl_11_408) sf_2068 rfl rfl tR_1_0 rfl ?_
            refine im_ld (q := 44) (i := 1) D254_43 rfl rfl rfl ?_
            obtain ⟨hg18, hP⟩ := hP
            refine im_rng (j := p1) sf_2069 hg18.1 hg18.2 (fun hr19 => ?_)
            refine im_bald (q := 45) D254_44 sf_2069 (Or.inl rfl) hg18.1 hg18.2 (by decide) rfl ?_
            refine im_sipush (q := 48) D254_45 rfl ?_
            refine im_iand (q := 49) D254_48 ?_
            refine im_st1 (q := 50) (i := 3) (L' := [some (.ref 0), some (vI p1), some (vI p2), some (vI (xiand (M17 2069 p1) 255))]) D254_49 (Or.inl ⟨_, rfl, rfl⟩) (Nat.le_of_ble_eq_true rfl) rfl ?_
            refine im_ld (q := 51) (i := 0) D254_50 rfl rfl rfl ?_
            refine im_gfR (q := 54) (b := 2068) D254_51 (im_fl cn_254 fl_11_113) sf_0 rfl rfl tR_11_17 rfl ?_
            refine im_gfR (q := 57) (b := 2069) D254_54 (im_fl cn_254 fl_11_408) sf_2068 rfl rfl tR_1_0 rfl ?_
            refine im_ld (q := 58) (i := 1) D254_57 rfl rfl rfl ?_
            refine im_ld (q := 59) (i := 2) D254_58 rfl rfl rfl ?_
            refine im_i2b (q := 60) D254_59 ?_
            refine im_bast (q := 61) D254_60 sf_2069 hg18.1 hg18.2 (by decide) ?_
            refine im_ld (q := 62) (i := 3) D254_61 rfl rfl rfl ?_
            exact im_iret (q := 63) D254_62 rfl hP
          · exact im_bkE rfl hX
        · exact im_bkE rfl hX
  · exact im_bkE rfl hX
set_option maxRecDepth 20000 in
set_option maxHeartbeats 4000000 in
theorem k_P_cut_0 {g : im_g} {d : Nat} {e : im_E} {M : im_M} {K : im_K} (hd : 1 ≤ d) (hP : im_T g (d - 1) 152 0 [some (.ref 0)] [] e M (im_rx (im_r0 (fun  e_ M1 => e = e_ ∧ K (.inl none) e (im_u M1 2068 4 1))) (fun E_ e_ M_ => K (.inr E_) e_ M_))) : im_T g d 256 0 [some (.ref 0)] [] e M K := by
  refine im_ld (q := 1) (i := 0) D256_0 rfl rfl rfl ?_
  refine im_callV (q := 4) (kd := 1) (y := 152) (n := 0) (ci := 11) (a := 0) (vs := [.ref 0]) (r := []) (L2 := [some (.ref 0)]) D256_1 (im_cal cn_256 cl_11_124) (Or.inl rfl) rfl sf_0 rfl rfl rfl rfl hd ⟨rfl, trivial⟩ ?_
  refine hP.mono ?_
  rintro _ e2 M1 (⟨rfl, rfl, hP⟩ | ⟨E_, rfl, hX⟩)
  · refine im_bkN ?_
    refine im_ld (q := 5) (i := 0) D256_4 rfl rfl rfl ?_
    refine im_gfR (q := 8) (b := 2068) D256_5 (im_fl cn_256 fl_11_113) sf_0 rfl rfl tR_11_17 rfl ?_
    refine im_iconst (q := 9) D256_8 ?_
    refine im_pfZ (q := 12) D256_9 (im_fl cn_256 fl_11_411) sf_2068 rfl rfl tz_1_4 (by decide) ?_
    exact im_vret (q := 13) D256_12 rfl hP
  · exact im_bkE rfl hX

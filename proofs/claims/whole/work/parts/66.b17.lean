/-! blocks of the reference -/
theorem D428_0 {g : im_g} : im_D g 428 0 (.iload_n 1) 1 := im_D.of (by decide +kernel)
theorem D428_1 {g : im_g} : im_D g 428 1 (.i2l) 2 := im_D.of (by decide +kernel)
theorem D428_2 {g : im_g} : im_D g 428 2 (.lconst 0) 3 := im_D.of (by decide +kernel)
theorem D428_3 {g : im_g} : im_D g 428 3 (.ldc2_w 729) 6 := im_D.of (by decide +kernel)
theorem D428_6 {g : im_g} : im_D g 428 6 (.invokestatic 428) 9 := im_D.of (by decide +kernel)
theorem D428_9 {g : im_g} : im_D g 428 9 (.istore 5) 11 := im_D.of (by decide +kernel)
theorem D428_11 {g : im_g} : im_D g 428 11 (.aload_n 0) 12 := im_D.of (by decide +kernel)
theorem D428_12 {g : im_g} : im_D g 428 12 (.iconst 3) 13 := im_D.of (by decide +kernel)
theorem D428_13 {g : im_g} : im_D g 428 13 (.iload 5) 15 := im_D.of (by decide +kernel)
theorem D428_15 {g : im_g} : im_D g 428 15 (.iload_n 3) 16 := im_D.of (by decide +kernel)
theorem D428_16 {g : im_g} : im_D g 428 16 (.i2l) 17 := im_D.of (by decide +kernel)
theorem D428_17 {g : im_g} : im_D g 428 17 (.lconst 1) 18 := im_D.of (by decide +kernel)
theorem D428_18 {g : im_g} : im_D g 428 18 (.ldc2_w 1123) 21 := im_D.of (by decide +kernel)
theorem D428_21 {g : im_g} : im_D g 428 21 (.invokestatic 428) 24 := im_D.of (by decide +kernel)
theorem D428_24 {g : im_g} : im_D g 428 24 (.ifCond .eq 20) 27 := im_D.of (by decide +kernel)
theorem D428_27 {g : im_g} : im_D g 428 27 (.iload 4) 29 := im_D.of (by decide +kernel)
theorem D428_29 {g : im_g} : im_D g 428 29 (.i2l) 30 := im_D.of (by decide +kernel)
theorem D428_30 {g : im_g} : im_D g 428 30 (.lconst 0) 31 := im_D.of (by decide +kernel)
theorem D428_31 {g : im_g} : im_D g 428 31 (.ldc2_w 1125) 34 := im_D.of (by decide +kernel)
theorem D428_34 {g : im_g} : im_D g 428 34 (.invokestatic 428) 37 := im_D.of (by decide +kernel)
theorem D428_37 {g : im_g} : im_D g 428 37 (.ifCond .eq 7) 40 := im_D.of (by decide +kernel)
theorem D428_40 {g : im_g} : im_D g 428 40 (.iconst 1) 41 := im_D.of (by decide +kernel)
theorem D428_41 {g : im_g} : im_D g 428 41 (.goto 4) 44 := im_D.of (by decide +kernel)
theorem D428_44 {g : im_g} : im_D g 428 44 (.iconst 0) 45 := im_D.of (by decide +kernel)
theorem D428_45 {g : im_g} : im_D g 428 45 (.iload 5) 47 := im_D.of (by decide +kernel)
theorem D428_47 {g : im_g} : im_D g 428 47 (.ifCond .eq 32) 50 := im_D.of (by decide +kernel)
theorem D428_50 {g : im_g} : im_D g 428 50 (.iload_n 2) 51 := im_D.of (by decide +kernel)
theorem D428_51 {g : im_g} : im_D g 428 51 (.ifCond .eq 15) 54 := im_D.of (by decide +kernel)
theorem D428_54 {g : im_g} : im_D g 428 54 (.aload_n 0) 55 := im_D.of (by decide +kernel)
theorem D428_55 {g : im_g} : im_D g 428 55 (.getfield 106) 58 := im_D.of (by decide +kernel)
theorem D428_58 {g : im_g} : im_D g 428 58 (.iload_n 1) 59 := im_D.of (by decide +kernel)
theorem D428_59 {g : im_g} : im_D g 428 59 (.baload) 60 := im_D.of (by decide +kernel)
theorem D428_60 {g : im_g} : im_D g 428 60 (.ifCond .eq 19) 63 := im_D.of (by decide +kernel)
theorem D428_63 {g : im_g} : im_D g 428 63 (.goto 12) 66 := im_D.of (by decide +kernel)
theorem D428_66 {g : im_g} : im_D g 428 66 (.aload_n 0) 67 := im_D.of (by decide +kernel)
theorem D428_67 {g : im_g} : im_D g 428 67 (.getfield 136) 70 := im_D.of (by decide +kernel)
theorem D428_70 {g : im_g} : im_D g 428 70 (.iload_n 1) 71 := im_D.of (by decide +kernel)
theorem D428_71 {g : im_g} : im_D g 428 71 (.baload) 72 := im_D.of (by decide +kernel)
theorem D428_72 {g : im_g} : im_D g 428 72 (.ifCond .eq 7) 75 := im_D.of (by decide +kernel)
theorem D428_75 {g : im_g} : im_D g 428 75 (.iconst 1) 76 := im_D.of (by decide +kernel)
theorem D428_76 {g : im_g} : im_D g 428 76 (.goto 4) 79 := im_D.of (by decide +kernel)
theorem D428_79 {g : im_g} : im_D g 428 79 (.iconst 0) 80 := im_D.of (by decide +kernel)
theorem D428_80 {g : im_g} : im_D g 428 80 (.invokevirtual 419) 83 := im_D.of (by decide +kernel)
theorem D428_83 {g : im_g} : im_D g 428 83 (.ifCond .ne 5) 86 := im_D.of (by decide +kernel)
theorem D428_86 {g : im_g} : im_D g 428 86 (.iconst 0) 87 := im_D.of (by decide +kernel)
theorem D428_87 {g : im_g} : im_D g 428 87 (.ireturn) 88 := im_D.of (by decide +kernel)
theorem D428_88 {g : im_g} : im_D g 428 88 (.aload_n 0) 89 := im_D.of (by decide +kernel)
theorem D428_89 {g : im_g} : im_D g 428 89 (.aload_n 0) 90 := im_D.of (by decide +kernel)
theorem D428_90 {g : im_g} : im_D g 428 90 (.getfield 617) 93 := im_D.of (by decide +kernel)
theorem D428_93 {g : im_g} : im_D g 428 93 (.putfield 449) 96 := im_D.of (by decide +kernel)
theorem D428_96 {g : im_g} : im_D g 428 96 (.iload_n 2) 97 := im_D.of (by decide +kernel)
theorem D428_97 {g : im_g} : im_D g 428 97 (.ifCond .eq 14) 100 := im_D.of (by decide +kernel)
theorem D428_100 {g : im_g} : im_D g 428 100 (.aload_n 0) 101 := im_D.of (by decide +kernel)
theorem D428_101 {g : im_g} : im_D g 428 101 (.iload_n 1) 102 := im_D.of (by decide +kernel)
theorem D428_102 {g : im_g} : im_D g 428 102 (.invokevirtual 829) 105 := im_D.of (by decide +kernel)
theorem D428_105 {g : im_g} : im_D g 428 105 (.ifCond .ne 6) 108 := im_D.of (by decide +kernel)
theorem D428_108 {g : im_g} : im_D g 428 108 (.bipush (-11)) 110 := im_D.of (by decide +kernel)
theorem D428_110 {g : im_g} : im_D g 428 110 (.ireturn) 111 := im_D.of (by decide +kernel)
theorem D428_111 {g : im_g} : im_D g 428 111 (.iload_n 2) 112 := im_D.of (by decide +kernel)
theorem D428_112 {g : im_g} : im_D g 428 112 (.ifCond .eq 11) 115 := im_D.of (by decide +kernel)
theorem D428_115 {g : im_g} : im_D g 428 115 (.aload_n 0) 116 := im_D.of (by decide +kernel)
theorem D428_116 {g : im_g} : im_D g 428 116 (.iload_n 1) 117 := im_D.of (by decide +kernel)
theorem D428_117 {g : im_g} : im_D g 428 117 (.invokevirtual 1127) 120 := im_D.of (by decide +kernel)
theorem D428_120 {g : im_g} : im_D g 428 120 (.goto 8) 123 := im_D.of (by decide +kernel)
theorem D428_123 {g : im_g} : im_D g 428 123 (.aload_n 0) 124 := im_D.of (by decide +kernel)
theorem D428_124 {g : im_g} : im_D g 428 124 (.iload_n 1) 125 := im_D.of (by decide +kernel)
theorem D428_125 {g : im_g} : im_D g 428 125 (.invokevirtual 1044) 128 := im_D.of (by decide +kernel)
theorem D428_128 {g : im_g} : im_D g 428 128 (.aload_n 0) 129 := im_D.of (by decide +kernel)
theorem D428_129 {g : im_g} : im_D g 428 129 (.iconst 0) 130 := im_D.of (by decide +kernel)
theorem D428_130 {g : im_g} : im_D g 428 130 (.putfield 1111) 133 := im_D.of (by decide +kernel)
theorem D428_133 {g : im_g} : im_D g 428 133 (.aload_n 0) 134 := im_D.of (by decide +kernel)
theorem D428_134 {g : im_g} : im_D g 428 134 (.iconst 0) 135 := im_D.of (by decide +kernel)
theorem D428_135 {g : im_g} : im_D g 428 135 (.putfield 423) 138 := im_D.of (by decide +kernel)
theorem D428_138 {g : im_g} : im_D g 428 138 (.aload_n 0) 139 := im_D.of (by decide +kernel)
theorem D428_139 {g : im_g} : im_D g 428 139 (.iconst 1) 140 := im_D.of (by decide +kernel)
theorem D428_140 {g : im_g} : im_D g 428 140 (.putfield 941) 143 := im_D.of (by decide +kernel)
theorem D428_143 {g : im_g} : im_D g 428 143 (.iconst 0) 144 := im_D.of (by decide +kernel)
theorem D428_144 {g : im_g} : im_D g 428 144 (.istore 6) 146 := im_D.of (by decide +kernel)
theorem D428_146 {g : im_g} : im_D g 428 146 (.iload 6) 148 := im_D.of (by decide +kernel)
theorem D428_148 {g : im_g} : im_D g 428 148 (.bipush 64) 150 := im_D.of (by decide +kernel)
theorem D428_150 {g : im_g} : im_D g 428 150 (.if_icmp .ge 17) 153 := im_D.of (by decide +kernel)
theorem D428_153 {g : im_g} : im_D g 428 153 (.aload_n 0) 154 := im_D.of (by decide +kernel)
theorem D428_154 {g : im_g} : im_D g 428 154 (.getfield 267) 157 := im_D.of (by decide +kernel)
theorem D428_157 {g : im_g} : im_D g 428 157 (.iload 6) 159 := im_D.of (by decide +kernel)
theorem D428_159 {g : im_g} : im_D g 428 159 (.iconst 0) 160 := im_D.of (by decide +kernel)
theorem D428_160 {g : im_g} : im_D g 428 160 (.bastore) 161 := im_D.of (by decide +kernel)
theorem D428_161 {g : im_g} : im_D g 428 161 (.iinc 6 1) 164 := im_D.of (by decide +kernel)
theorem D428_164 {g : im_g} : im_D g 428 164 (.goto (-18)) 167 := im_D.of (by decide +kernel)
theorem D428_167 {g : im_g} : im_D g 428 167 (.aload_n 0) 168 := im_D.of (by decide +kernel)
theorem D428_168 {g : im_g} : im_D g 428 168 (.iload_n 3) 169 := im_D.of (by decide +kernel)
theorem D428_169 {g : im_g} : im_D g 428 169 (.iload 4) 171 := im_D.of (by decide +kernel)
theorem D428_171 {g : im_g} : im_D g 428 171 (.invokevirtual 1130) 174 := im_D.of (by decide +kernel)
theorem D428_174 {g : im_g} : im_D g 428 174 (.ireturn) 175 := im_D.of (by decide +kernel)
theorem D429_0 {g : im_g} : im_D g 429 0 (.aload_n 0) 1 := im_D.of (by decide +kernel)
theorem D429_1 {g : im_g} : im_D g 429 1 (.aload_n 0) 2 := im_D.of (by decide +kernel)
theorem D429_2 {g : im_g} : im_D g 429 2 (.getfield 109) 5 := im_D.of (by decide +kernel)
theorem D429_5 {g : im_g} : im_D g 429 5 (.iload_n 1) 6 := im_D.of (by decide +kernel)
theorem D429_6 {g : im_g} : im_D g 429 6 (.iaload) 7 := im_D.of (by decide +kernel)
theorem D429_7 {g : im_g} : im_D g 429 7 (.putfield 858) 10 := im_D.of (by decide +kernel)
theorem D429_10 {g : im_g} : im_D g 429 10 (.aload_n 0) 11 := im_D.of (by decide +kernel)
theorem D429_11 {g : im_g} : im_D g 429 11 (.lconst 0) 12 := im_D.of (by decide +kernel)
theorem D429_12 {g : im_g} : im_D g 429 12 (.putfield 861) 15 := im_D.of (by decide +kernel)
theorem D429_15 {g : im_g} : im_D g 429 15 (.aload_n 0) 16 := im_D.of (by decide +kernel)
theorem D429_16 {g : im_g} : im_D g 429 16 (.iconst 0) 17 := im_D.of (by decide +kernel)
theorem D429_17 {g : im_g} : im_D g 429 17 (.putfield 864) 20 := im_D.of (by decide +kernel)
theorem D429_20 {g : im_g} : im_D g 429 20 (.aload_n 0) 21 := im_D.of (by decide +kernel)
theorem D429_21 {g : im_g} : im_D g 429 21 (.iconst 0) 22 := im_D.of (by decide +kernel)
theorem D429_22 {g : im_g} : im_D g 429 22 (.putfield 867) 25 := im_D.of (by decide +kernel)
theorem D429_25 {g : im_g} : im_D g 429 25 (.aload_n 0) 26 := im_D.of (by decide +kernel)
theorem D429_26 {g : im_g} : im_D g 429 26 (.iconst 0) 27 := im_D.of (by decide +kernel)
theorem D429_27 {g : im_g} : im_D g 429 27 (.putfield 870) 30 := im_D.of (by decide +kernel)
theorem D429_30 {g : im_g} : im_D g 429 30 (.aload_n 0) 31 := im_D.of (by decide +kernel)
theorem D429_31 {g : im_g} : im_D g 429 31 (.aload_n 0) 32 := im_D.of (by decide +kernel)
theorem D429_32 {g : im_g} : im_D g 429 32 (.getfield 794) 35 := im_D.of (by decide +kernel)
theorem D429_35 {g : im_g} : im_D g 429 35 (.putfield 873) 38 := im_D.of (by decide +kernel)
theorem D429_38 {g : im_g} : im_D g 429 38 (.iconst 0) 39 := im_D.of (by decide +kernel)
theorem D429_39 {g : im_g} : im_D g 429 39 (.istore_n 2) 40 := im_D.of (by decide +kernel)
theorem D429_40 {g : im_g} : im_D g 429 40 (.iload_n 2) 41 := im_D.of (by decide +kernel)
theorem D429_41 {g : im_g} : im_D g 429 41 (.aload_n 0) 42 := im_D.of (by decide +kernel)
theorem D429_42 {g : im_g} : im_D g 429 42 (.getfield 794) 45 := im_D.of (by decide +kernel)
theorem D429_45 {g : im_g} : im_D g 429 45 (.if_icmp .ge 36) 48 := im_D.of (by decide +kernel)
theorem D429_48 {g : im_g} : im_D g 429 48 (.aload_n 0) 49 := im_D.of (by decide +kernel)
theorem D429_49 {g : im_g} : im_D g 429 49 (.getfield 213) 52 := im_D.of (by decide +kernel)
theorem D429_52 {g : im_g} : im_D g 429 52 (.iload_n 2) 53 := im_D.of (by decide +kernel)
theorem D429_53 {g : im_g} : im_D g 429 53 (.aload_n 0) 54 := im_D.of (by decide +kernel)
theorem D429_54 {g : im_g} : im_D g 429 54 (.getfield 130) 57 := im_D.of (by decide +kernel)
theorem D429_57 {g : im_g} : im_D g 429 57 (.iload_n 2) 58 := im_D.of (by decide +kernel)
theorem D429_58 {g : im_g} : im_D g 429 58 (.laload) 59 := im_D.of (by decide +kernel)
theorem D429_59 {g : im_g} : im_D g 429 59 (.lastore) 60 := im_D.of (by decide +kernel)
theorem D429_60 {g : im_g} : im_D g 429 60 (.aload_n 0) 61 := im_D.of (by decide +kernel)
theorem D429_61 {g : im_g} : im_D g 429 61 (.getfield 216) 64 := im_D.of (by decide +kernel)
theorem D429_64 {g : im_g} : im_D g 429 64 (.iload_n 2) 65 := im_D.of (by decide +kernel)
theorem D429_65 {g : im_g} : im_D g 429 65 (.aload_n 0) 66 := im_D.of (by decide +kernel)
theorem D429_66 {g : im_g} : im_D g 429 66 (.aload_n 0) 67 := im_D.of (by decide +kernel)
theorem D429_67 {g : im_g} : im_D g 429 67 (.getfield 133) 70 := im_D.of (by decide +kernel)
theorem D429_70 {g : im_g} : im_D g 429 70 (.iload_n 2) 71 := im_D.of (by decide +kernel)
theorem D429_71 {g : im_g} : im_D g 429 71 (.invokevirtual 825) 74 := im_D.of (by decide +kernel)
theorem D429_74 {g : im_g} : im_D g 429 74 (.iastore) 75 := im_D.of (by decide +kernel)
theorem D429_75 {g : im_g} : im_D g 429 75 (.iinc 2 1) 78 := im_D.of (by decide +kernel)
theorem D429_78 {g : im_g} : im_D g 429 78 (.goto (-38)) 81 := im_D.of (by decide +kernel)
theorem D429_81 {g : im_g} : im_D g 429 81 (.return_) 82 := im_D.of (by decide +kernel)
theorem D430_0 {g : im_g} : im_D g 430 0 (.iconst 0) 1 := im_D.of (by decide +kernel)
theorem D430_1 {g : im_g} : im_D g 430 1 (.istore_n 3) 2 := im_D.of (by decide +kernel)
theorem D430_2 {g : im_g} : im_D g 430 2 (.aload_n 0) 3 := im_D.of (by decide +kernel)
theorem D430_3 {g : im_g} : im_D g 430 3 (.iconst 0) 4 := im_D.of (by decide +kernel)
theorem D430_4 {g : im_g} : im_D g 430 4 (.invokevirtual 1102) 7 := im_D.of (by decide +kernel)
theorem D430_7 {g : im_g} : im_D g 430 7 (.iload_n 3) 8 := im_D.of (by decide +kernel)
theorem D430_8 {g : im_g} : im_D g 430 8 (.ifCond .lt 107) 11 := im_D.of (by decide +kernel)
theorem D430_11 {g : im_g} : im_D g 430 11 (.aload_n 0) 12 := im_D.of (by decide +kernel)
theorem D430_12 {g : im_g} : im_D g 430 12 (.iload_n 3) 13 := im_D.of (by decide +kernel)
theorem D430_13 {g : im_g} : im_D g 430 13 (.invokevirtual 1105) 16 := im_D.of (by decide +kernel)
theorem D430_16 {g : im_g} : im_D g 430 16 (.aload_n 0) 17 := im_D.of (by decide +kernel)
theorem D430_17 {g : im_g} : im_D g 430 17 (.iload_n 3) 18 := im_D.of (by decide +kernel)
theorem D430_18 {g : im_g} : im_D g 430 18 (.invokevirtual 1108) 21 := im_D.of (by decide +kernel)
theorem D430_21 {g : im_g} : im_D g 430 21 (.ifCond .ne 9) 24 := im_D.of (by decide +kernel)
theorem D430_24 {g : im_g} : im_D g 430 24 (.iinc 3 (-1)) 27 := im_D.of (by decide +kernel)
theorem D430_27 {g : im_g} : im_D g 430 27 (.goto (-20)) 30 := im_D.of (by decide +kernel)
theorem D430_30 {g : im_g} : im_D g 430 30 (.aload_n 0) 31 := im_D.of (by decide +kernel)
theorem D430_31 {g : im_g} : im_D g 430 31 (.getfield 1111) 34 := im_D.of (by decide +kernel)
theorem D430_34 {g : im_g} : im_D g 430 34 (.iload_n 2) 35 := im_D.of (by decide +kernel)
theorem D430_35 {g : im_g} : im_D g 430 35 (.if_icmp .ne 5) 38 := im_D.of (by decide +kernel)
theorem D430_38 {g : im_g} : im_D g 430 38 (.iconst 2) 39 := im_D.of (by decide +kernel)
theorem D430_39 {g : im_g} : im_D g 430 39 (.ireturn) 40 := im_D.of (by decide +kernel)
theorem D430_40 {g : im_g} : im_D g 430 40 (.aload_n 0) 41 := im_D.of (by decide +kernel)
theorem D430_41 {g : im_g} : im_D g 430 41 (.dup) 42 := im_D.of (by decide +kernel)
theorem D430_42 {g : im_g} : im_D g 430 42 (.getfield 1111) 45 := im_D.of (by decide +kernel)
theorem D430_45 {g : im_g} : im_D g 430 45 (.iconst 1) 46 := im_D.of (by decide +kernel)
theorem D430_46 {g : im_g} : im_D g 430 46 (.iadd) 47 := im_D.of (by decide +kernel)
theorem D430_47 {g : im_g} : im_D g 430 47 (.putfield 1111) 50 := im_D.of (by decide +kernel)
theorem D430_50 {g : im_g} : im_D g 430 50 (.aload_n 0) 51 := im_D.of (by decide +kernel)
theorem D430_51 {g : im_g} : im_D g 430 51 (.iload_n 3) 52 := im_D.of (by decide +kernel)
theorem D430_52 {g : im_g} : im_D g 430 52 (.invokevirtual 1114) 55 := im_D.of (by decide +kernel)
theorem D430_55 {g : im_g} : im_D g 430 55 (.aload_n 0) 56 := im_D.of (by decide +kernel)
theorem D430_56 {g : im_g} : im_D g 430 56 (.aload_n 0) 57 := im_D.of (by decide +kernel)
theorem D430_57 {g : im_g} : im_D g 430 57 (.getfield 1089) 60 := im_D.of (by decide +kernel)
theorem D430_60 {g : im_g} : im_D g 430 60 (.aload_n 0) 61 := im_D.of (by decide +kernel)
theorem D430_61 {g : im_g} : im_D g 430 61 (.getfield 1089) 64 := im_D.of (by decide +kernel)
theorem D430_64 {g : im_g} : im_D g 430 64 (.invokevirtual 1050) 67 := im_D.of (by decide +kernel)
theorem D430_67 {g : im_g} : im_D g 430 67 (.ifCond .ge 6) 70 := im_D.of (by decide +kernel)
theorem D430_70 {g : im_g} : im_D g 430 70 (.goto (-63)) 73 := im_D.of (by decide +kernel)
theorem D430_73 {g : im_g} : im_D g 430 73 (.aload_n 0) 74 := im_D.of (by decide +kernel)
theorem D430_74 {g : im_g} : im_D g 430 74 (.iload_n 1) 75 := im_D.of (by decide +kernel)
theorem D430_75 {g : im_g} : im_D g 430 75 (.invokevirtual 1117) 78 := im_D.of (by decide +kernel)
theorem D430_78 {g : im_g} : im_D g 430 78 (.ifCond .eq 26) 81 := im_D.of (by decide +kernel)
theorem D430_81 {g : im_g} : im_D g 430 81 (.iconst 0) 82 := im_D.of (by decide +kernel)
theorem D430_82 {g : im_g} : im_D g 430 82 (.istore 4) 84 := im_D.of (by decide +kernel)
theorem D430_84 {g : im_g} : im_D g 430 84 (.iload 4) 86 := im_D.of (by decide +kernel)
theorem D430_86 {g : im_g} : im_D g 430 86 (.iload_n 3) 87 := im_D.of (by decide +kernel)
theorem D430_87 {g : im_g} : im_D g 430 87 (.if_icmp .gt 15) 90 := im_D.of (by decide +kernel)
theorem D430_90 {g : im_g} : im_D g 430 90 (.aload_n 0) 91 := im_D.of (by decide +kernel)
theorem D430_91 {g : im_g} : im_D g 430 91 (.iload 4) 93 := im_D.of (by decide +kernel)
theorem D430_93 {g : im_g} : im_D g 430 93 (.invokevirtual 1120) 96 := im_D.of (by decide +kernel)
theorem D430_96 {g : im_g} : im_D g 430 96 (.iinc 4 1) 99 := im_D.of (by decide +kernel)
theorem D430_99 {g : im_g} : im_D g 430 99 (.goto (-15)) 102 := im_D.of (by decide +kernel)
theorem D430_102 {g : im_g} : im_D g 430 102 (.iconst 1) 103 := im_D.of (by decide +kernel)
theorem D430_103 {g : im_g} : im_D g 430 103 (.ireturn) 104 := im_D.of (by decide +kernel)
theorem D430_104 {g : im_g} : im_D g 430 104 (.iinc 3 1) 107 := im_D.of (by decide +kernel)
theorem D430_107 {g : im_g} : im_D g 430 107 (.aload_n 0) 108 := im_D.of (by decide +kernel)
theorem D430_108 {g : im_g} : im_D g 430 108 (.iload_n 3) 109 := im_D.of (by decide +kernel)
theorem D430_109 {g : im_g} : im_D g 430 109 (.invokevirtual 1102) 112 := im_D.of (by decide +kernel)
theorem D430_112 {g : im_g} : im_D g 430 112 (.goto (-105)) 115 := im_D.of (by decide +kernel)
theorem D430_115 {g : im_g} : im_D g 430 115 (.iconst 0) 116 := im_D.of (by decide +kernel)
theorem D430_116 {g : im_g} : im_D g 430 116 (.ireturn) 117 := im_D.of (by decide +kernel)
set_option maxRecDepth 20000 in
set_option maxHeartbeats 4000000 in
theorem b_look4_0 {g : im_g} {d : Nat} {e : im_E} {M : im_M} {K : im_K} {p1 p2 p3 p4 : Int} (hd : 1 ≤ d) (hP : (im_i32 p1) ∧ im_T g (d - 1) 268 0 [some (vL p1), none, some (vL 0), none, some (vL 15), none] [] e M (im_ri (fun x3 e_ M2 => e = e_ ∧ (im_i32 p3) ∧ im_T g (d - 1) 268 0 [some (vL p3), none, some (vL 1), none, some (vL 31), none] [] e M2 (im_ri (fun x6 e_ M5 => e = e_ ∧ (im_i32 x6) ∧ ((x6 = 0 → (im_i32 x3) ∧ ((((¬ x3 = 0 → (im_i32 p2) ∧ ((p2 = 0 → (0 ≤ p1 ∧ p1 < 16)) ∧ (¬ p2 = 0 → (0 ≤ p1 ∧ p1 < 16)))))) ∧ ((((¬ x3 = 0) ∧ (p2 = 0) ∧ (¬ (M5 6994 p1) = 0)) ∨ ((¬ x3 = 0) ∧ (¬ p2 = 0) ∧ (¬ (M5 6984 p1) = 0))) → im_T g (d - 1) 264 0 [some (.ref 6952), some (vI 3), some (vI x3), some (vI 0), some (vI 1)] [] e M5 (im_ri (fun x24 e_ M23 => e = e_ ∧ (im_i32 x24) ∧ ((¬ x24 = 0 → (im_i32 p2) ∧ ((p2 = 0 → ((p2 = 0 → im_T g (d - 1) 361 0 [some (.ref 6952), some (vI p1), none] [] e (im_u M23 6952 7 (M23 6952 6)) (im_r0 (fun  e_ M31 => e = e_ ∧ im_T g d 428 146 [some (.ref 6952), none, none, some (vI p3), some (vI p4), none, some (vI 0)] [] e (im_u (im_u (im_u M31 6952 175 0) 6952 4 0) 6952 102 1) K))) ∧ (¬ p2 = 0 → im_T g (d - 1) 429 0 [some (.ref 6952), some (vI p1), none] [] e (im_u M23 6952 7 (M23 6952 6)) (im_r0 (fun  e_ M33 => e = e_ ∧ im_T g d 428 146 [some (.ref 6952), none, none, some (vI p3), some (vI p4), none, some (vI 0)] [] e (im_u (im_u (im_u M33 6952 175 0) 6952 4 0) 6952 102 1) K))))) ∧ (¬ p2 = 0 → im_T g (d - 1) 344 0 [some (.ref 6952), some (vI p1), none, none, none, none] [] e (im_u M23 6952 7 (M23 6952 6)) (im_ri (fun x36 e_ M35 => e = e_ ∧ (im_i32 x36) ∧ ((¬ x36 = 0 → ((p2 = 0 → im_T g (d - 1) 361 0 [some (.ref 6952), some (vI p1), none] [] e M35 (im_r0 (fun  e_ M40 => e = e_ ∧ im_T g d 428 146 [some (.ref 6952), none, none, some (vI p3), some (vI p4), none, some (vI 0)] [] e (im_u (im_u (im_u M40 6952 175 0) 6952 4 0) 6952 102 1) K))) ∧ (¬ p2 = 0 → im_T g (d - 1) 429 0 [some (.ref 6952), some (vI p1), none] [] e M35 (im_r0 (fun  e_ M42 => e = e_ ∧ im_T g d 428 146 [some (.ref 6952), none, none, some (vI p3), some (vI p4), none, some (vI 0)] [] e (im_u (im_u (im_u M42 6952 175 0) 6952 4 0) 6952 102 1) K))))) ∧ (x36 = 0 → K (.inl (some (vI (-11)))) e M35))))))) ∧ (x24 = 0 → K (.inl (some (vI 0))) e M23))))) ∧ ((((x3 = 0)) ∨ ((¬ x3 = 0) ∧ (p2 = 0) ∧ ((M5 6994 p1) = 0)) ∨ ((¬ x3 = 0) ∧ (¬ p2 = 0) ∧ ((M5 6984 p1) = 0))) → im_T g (d - 1) 264 0 [some (.ref 6952), some (vI 3), some (vI x3), some (vI 0), some (vI 0)] [] e M5 (im_ri (fun x50 e_ M49 => e = e_ ∧ (im_i32 x50) ∧ ((¬ x50 = 0 → (im_i32 p2) ∧ ((p2 = 0 → ((p2 = 0 → im_T g (d - 1) 361 0 [some (.ref 6952), some (vI p1), none] [] e (im_u M49 6952 7 (M49 6952 6)) (im_r0 (fun  e_ M57 => e = e_ ∧ im_T g d 428 146 [some (.ref 6952), none, none, some (vI p3), some (vI p4), none, some (vI 0)] [] e (im_u (im_u (im_u M57 6952 175 0) 6952 4 0) 6952 102 1) K))) ∧ (¬ p2 = 0 → im_T g (d - 1) 429 0 [some (.ref 6952), some (vI p1), none] [] e (im_u M49 6952 7 (M49 6952 6)) (im_r0 (fun  e_ M59 => e = e_ ∧ im_T g d 428 146 [some (.ref 6952), none, none, some (vI p3), some (vI p4), none, some (vI 0)] [] e (im_u (im_u (im_u M59 6952 175 0) 6952 4 0) 6952 102 1) K))))) ∧ (¬ p2 = 0 → im_T g (d - 1) 344 0 [some (.ref 6952), some (vI p1), none, none, none, none] [] e (im_u M49 6952 7 (M49 6952 6)) (im_ri (fun x62 e_ M61 => e = e_ ∧ (im_i32 x62) ∧ ((¬ x62 = 0 → ((p2 = 0 → im_T g (d - 1) 361 0 [some (.ref 6952), some (vI p1), none] [] e M61 (im_r0 (fun  e_ M66 => e = e_ ∧ im_T g d 428 146 [some (.ref 6952), none, none, some (vI p3), some (vI p4), none, some (vI 0)] [] e (im_u (im_u (im_u M66 6952 175 0) 6952 4 0) 6952 102 1) K))) ∧ (¬ p2 = 0 → im_T g (d - 1) 429 0 [some (.ref 6952), some (vI p1), none] [] e M61 (im_r0 (fun  e_ M68 => e = e_ ∧ im_T g d 428 146 [some (.ref 6952), none, none, some (vI p3), some (vI p4), none, some (vI 0)] [] e (im_u (im_u (im_u M68 6952 175 0) 6952 4 0) 6952 102 1) K))))) ∧ (x62 = 0 → K (.inl (some (vI (-11)))) e M61))))))) ∧ (x50 = 0 → K (.inl (some (vI 0))) e M49))))))) ∧ (¬ x6 = 0 → (im_i32 p4) ∧ im_T g (d - 1) 268 0 [some (vL p4), none, some (vL 0), none, some (vL 400), none] [] e M5 (im_ri (fun x73 e_ M72 => e = e_ ∧ (im_i32 x73) ∧ ((x73 = 0 → (im_i32 x3) ∧ ((((¬ x3 = 0 → (im_i32 p2) ∧ ((p2 = 0 → (0 ≤ p1 ∧ p1 < 16)) ∧ (¬ p2 = 0 → (0 ≤ p1 ∧ p1 < 16)))))) ∧ ((((¬ x3 = 0) ∧ (p2 = 0) ∧ (¬ (M72 6994 p1) = 0)) ∨ ((¬ x3 = 0) ∧ (¬ p2 = 0) ∧ (¬ (M72 6984 p1) = 0))) → im_T g (d - 1) 264 0 [some (.ref 6952), some (vI 3), some (vI x3), some (vI 0), some (vI 1)] [] e M72 (im_ri (fun x90 e_ M89 => e = e_ ∧ (im_i32 x90) ∧ ((¬ x90 = 0 → (im_i32 p2) ∧ ((p2 = 0 → ((p2 = 0 → im_T g (d - 1) 361 0 [some (.ref 6952), some (vI p1), none] [] e (im_u M89 6952 7 (M89 6952 6)) (im_r0 (fun  e_ M97 => e = e_ ∧ im_T g d 428 146 [some (.ref 6952), none, none, some (vI p3), some (vI p4), none, some (vI 0)] [] e (im_u (im_u (im_u M97 6952 175 0) 6952 4 0) 6952 102 1) K))) ∧ (¬ p2 = 0 → im_T g (d - 1) 429 0 [some (.ref 6952), some (vI p1), none] [] e (im_u M89 6952 7 (M89 6952 6)) (im_r0 (fun  e_ M99 => e = e_ ∧ im_T g d 428 146 [some (.ref 6952), none, none, some (vI p3), some (vI p4), none, some (vI 0)] [] e (im_u (im_u (im_u M99 6952 175 0) 6952 4 0) 6952 102 1) K))))) ∧ (¬ p2 = 0 → im_T g (d - 1) 344 0 [some (.ref 6952), some (vI p1), none, none, none, none] [] e (im_u M89 6952 7 (M89 6952 6)) (im_ri (fun x102 e_ M101 => e = e_ ∧ (im_i32 x102) ∧ ((¬ x102 = 0 → ((p2 = 0 → im_T g (d - 1) 361 0 [some (.ref 6952), some (vI p1), none] [] e M101 (im_r0 (fun  e_ M106 => e = e_ ∧ im_T g d 428 146 [some (.ref 6952), none, none, some (vI p3), some (vI p4), none, some (vI 0)] [] e (im_u (im_u (im_u M106 6952 175 0) 6952 4 0) 6952 102 1) K))) ∧ (¬ p2 = 0 → im_T g (d - 1) 429 0 [some (.ref 6952), some (vI p1), none] [] e M101 (im_r0 (fun  e_ M108 => e = e_ ∧ im_T g d 428 146 [some (.ref 6952), none, none, some (vI p3), some (vI p4), none, some (vI 0)] [] e (im_u (im_u (im_u M108 6952 175 0) 6952 4 0) 6952 102 1) K))))) ∧ (x102 = 0 → K (.inl (some (vI (-11)))) e M101))))))) ∧ (x90 = 0 → K (.inl (some (vI 0))) e M89))))) ∧ ((((x3 = 0)) ∨ ((¬ x3 = 0) ∧ (p2 = 0) ∧ ((M72 6994 p1) = 0)) ∨ ((¬ x3 = 0) ∧ (¬ p2 = 0) ∧ ((M72 6984 p1) = 0))) → im_T g (d - 1) 264 0 [some (.ref 6952), some (vI 3), some (vI x3), some (vI 0), some (vI 0)] [] e M72 (im_ri (fun x116 e_ M115 => e = e_ ∧ (im_i32 x116) ∧ ((¬ x116 = 0 → (im_i32 p2) ∧ ((p2 = 0 → ((p2 = 0 → im_T g (d - 1) 361 0 [some (.ref 6952), some (vI p1), none] [] e (im_u M115 6952 7 (M115 6952 6)) (im_r0 (fun  e_ M123 => e = e_ ∧ im_T g d 428 146 [some (.ref 6952), none, none, some (vI p3), some (vI p4), none, some (vI 0)] [] e (im_u (im_u (im_u M123 6952 175 0) 6952 4 0) 6952 102 1) K))) ∧ (¬ p2 = 0 → im_T g (d - 1) 429 0 [some (.ref 6952), some (vI p1), none] [] e (im_u M115 6952 7 (M115 6952 6)) (im_r0 (fun  e_ M125 => e = e_ ∧ im_T g d 428 146 [some (.ref 6952), none, none, some (vI p3), some (vI p4), none, some (vI 0)] [] e (im_u (im_u (im_u M125 6952 175 0) 6952 4 0) 6952 102 1) K))))) ∧ (¬ p2 = 0 → im_T g (d - 1) 344 0 [some (.ref 6952), some (vI p1), none, none, none, none] [] e (im_u M115 6952 7 (M115 6952 6)) (im_ri (fun x128 e_ M127 => e = e_ ∧ (im_i32 x128) ∧ ((¬ x128 = 0 → ((p2 = 0 → im_T g (d - 1) 361 0 [some (.ref 6952), some (vI p1), none] [] e M127 (im_r0 (fun  e_ M132 => e = e_ ∧ im_T g d 428 146 [some (.ref 6952), none, none, some (vI p3), some (vI p4), none, some (vI 0)] [] e (im_u (im_u (im_u M132 6952 175 0) 6952 4 0) 6952 102 1) K))) ∧ (¬ p2 = 0 → im_T g (d - 1) 429 0 [some (.ref 6952), some (vI p1), none] [] e M127 (im_r0 (fun  e_ M134 => e = e_ ∧ im_T g d 428 146 [some (.ref 6952), none, none, some (vI p3), some (vI p4), none, some (vI 0)] [] e (im_u (im_u (im_u M134 6952 175 0) 6952 4 0) 6952 102 1) K))))) ∧ (x128 = 0 → K (.inl (some (vI (-11)))) e M127))))))) ∧ (x116 = 0 → K (.inl (some (vI 0))) e M115))))))) ∧ (¬ x73 = 0 → (im_i32 x3) ∧ ((((¬ x3 = 0 → (im_i32 p2) ∧ ((p2 = 0 → (0 ≤ p1 ∧ p1 < 16)) ∧ (¬ p2 = 0 → (0 ≤ p1 ∧ p1 < 16)))))) ∧ ((((¬ x3 = 0) ∧ (p2 = 0) ∧ (¬ (M72 6994 p1) = 0)) ∨ ((¬ x3 = 0) ∧ (¬ p2 = 0) ∧ (¬ (M72 6984 p1) = 0))) → im_T g (d - 1) 264 0 [some (.ref 6952), some (vI 3), some (vI x3), some (vI 1), some (vI 1)] [] e M72 (im_ri (fun x152 e_ M151 => e = e_ ∧ (im_i32 x152) ∧ ((¬ x152 = 0 → (im_i32 p2) ∧ ((p2 = 0 → ((p2 = 0 → im_T g (d - 1) 361 0 [some (.ref 6952), some (vI p1), none] [] e (im_u M151 6952 7 (M151 6952 6)) (im_r0 (fun  e_ M159 => e = e_ ∧ im_T g d 428 146 [some (.ref 6952), none, none, some (vI p3), some (vI p4), none, some (vI 0)] [] e (im_u (im_u (im_u M159 6952 175 0) 6952 4 0) 6952 102 1) K))) ∧ (¬ p2 = 0 → im_T g (d - 1) 429 0 [some (.ref 6952), some (vI p1), none] [] e (im_u M151 6952 7 (M151 6952 6)) (im_r0 (fun  e_ M161 => e = e_ ∧ im_T g d 428 146 [some (.ref 6952), none, none, some (vI p3), some (vI p4), none, some (vI 0)] [] e (im_u (im_u (im_u M161 6952 175 0) 6952 4 0) 6952 102 1) K))))) ∧ (¬ p2 = 0 → im_T g (d - 1) 344 0 [some (.ref 6952), some (vI p1), none, none, none, none] [] e (im_u M151 6952 7 (M151 6952 6)) (im_ri (fun x164 e_ M163 => e = e_ ∧ (im_i32 x164) ∧ ((¬ x164 = 0 → ((p2 = 0 → im_T g (d - 1) 361 0 [some (.ref 6952), some (vI p1), none] [] e M163 (im_r0 (fun  e_ M168 => e = e_ ∧ im_T g d 428 146 [some (.ref 6952), none, none, some (vI p3), some (vI p4), none, some (vI 0)] [] e (im_u (im_u (im_u M168 6952 175 0) 6952 4 0) 6952 102 1) K))) ∧ (¬ p2 = 0 → im_T g (d - 1) 429 0 [some (.ref 6952), some (vI p1), none] [] e M163 (im_r0 (fun  e_ M170 => e = e_ ∧ im_T g d 428 146 [some (.ref 6952), none, none, some (vI p3), some (vI p4), none, some (vI 0)] [] e (im_u (im_u (im_u M170 6952 175 0) 6952 4 0) 6952 102 1) K))))) ∧ (x164 = 0 → K (.inl (some (vI (-11)))) e M163))))))) ∧ (x152 = 0 → K (.inl (some (vI 0))) e M151))))) ∧ ((((x3 = 0)) ∨ ((¬ x3 = 0) ∧ (p2 = 0) ∧ ((M72 6994 p1) = 0)) ∨ ((¬ x3 = 0) ∧ (¬ p2 = 0) ∧ ((M72 6984 p1) = 0))) → im_T g (d - 1) 264 0 [some (.ref 6952), some (vI 3), some (vI x3), some (vI 1), some (vI 0)] [] e M72 (im_ri (fun x178 e_ M177 => e = e_ ∧ (im_i32 x178) ∧ ((¬ x178 = 0 → (im_i32 p2) ∧ ((p2 = 0 → ((p2 = 0 → im_T g (d - 1) 361 0 [some (.ref 6952), some (vI p1), none] [] e (im_u M177 6952 7 (M177 6952 6)) (im_r0 (fun  e_ M185 => e = e_ ∧ im_T g d 428 146 [some (.ref 6952), none, none, some (vI p3), some (vI p4), none, some (vI 0)] [] e (im_u (im_u (im_u M185 6952 175 0) 6952 4 0) 6952 102 1) K))) ∧ (¬ p2 = 0 → im_T g (d - 1) 429 0 [some (.ref 6952), some (vI p1), none] [] e (im_u M177 6952 7 (M177 6952 6)) (im_r0 (fun  e_ M187 => e = e_ ∧ im_T g d 428 146 [some (.ref 6952), none, none, some (vI p3), some (vI p4), none, some (vI 0)] [] e (im_u (im_u (im_u M187 6952 175 0) 6952 4 0) 6952 102 1) K))))) ∧ (¬ p2 = 0 → im_T g (d - 1) 344 0 [some (.ref 6952), some (vI p1), none, none, none, none] [] e (im_u M177 6952 7 (M177 6952 6)) (im_ri (fun x190 e_ M189 => e = e_ ∧ (im_i32 x190) ∧ ((¬ x190 = 0 → ((p2 = 0 → im_T g (d - 1) 361 0 [some (.ref 6952), some (vI p1), none] [] e M189 (im_r0 (fun  e_ M194 => e = e_ ∧ im_T g d 428 146 [some (.ref 6952), none, none, some (vI p3), some (vI p4), none, some (vI 0)] [] e (im_u (im_u (im_u M194 6952 175 0) 6952 4 0) 6952 102 1) K))) ∧ (¬ p2 = 0 → im_T g (d - 1) 429 0 [some (.ref 6952), some (vI p1), none] [] e M189 (im_r0 (fun  e_ M196 => e = e_ ∧ im_T g d 428 146 [some (.ref 6952), none, none, some (vI p3), some (vI p4), none, some (vI 0)] [] e (im_u (im_u (im_u M196 6952 175 0) 6952 4 0) 6952 102 1) K))))) ∧ (x190 = 0 → K (.inl (some (vI (-11)))) e M189))))))) ∧ (x178 = 0 → K (.inl (some (vI 0))) e M177))))))))))))))))) : im_T g d 428 0 [some (.ref 6952), some (vI p1), some (vI p2), some (vI p3), some (vI p4), none, none] [] e M K := by
  refine im_ld (q := 1) (i := 1) D428_0 rfl rfl rfl ?_
  obtain ⟨hg1, hP⟩ := hP
  refine im_i2l (q := 2) D428_1 hg1 ?_
  refine im_lconst (q := 3) (z := 0) D428_2 rfl ?_
  refine im_ldc2 (q := 6) (n := 15) D428_3 rfl ?_
  refine im_callS (q := 9) (kd := 0) (y := 268) (n := 3) (z := 12) (vs := [vL p1, vL 0, vL 15]) (r := []) (L2 := [some (vL p1), none, some (vL 0), none, some (vL 15), none]) D428_6 rfl (im_cal cn_428 cl_12_428) (Or.inl rfl) rfl rfl rfl rfl rfl hd ⟨rfl, rfl, rfl, trivial⟩ ?_
  refine hP.mono ?_
  rintro _ e202 M2 ⟨x3, rfl, rfl, hP⟩
  refine im_bkS ?_
  refine im_st1 (q := 11) (i := 5) (L' := [some (.ref 6952), some (vI p1), some (vI p2), some (vI p3), some (vI p4), some (vI x3), none]) D428_9 (Or.inr rfl) (Nat.le_of_ble_eq_true rfl) rfl ?_
  refine im_ld (q := 12) (i := 0) D428_11 rfl rfl rfl ?_
  refine im_iconst (q := 13) D428_12 ?_
  refine im_ld (q := 15) (i := 5) D428_13 rfl rfl rfl ?_
  refine im_ld (q := 16) (i := 3) D428_15 rfl rfl rfl ?_
  obtain ⟨hg4, hP⟩ := hP
  refine im_i2l (q := 17) D428_16 hg4 ?_
  refine im_lconst (q := 18) (z := 1) D428_17 rfl ?_
  refine im_ldc2 (q := 21) (n := 31) D428_18 rfl ?_
  refine im_callS (q := 24) (kd := 0) (y := 268) (n := 3) (z := 12) (vs := [vL p3, vL 1, vL 31]) (r := [vI x3, vI 3, .ref 6952]) (L2 := [some (vL p3), none, some (vL 1), none, some (vL 31), none]) D428_21 rfl (im_cal cn_428 cl_12_428) (Or.inl rfl) rfl rfl rfl rfl rfl hd ⟨rfl, rfl, rfl, trivial⟩ ?_
  refine hP.mono ?_
  rintro _ e201 M5 ⟨x6, rfl, rfl, hP⟩
  refine im_bkS ?_
  obtain ⟨hg7, hP⟩ := hP
  refine im_ifc (q := 27) (t := 44) D428_24 rfl hg7 (fun hc8 => ?_) (fun hc8 => ?_)
  · replace hP := hP.1 hc8
    refine im_iconst (q := 45) D428_44 ?_
    refine im_ld (q := 47) (i := 5) D428_45 rfl rfl rfl ?_
    obtain ⟨hg10, hP⟩ := hP
    obtain ⟨hP, hJ20, hJ46⟩ := hP
    have kJ21 : (((¬ x3 = 0) ∧ (p2 = 0) ∧ (¬ (M5 6994 p1) = 0)) ∨ ((¬ x3 = 0) ∧ (¬ p2 = 0) ∧ (¬ (M5 6984 p1) = 0))) → im_T g d 428 75 [some (.ref 6952), some (vI p1), some (vI p2), some (vI p3), some (vI p4), none, none] [vI 0, vI x3, vI 3, .ref 6952] e M5 K := by
      intro  hx22
      have hP := hJ20  hx22
      refine im_iconst (q := 76) D428_75 ?_
      refine im_goto (q := 79) (t := 80) D428_76 rfl ?_
      refine im_callV (q := 83) (kd := 1) (y := 264) (n := 4) (ci := 12) (a := 6952) (vs := [.ref 6952, vI 3, vI x3, vI 0, vI 1]) (r := []) (L2 := [some (.ref 6952), some (vI 3), some (vI x3), some (vI 0), some (vI 1)]) D428_80 (im_cal cn_428 cl_12_419) (Or.inl rfl) rfl sf_6952 rfl rfl rfl rfl hd ⟨rfl, rfl, rfl, rfl, rfl, trivial⟩ ?_
      refine hP.mono ?_
      rintro _ e45 M23 ⟨x24, rfl, rfl, hP⟩
      refine im_bkS ?_
      obtain ⟨hg25, hP⟩ := hP
      refine im_ifc (q := 86) (t := 88) D428_83 rfl hg25 (fun hc26 => ?_) (fun hc26 => ?_)
      · replace hP := hP.1 hc26
        refine im_ld (q := 89) (i := 0) D428_88 rfl rfl rfl ?_
        refine im_ld (q := 90) (i := 0) D428_89 rfl rfl rfl ?_
        refine im_rng (j := 6) sf_6952 (by decide) (by decide) (fun hr27 => ?_)
        refine im_gfI (q := 93) D428_90 (im_fl cn_428 fl_12_617) sf_6952 rfl rfl tI_12_6 rfl ?_
        refine im_pfI (q := 96) D428_93 (im_fl cn_428 fl_12_449) sf_6952 rfl rfl ti_12_7 hr27 ?_
        refine im_ld (q := 97) (i := 2) D428_96 rfl rfl rfl ?_
        obtain ⟨hg28, hP⟩ := hP
        refine im_ifc (q := 100) (t := 111) D428_97 rfl hg28 (fun hc29 => ?_) (fun hc29 => ?_)
        · replace hP := hP.1 hc29
          refine im_ld (q := 112) (i := 2) D428_111 rfl rfl rfl ?_
          refine im_ifc (q := 115) (t := 123) D428_112 rfl hg28 (fun hc30 => ?_) (fun hc30 => ?_)
          · replace hP := hP.1 hc30
            refine im_ld (q := 124) (i := 0) D428_123 rfl rfl rfl ?_
            refine im_ld (q := 125) (i := 1) D428_124 rfl rfl rfl ?_
            refine im_callV (q := 128) (kd := 1) (y := 361) (n := 1) (ci := 12) (a := 6952) (vs := [.ref 6952, vI p1]) (r := []) (L2 := [some (.ref 6952), some (vI p1), none]) D428_125 (im_cal cn_428 cl_12_1044) (Or.inl rfl) rfl sf_6952 rfl rfl rfl rfl hd ⟨rfl, rfl, trivial⟩ ?_
            refine hP.mono ?_
            rintro _ e32 M31 ⟨rfl, rfl, hP⟩
            refine im_bkN ?_
            refine im_ld (q := 129) (i := 0) D428_128 rfl rfl rfl ?_
            refine im_iconst (q := 130) D428_129 ?_
            refine im_pfI (q := 133) D428_130 (im_fl cn_428 fl_12_1111) sf_6952 rfl rfl ti_12_175 (by decide) ?_
            refine im_ld (q := 134) (i := 0) D428_133 rfl rfl rfl ?_
            refine im_iconst (q := 135) D428_134 ?_
            refine im_pfI (q := 138) D428_135 (im_fl cn_428 fl_12_423) sf_6952 rfl rfl ti_12_4 (by decide) ?_
            refine im_ld (q := 139) (i := 0) D428_138 rfl rfl rfl ?_
            refine im_iconst (q := 140) D428_139 ?_
            refine im_pfZ (q := 143) D428_140 (im_fl cn_428 fl_12_941) sf_6952 rfl rfl tz_12_102 (by decide) ?_
            refine im_iconst (q := 144) D428_143 ?_
            refine im_st1 (q := 146) (i := 6) (L' := [some (.ref 6952), some (vI p1), some (vI p2), some (vI p3), some (vI p4), none, some (vI 0)]) D428_144 (Or.inr rfl) (Nat.le_of_ble_eq_true rfl) rfl ?_
            exact hP.wk ⟨rfl, rfl, rfl, rfl, trivial⟩
          · replace hP := hP.2 hc30
            refine im_ld (q := 116) (i := 0) D428_115 rfl rfl rfl ?_
            refine im_ld (q := 117) (i := 1) D428_116 rfl rfl rfl ?_
            refine im_callV (q := 120) (kd := 1) (y := 429) (n := 1) (ci := 12) (a := 6952) (vs := [.ref 6952, vI p1]) (r := []) (L2 := [some (.ref 6952), some (vI p1), none]) D428_117 (im_cal cn_428 cl_12_1127) (Or.inl rfl) rfl sf_6952 rfl rfl rfl rfl hd ⟨rfl, rfl, trivial⟩ ?_
            refine hP.mono ?_
            rintro _ e34 M33 ⟨rfl, rfl, hP⟩
            refine im_bkN ?_
            refine im_goto (q := 123) (t := 128) D428_120 rfl ?_
            refine im_ld (q := 129) (i := 0) D428_128 rfl rfl rfl ?_
            refine im_iconst (q := 130) D428_129 ?_
            refine im_pfI (q := 133) D428_130 (im_fl cn_428 fl_12_1111) sf_6952 rfl rfl ti_12_175 (by decide) ?_
            refine im_ld (q := 134) (i := 0) D428_133 rfl rfl rfl ?_
            refine im_iconst (q := 135) D428_134 ?_
            refine im_pfI (q := 138) D428_135 (im_fl cn_428 fl_12_423) sf_6952 rfl rfl ti_12_4 (by decide) ?_
            refine im_ld (q := 139) (i := 0) D428_138 rfl rfl rfl ?_
            refine im_iconst (q := 140) D428_139 ?_
            refine im_pfZ (q := 143) D428_140 (im_fl cn_428 fl_12_941) sf_6952 rfl rfl tz_12_102 (by decide) ?_
            refine im_iconst (q := 144) D428_143 ?_
            refine im_st1 (q := 146) (i := 6) (L' := [some (.ref 6952), some (vI p1), some (vI p2), some (vI p3), some (vI p4), none, some (vI 0)]) D428_144 (Or.inr rfl) (Nat.le_of_ble_eq_true rfl) rfl ?_
            exact hP.wk ⟨rfl, rfl, rfl, rfl, trivial⟩
        · replace hP := hP.2 hc29
          refine im_ld (q := 101) (i := 0) D428_100 rfl rfl rfl ?_
          refine im_ld (q := 102) (i := 1) D428_101 rfl rfl rfl ?_
          refine im_callV (q := 105) (kd := 1) (y := 344) (n := 1) (ci := 12) (a := 6952) (vs := [.ref 6952, vI p1]) (r := []) (L2 := [some (.ref 6952), some (vI p1), none, none, none, none]) D428_102 (im_cal cn_428 cl_12_829) (Or.inl rfl) rfl sf_6952 rfl rfl rfl rfl hd ⟨rfl, rfl, trivial⟩ ?_
          refine hP.mono ?_
          rintro _ e44 M35 ⟨x36, rfl, rfl, hP⟩
          refine im_bkS ?_
          obtain ⟨hg37, hP⟩ := hP
          refine im_ifc (q := 108) (t := 111) D428_105 rfl hg37 (fun hc38 => ?_) (fun hc38 => ?_)
          · replace hP := hP.1 hc38
            refine im_ld (q := 112) (i := 2) D428_111 rfl rfl rfl ?_
            refine im_ifc (q := 115) (t := 123) D428_112 rfl hg28 (fun hc39 => ?_) (fun hc39 => ?_)
            · replace hP := hP.1 hc39
              refine im_ld (q := 124) (i := 0) D428_123 rfl rfl rfl ?_
              refine im_ld (q := 125) (i := 1) D428_124 rfl rfl rfl ?_
              refine im_callV (q := 128) (kd := 1) (y := 361) (n := 1) (ci := 12) (a := 6952) (vs := [.ref 6952, vI p1]) (r := []) (L2 := [some (.ref 6952), some (vI p1), none]) D428_125 (im_cal cn_428 cl_12_1044) (Or.inl rfl) rfl sf_6952 rfl rfl rfl rfl hd ⟨rfl, rfl, trivial⟩ ?_
              refine hP.mono ?_
              rintro _ e41 M40 ⟨rfl, rfl, hP⟩
              refine im_bkN ?_
              refine im_ld (q := 129) (i := 0) D428_128 rfl rfl rfl ?_
              refine im_iconst (q := 130) D428_129 ?_
              refine im_pfI (q := 133) D428_130 (im_fl cn_428 fl_12_1111) sf_6952 rfl rfl ti_12_175 (by decide) ?_
              refine im_ld (q := 134) (i := 0) D428_133 rfl rfl rfl ?_
              refine im_iconst (q := 135) D428_134 ?_
              refine im_pfI (q := 138) D428_135 (im_fl cn_428 fl_12_423) sf_6952 rfl rfl ti_12_4 (by decide) ?_
              refine im_ld (q := 139) (i := 0) D428_138 rfl rfl rfl ?_
              refine im_iconst (q := 140) D428_139 ?_
              refine im_pfZ (q := 143) D428_140 (im_fl cn_428 fl_12_941) sf_6952 rfl rfl tz_12_102 (by decide) ?_
              refine im_iconst (q := 144) D428_143 ?_
              refine im_st1 (q := 146) (i := 6) (L' := [some (.ref 6952), some (vI p1), some (vI p2), some (vI p3), some (vI p4), none, some (vI 0)]) D428_144 (Or.inr rfl) (Nat.le_of_ble_eq_true rfl) rfl ?_
              exact hP.wk ⟨rfl, rfl, rfl, rfl, trivial⟩
            · replace hP := hP.2 hc39
              refine im_ld (q := 116) (i := 0) D428_115 rfl rfl rfl ?_
              refine im_ld (q := 117) (i := 1) D428_116 rfl rfl rfl ?_
              refine im_callV (q := 120) (kd := 1) (y := 429) (n := 1) (ci := 12) (a := 6952) (vs := [.ref 6952, vI p1]) (r := []) (L2 := [some (.ref 6952), some (vI p1), none]) D428_117 (im_cal cn_428 cl_12_1127) (Or.inl rfl) rfl sf_6952 rfl rfl rfl rfl hd ⟨rfl, rfl, trivial⟩ ?_
              refine hP.mono ?_
              rintro _ e43 M42 ⟨rfl, rfl, hP⟩
              refine im_bkN ?_
              refine im_goto (q := 123) (t := 128) D428_120 rfl ?_
              refine im_ld (q := 129) (i := 0) D428_128 rfl rfl rfl ?_
              refine im_iconst (q := 130) D428_129 ?_
              refine im_pfI (q := 133) D428_130 (im_fl cn_428 fl_12_1111) sf_6952 rfl rfl ti_12_175 (by decide) ?_
              refine im_ld (q := 134) (i := 0) D428_133 rfl rfl rfl ?_
              refine im_iconst (q := 135) D428_134 ?_
              refine im_pfI (q := 138) D428_135 (im_fl cn_428 fl_12_423) sf_6952 rfl rfl ti_12_4 (by decide) ?_
              refine im_ld (q := 139) (i := 0) D428_138 rfl rfl rfl ?_
              refine im_iconst (q := 140) D428_139 ?_
              refine im_pfZ (q := 143) D428_140 (im_fl cn_428 fl_12_941) sf_6952 rfl rfl tz_12_102 (by decide) ?_
              refine im_iconst (q := 144) D428_143 ?_
              refine im_st1 (q := 146) (i := 6) (L' := [some (.ref 6952), some (vI p1), some (vI p2), some (vI p3), some (vI p4), none, some (vI 0)]) D428_144 (Or.inr rfl) (Nat.le_of_ble_eq_true rfl) rfl ?_
              exact hP.wk ⟨rfl, rfl, rfl, rfl, trivial⟩
          · replace hP := hP.2 (Decidable.not_not.mp hc38)
            refine im_bipush (q := 110) D428_108 rfl ?_
            exact im_iret (q := 111) D428_110 rfl hP
      · replace hP := hP.2 (Decidable.not_not.mp hc26)
        refine im_iconst (q := 87) D428_86 ?_
        exact im_iret (q := 88) D428_87 rfl hP
    have kJ47 : (((x3 = 0)) ∨ ((¬ x3 = 0) ∧ (p2 = 0) ∧ ((M5 6994 p1) = 0)) ∨ ((¬ x3 = 0) ∧ (¬ p2 = 0) ∧ ((M5 6984 p1) = 0))) → im_T g d 428 79 [some (.ref 6952), some (vI p1), some (vI p2), some (vI p3), some (vI p4), none, none] [vI 0, vI x3, vI 3, .ref 6952] e M5 K := by
      intro  hx48
      have hP := hJ46  hx48
      refine im_iconst (q := 80) D428_79 ?_
      refine im_callV (q := 83) (kd := 1) (y := 264) (n := 4) (ci := 12) (a := 6952) (vs := [.ref 6952, vI 3, vI x3, vI 0, vI 0]) (r := []) (L2 := [some (.ref 6952), some (vI 3), some (vI x3), some (vI 0), some (vI 0)]) D428_80 (im_cal cn_428 cl_12_419) (Or.inl rfl) rfl sf_6952 rfl rfl rfl rfl hd ⟨rfl, rfl, rfl, rfl, rfl, trivial⟩ ?_
      refine hP.mono ?_
      rintro _ e71 M49 ⟨x50, rfl, rfl, hP⟩
      refine im_bkS ?_
      obtain ⟨hg51, hP⟩ := hP
      refine im_ifc (q := 86) (t := 88) D428_83 rfl hg51 (fun hc52 => ?_) (fun hc52 => ?_)
      · replace hP := hP.1 hc52
        refine im_ld (q := 89) (i := 0) D428_88 rfl rfl rfl ?_
        refine im_ld (q := 90) (i := 0) D428_89 rfl rfl rfl ?_
        refine im_rng (j := 6) sf_6952 (by decide) (by decide) (fun hr53 => ?_)
        refine im_gfI (q := 93) D428_90 (im_fl cn_428 fl_12_617) sf_6952 rfl rfl tI_12_6 rfl ?_
        refine im_pfI (q := 96) D428_93 (im_fl cn_428 fl_12_449) sf_6952 rfl rfl ti_12_7 hr53 ?_
        refine im_ld (q := 97) (i := 2) D428_96 rfl rfl rfl ?_
        obtain ⟨hg54, hP⟩ := hP
        refine im_ifc (q := 100) (t := 111) D428_97 rfl hg54 (fun hc55 => ?_) (fun hc55 => ?_)
        · replace hP := hP.1 hc55
          refine im_ld (q := 112) (i := 2) D428_111 rfl rfl rfl ?_
          refine im_ifc (q := 115) (t := 123) D428_112 rfl hg54 (fun hc56 => ?_) (fun hc56 => ?_)
          · replace hP := hP.1 hc56
            refine im_ld (q := 124) (i := 0) D428_123 rfl rfl rfl ?_
            refine im_ld (q := 125) (i := 1) D428_124 rfl rfl rfl ?_
            refine im_callV (q := 128) (kd := 1) (y := 361) (n := 1) (ci := 12) (a := 6952) (vs := [.ref 6952, vI p1]) (r := []) (L2 := [some (.ref 6952), some (vI p1), none]) D428_125 (im_cal cn_428 cl_12_1044) (Or.inl rfl) rfl sf_6952 rfl rfl rfl rfl hd ⟨rfl, rfl, trivial⟩ ?_
            refine hP.mono ?_
            rintro _ e58 M57 ⟨rfl, rfl, hP⟩
            refine im_bkN ?_
            refine im_ld (q := 129) (i := 0) D428_128 rfl rfl rfl ?_
            refine im_iconst (q := 130) D428_129 ?_
            refine im_pfI (q := 133) D428_130 (im_fl cn_428 fl_12_1111) sf_6952 rfl rfl ti_12_175 (by decide) ?_
            refine im_ld (q := 134) (i := 0) D428_133 rfl rfl rfl ?_
            refine im_iconst (q := 135) D428_134 ?_
            refine im_pfI (q := 138) D428_135 (im_fl cn_428 fl_12_423) sf_6952 rfl rfl ti_12_4 (by decide) ?_
            refine im_ld (q := 139) (i := 0) D428_138 rfl rfl rfl ?_
            refine im_iconst (q := 140) D428_139 ?_
            refine im_pfZ (q := 143) D428_140 (im_fl cn_428 fl_12_941) sf_6952 rfl rfl tz_12_102 (by decide) ?_
            refine im_iconst (q := 144) D428_143 ?_
            refine im_st1 (q := 146) (i := 6) (L' := [some (.ref 6952), some (vI p1), some (vI p2), some (vI p3), some (vI p4), none, some (vI 0)]) D428_144 (Or.inr rfl) (Nat.le_of_ble_eq_true rfl) rfl ?_
            exact hP.wk ⟨rfl, rfl, rfl, rfl, trivial⟩
          · replace hP := hP.2 hc56
            refine im_ld (q := 116) (i := 0) D428_115 rfl rfl rfl ?_
            refine im_ld (q := 117) (i := 1) D428_116 rfl rfl rfl ?_
            refine im_callV (q := 120) (kd := 1) (y := 429) (n := 1) (ci := 12) (a := 6952) (vs := [.ref 6952, vI p1]) (r := []) (L2 := [some (.ref 6952), some (vI p1), none]) D428_117 (im_cal cn_428 cl_12_1127) (Or.inl rfl) rfl sf_6952 rfl rfl rfl rfl hd ⟨rfl, rfl, trivial⟩ ?_
            refine hP.mono ?_
            rintro _ e60 M59 ⟨rfl, rfl, hP⟩
            refine im_bkN ?_
            refine im_goto (q := 123) (t := 128) D428_120 rfl ?_
            refine im_ld (q := 129) (i := 0) D428_128 rfl rfl rfl ?_
            refine im_iconst (q := 130) D428_129 ?_
            refine im_pfI (q := 133) D428_130 (im_fl cn_428 fl_12_1111) sf_6952 rfl rfl ti_12_175 (by decide) ?_
            refine im_ld (q := 134) (i := 0) D428_133 rfl rfl rfl ?_
            refine im_iconst (q := 135) D428_134 ?_
            refine im_pfI (q := 138) D428_135 (im_fl cn_428 fl_12_423) sf_6952 rfl rfl ti_12_4 (by decide) ?_
            refine im_ld (q := 139) (i := 0) D428_138 rfl rfl rfl ?_
            refine im_iconst (q := 140) D428_139 ?_
            refine im_pfZ (q := 143) D428_140 (im_fl cn_428 fl_12_941) sf_6952 rfl rfl tz_12_102 (by decide) ?_
            refine im_iconst (q := 144) D428_143 ?_
            refine im_st1 (q := 146) (i := 6) (L' := [some (.ref 6952), some (vI p1), some (vI p2), some (vI p3), some (vI p4), none, some (vI 0)]) D428_144 (Or.inr rfl) (Nat.le_of_ble_eq_true rfl) rfl ?_
            exact hP.wk ⟨rfl, rfl, rfl, rfl, trivial⟩
        · replace hP := hP.2 hc55
          refine im_ld (q := 101) (i := 0) D428_100 rfl rfl rfl ?_
          refine im_ld (q := 102) (i := 1) D428_101 rfl rfl rfl ?_
          refine im_callV (q := 105) (kd := 1) (y := 344) (n := 1) (ci := 12) (a := 6952) (vs := [.ref 6952, vI p1]) (r := []) (L2 := [some (.ref 6952), some (vI p1), none, none, none, none]) D428_102 (im_cal cn_428 cl_12_829) (Or.inl rfl) rfl sf_6952 rfl rfl rfl rfl hd ⟨rfl, rfl, trivial⟩ ?_
          refine hP.mono ?_
          rintro _ e70 M61 ⟨x62, rfl, rfl, hP⟩
          refine im_bkS ?_
          obtain ⟨hg63, hP⟩ := hP
          refine im_ifc (q := 108) (t := 111) D428_105 rfl hg63 (fun hc64 => ?_) (fun hc64 => ?_)
          · replace hP := hP.1 hc64
            refine im_ld (q := 112) (i := 2) D428_111 rfl rfl rfl ?_
            refine im_ifc (q := 115) (t := 123) D428_112 rfl hg54 (fun hc65 => ?_) (fun hc65 => ?_)
            · replace hP := hP.1 hc65
              refine im_ld (q := 124) (i := 0) D428_123 rfl rfl rfl ?_
              refine im_ld (q := 125) (i := 1) D428_124 rfl rfl rfl ?_
              refine im_callV (q := 128) (kd := 1) (y := 361) (n := 1) (ci := 12) (a := 6952) (vs := [.ref 6952, vI p1]) (r := []) (L2 := [some (.ref 6952), some (vI p1), none]) D428_125 (im_cal cn_428 cl_12_1044) (Or.inl rfl) rfl sf_6952 rfl rfl rfl rfl hd ⟨rfl, rfl, trivial⟩ ?_
              refine hP.mono ?_
              rintro _ e67 M66 ⟨rfl, rfl, hP⟩
              refine im_bkN ?_
              refine im_ld (q := 129) (i := 0) D428_128 rfl rfl rfl ?_
              refine im_iconst (q := 130) D428_129 ?_
              refine im_pfI (q := 133) D428_130 (im_fl cn_428 fl_12_1111) sf_6952 rfl rfl ti_12_175 (by decide) ?_
              refine im_ld (q := 134) (i := 0) D428_133 rfl rfl rfl ?_
              refine im_iconst (q := 135) D428_134 ?_
              refine im_pfI (q := 138) D428_135 (im_fl cn_428 fl_12_423) sf_6952 rfl rfl ti_12_4 (by decide) ?_
              refine im_ld (q := 139) (i := 0) D428_138 rfl rfl rfl ?_
              refine im_iconst (q := 140) D428_139 ?_
              refine im_pfZ (q := 143) D428_140 (im_fl cn_428 fl_12_941) sf_6952 rfl rfl tz_12_102 (by decide) ?_
              refine im_iconst (q := 144) D428_143 ?_
              refine im_st1 (q := 146) (i := 6) (L' := [some (.ref 6952), some (vI p1), some (vI p2), some (vI p3), some (vI p4), none, some (vI 0)]) D428_144 (Or.inr rfl) (Nat.le_of_ble_eq_true rfl) rfl ?_
              exact hP.wk ⟨rfl, rfl, rfl, rfl, trivial⟩
            · replace hP := hP.2 hc65
              refine im_ld (q := 116) (i := 0) D428_115 rfl rfl rfl ?_
              refine im_ld (q := 117) (i := 1) D428_116 rfl rfl rfl ?_
              refine im_callV (q := 120) (kd := 1) (y := 429) (n := 1) (ci := 12) (a := 6952) (vs := [.ref 6952, vI p1]) (r := []) (L2 := [some (.ref 6952), some (vI p1), none]) D428_117 (im_cal cn_428 cl_12_1127) (Or.inl rfl) rfl sf_6952 rfl rfl rfl rfl hd ⟨rfl, rfl, trivial⟩ ?_
              refine hP.mono ?_
              rintro _ e69 M68 ⟨rfl, rfl, hP⟩
              refine im_bkN ?_
              refine im_goto (q := 123) (t := 128) D428_120 rfl ?_
              refine im_ld (q := 129) (i := 0) D428_128 rfl rfl rfl ?_
              refine im_iconst (q := 130) D428_129 ?_
              refine im_pfI (q := 133) D428_130 (im_fl cn_428 fl_12_1111) sf_6952 rfl rfl ti_12_175 (by decide) ?_
              refine im_ld (q := 134) (i := 0) D428_133 rfl rfl rfl ?_
              refine im_iconst (q := 135) D428_134 ?_
              refine im_pfI (q := 138) D428_135 (im_fl cn_428 fl_12_423) sf_6952 rfl rfl ti_12_4 (by decide) ?_
              refine im_ld (q := 139) (i := 0) D428_138 rfl rfl rfl ?_
              refine im_iconst (q := 140) D428_139 ?_
              refine im_pfZ (q := 143) D428_140 (im_fl cn_428 fl_12_941) sf_6952 rfl rfl tz_12_102 (by decide) ?_
              refine im_iconst (q := 144) D428_143 ?_
              refine im_st1 (q := 146) (i := 6) (L' := [some (.ref 6952), some (vI p1), some (vI p2), some (vI p3), some (vI p4), none, some (vI 0)]) D428_144 (Or.inr rfl) (Nat.le_of_ble_eq_true rfl) rfl ?_
              exact hP.wk ⟨rfl, rfl, rfl, rfl, trivial⟩
          · replace hP := hP.2 (Decidable.not_not.mp hc64)
            refine im_bipush (q := 110) D428_108 rfl ?_
            exact im_iret (q := 111) D428_110 rfl hP
      · replace hP := hP.2 (Decidable.not_not.mp hc52)
        refine im_iconst (q := 87) D428_86 ?_
        exact im_iret (q := 88) D428_87 rfl hP
    refine im_ifc (q := 50) (t := 79) D428_47 rfl hg10 (fun hc11 => ?_) (fun hc11 => ?_)
    · exact (kJ47  (Or.inl hc11)).wk ⟨rfl, rfl, rfl, rfl, rfl, trivial⟩
    · replace hP := hP hc11
      refine im_ld (q := 51) (i := 2) D428_50 rfl rfl rfl ?_
      obtain ⟨hg12, hP⟩ := hP
      refine im_ifc (q := 54) (t := 66) D428_51 rfl hg12 (fun hc13 => ?_) (fun hc13 => ?_)
      · replace hP := hP.1 hc13
        refine im_ld (q := 67) (i := 0) D428_66 rfl rfl rfl ?_
        refine im_gfR (q := 70) (b := 6994) D428_67 (im_fl cn_428 fl_12_136) sf_6952 rfl rfl tR_12_66 rf_6952_66 ?_
        refine im_ld (q := 71) (i := 1) D428_70 rfl rfl rfl ?_
        have hg14 := hP
        refine im_rng (j := p1) sf_6994 hg14.1 hg14.2 (fun hr15 => ?_)
        refine im_bald (q := 72) D428_71 sf_6994 (Or.inr rfl) hg14.1 hg14.2 (by decide) rfl ?_
        refine im_ifc (q := 75) (t := 79) D428_72 rfl (im_z32 hr15) (fun hc16 => ?_) (fun hc16 => ?_)
        · exact (kJ47  (Or.inr (Or.inl ⟨hc11, hc13, hc16⟩))).wk ⟨rfl, rfl, rfl, rfl, rfl, trivial⟩
        · exact (kJ21  (Or.inl ⟨hc11, hc13, hc16⟩)).wk ⟨rfl, rfl, rfl, rfl, rfl, trivial⟩
      · replace hP := hP.2 hc13
        refine im_ld (q := 55) (i := 0) D428_54 rfl rfl rfl ?_
        refine im_gfR (q := 58) (b := 6984) D428_55 (im_fl cn_428 fl_12_106) sf_6952 rfl rfl tR_12_52 rf_6952_52 ?_
        refine im_ld (q := 59) (i := 1) D428_58 rfl rfl rfl ?_
        have hg17 := hP
        refine im_rng (j := p1) sf_6984 hg17.1 hg17.2 (fun hr18 => ?_)
        refine im_bald (q := 60) D428_59 sf_6984 (Or.inr rfl) hg17.1 hg17.2 (by decide) rfl ?_
        refine im_ifc (q := 63) (t := 79) D428_60 rfl (im_z32 hr18) (fun hc19 => ?_) (fun hc19 => ?_)
        · exact (kJ47  (Or.inr (Or.inr ⟨hc11, hc13, hc19⟩))).wk ⟨rfl, rfl, rfl, rfl, rfl, trivial⟩
        · refine im_goto (q := 66) (t := 75) D428_63 rfl ?_
          exact (kJ21  (Or.inr ⟨hc11, hc13, hc19⟩)).wk ⟨rfl, rfl, rfl, rfl, rfl, trivial⟩
  · replace hP := hP.2 hc8
    refine im_ld (q := 29) (i := 4) D428_27 rfl rfl rfl ?_
    obtain ⟨hg9, hP⟩ := hP
    refine im_i2l (q := 30) D428_29 hg9 ?_
    refine im_lconst (q := 31) (z := 0) D428_30 rfl ?_
    refine im_ldc2 (q := 34) (n := 400) D428_31 rfl ?_
    refine im_callS (q := 37) (kd := 0) (y := 268) (n := 3) (z := 12) (vs := [vL p4, vL 0, vL 400]) (r := [vI x3, vI 3, .ref 6952]) (L2 := [some (vL p4), none, some (vL 0), none, some (vL 400), none]) D428_34 rfl (im_cal cn_428 cl_12_428) (Or.inl rfl) rfl rfl rfl rfl rfl hd ⟨rfl, rfl, rfl, trivial⟩ ?_
    refine hP.mono ?_
    rintro _ e200 M72 ⟨x73, rfl, rfl, hP⟩
    refine im_bkS ?_
    obtain ⟨hg74, hP⟩ := hP
    refine im_ifc (q := 40) (t := 44) D428_37 rfl hg74 (fun hc75 => ?_) (fun hc75 => ?_)
    · replace hP := hP.1 hc75
      refine im_iconst (q := 45) D428_44 ?_
      refine im_ld (q := 47) (i := 5) D428_45 rfl rfl rfl ?_
      obtain ⟨hg76, hP⟩ := hP
      obtain ⟨hP, hJ86, hJ112⟩ := hP
      have kJ87 : (((¬ x3 = 0) ∧ (p2 = 0) ∧ (¬ (M72 6994 p1) = 0)) ∨ ((¬ x3 = 0) ∧ (¬ p2 = 0) ∧ (¬ (M72 6984 p1) = 0))) → im_T g d 428 75 [some (.ref 6952), some (vI p1), some (vI p2), some (vI p3), some (vI p4), none, none] [vI 0, vI x3, vI 3, .ref 6952] e M72 K := by
        intro  hx88
        have hP := hJ86  hx88
        refine im_iconst (q := 76) D428_75 ?_
        refine im_goto (q := 79) (t := 80) D428_76 rfl ?_
        refine im_callV (q := 83) (kd := 1) (y := 264) (n := 4) (ci := 12) (a := 6952) (vs := [.ref 6952, vI 3, vI x3, vI 0, vI 1]) (r := []) (L2 := [some (.ref 6952), some (vI 3), some (vI x3), some (vI 0), some (vI 1)]) D428_80 (im_cal cn_428 cl_12_419) (Or.inl rfl) rfl sf_6952 rfl rfl rfl rfl hd ⟨rfl, rfl, rfl, rfl, rfl, trivial⟩ ?_
        refine hP.mono ?_
        rintro _ e111 M89 ⟨x90, rfl, rfl, hP⟩
        refine im_bkS ?_
        obtain ⟨hg91, hP⟩ := hP
        refine im_ifc (q := 86) (t := 88) D428_83 rfl hg91 (fun hc92 => ?_) (fun hc92 => ?_)
        · replace hP := hP.1 hc92
          refine im_ld (q := 89) (i := 0) D428_88 rfl rfl rfl ?_
          refine im_ld (q := 90) (i := 0) D428_89 rfl rfl rfl ?_
          refine im_rng (j := 6) sf_6952 (by decide) (by decide) (fun hr93 => ?_)
          refine im_gfI (q := 93) D428_90 (im_fl cn_428 fl_12_617) sf_6952 rfl rfl tI_12_6 rfl ?_
          refine im_pfI (q := 96) D428_93 (im_fl cn_428 fl_12_449) sf_6952 rfl rfl ti_12_7 hr93 ?_
          refine im_ld (q := 97) (i := 2) D428_96 rfl rfl rfl ?_
          obtain ⟨hg94, hP⟩ := hP
          refine im_ifc (q := 100) (t := 111) D428_97 rfl hg94 (fun hc95 => ?_) (fun hc95 => ?_)
          · replace hP := hP.1 hc95
            refine im_ld (q := 112) (i := 2) D428_111 rfl rfl rfl ?_
            refine im_ifc (q := 115) (t := 123) D428_112 rfl hg94 (fun hc96 => ?_) (fun hc96 => ?_)
            · replace hP := hP.1 hc96
              refine im_ld (q := 124) (i := 0) D428_123 rfl rfl rfl ?_
              refine im_ld (q := 125) (i := 1) D428_124 rfl rfl rfl ?_
              refine im_callV (q := 128) (kd := 1) (y := 361) (n := 1) (ci := 12) (a := 6952) (vs := [.ref 6952, vI p1]) (r := []) (L2 := [some (.ref 6952), some (vI p1), none]) D428_125 (im_cal cn_428 cl_12_1044) (Or.inl rfl) rfl sf_6952 rfl rfl rfl rfl hd ⟨rfl, rfl, trivial⟩ ?_
              refine hP.mono ?_
              rintro _ e98 M97 ⟨rfl, rfl, hP⟩
              refine im_bkN ?_
              refine im_ld (q := 129) (i := 0) D428_128 rfl rfl rfl ?_
              refine im_iconst (q := 130) D428_129 ?_
              refine im_pfI (q := 133) D428_130 (im_fl cn_428 fl_12_1111) sf_6952 rfl rfl ti_12_175 (by decide) ?_
              refine im_ld (q := 134) (i := 0) D428_133 rfl rfl rfl ?_
              refine im_iconst (q := 135) D428_134 ?_
              refine im_pfI (q := 138) D428_135 (im_fl cn_428 fl_12_423) sf_6952 rfl rfl ti_12_4 (by decide) ?_
              refine im_ld (q := 139) (i := 0) D428_138 rfl rfl rfl ?_
              refine im_iconst (q := 140) D428_139 ?_
              refine im_pfZ (q := 143) D428_140 (im_fl cn_428 fl_12_941) sf_6952 rfl rfl tz_12_102 (by decide) ?_
              refine im_iconst (q := 144) D428_143 ?_
              refine im_st1 (q := 146) (i := 6) (L' := [some (.ref 6952), some (vI p1), some (vI p2), some (vI p3), some (vI p4), none, some (vI 0)]) D428_144 (Or.inr rfl) (Nat.le_of_ble_eq_true rfl) rfl ?_
              exact hP.wk ⟨rfl, rfl, rfl, rfl, trivial⟩
            · replace hP := hP.2 hc96
              refine im_ld (q := 116) (i := 0) D428_115 rfl rfl rfl ?_
              refine im_ld (q := 117) (i := 1) D428_116 rfl rfl rfl ?_
              refine im_callV (q := 120) (kd := 1) (y := 429) (n := 1) (ci := 12) (a := 6952) (vs := [.ref 6952, vI p1]) (r := []) (L2 := [some (.ref 6952), some (vI p1), none]) D428_117 (im_cal cn_428 cl_12_1127) (Or.inl rfl) rfl sf_6952 rfl rfl rfl rfl hd ⟨rfl, rfl, trivial⟩ ?_
              refine hP.mono ?_
              rintro _ e100 M99 ⟨rfl, rfl, hP⟩
              refine im_bkN ?_
              refine im_goto (q := 123) (t := 128) D428_120 rfl ?_
              refine im_ld (q := 129) (i := 0) D428_128 rfl rfl rfl ?_
              refine im_iconst (q := 130) D428_129 ?_
              refine im_pfI (q := 133) D428_130 (im_fl cn_428 fl_12_1111) sf_6952 rfl rfl ti_12_175 (by decide) ?_
              refine im_ld (q := 134) (i := 0) D428_133 rfl rfl rfl ?_
              refine im_iconst (q := 135) D428_134 ?_
              refine im_pfI (q := 138) D428_135 (im_fl cn_428 fl_12_423) sf_6952 rfl rfl ti_12_4 (by decide) ?_
              refine im_ld (q := 139) (i := 0) D428_138 rfl rfl rfl ?_
              refine im_iconst (q := 140) D428_139 ?_
              refine im_pfZ (q := 143) D428_140 (im_fl cn_428 fl_12_941) sf_6952 rfl rfl tz_12_102 (by decide) ?_
              refine im_iconst (q := 144) D428_143 ?_
              refine im_st1 (q := 146) (i := 6) (L' := [some (.ref 6952), some (vI p1), some (vI p2), some (vI p3), some (vI p4), none, some (vI 0)]) D428_144 (Or.inr rfl) (Nat.le_of_ble_eq_true rfl) rfl ?_
              exact hP.wk ⟨rfl, rfl, rfl, rfl, trivial⟩
          · replace hP := hP.2 hc95
            refine im_ld (q := 101) (i := 0) D428_100 rfl rfl rfl ?_
            refine im_ld (q := 102) (i := 1) D428_101 rfl rfl rfl ?_
            refine im_callV (q := 105) (kd := 1) (y := 344) (n := 1) (ci := 12) (a := 6952) (vs := [.ref 6952, vI p1]) (r := []) (L2 := [some (.ref 6952), some (vI p1), none, none, none, none]) D428_102 (im_cal cn_428 cl_12_829) (Or.inl rfl) rfl sf_6952 rfl rfl rfl rfl hd ⟨rfl, rfl, trivial⟩ ?_
            refine hP.mono ?_
            rintro _ e110 M101 ⟨x102, rfl, rfl, hP⟩
            refine im_bkS ?_
            obtain ⟨hg103, hP⟩ := hP
            refine im_ifc (q := 108) (t := 111) D428_105 rfl hg103 (fun hc104 => ?_) (fun hc104 => ?_)
            · replace hP := hP.1 hc104
              refine im_ld (q := 112) (i := 2) D428_111 rfl rfl rfl ?_
              refine im_ifc (q := 115) (t := 123) D428_112 rfl hg94 (fun hc105 => ?_) (fun hc105 => ?_)
              · replace hP := hP.1 hc105
                refine im_ld (q := 124) (i := 0) D428_123 rfl rfl rfl ?_
                refine im_ld (q := 125) (i := 1) D428_124 rfl rfl rfl ?_
                refine im_callV (q := 128) (kd := 1) (y := 361) (n := 1) (ci := 12) (a := 6952) (vs := [.ref 6952, vI p1]) (r := []) (L2 := [some (.ref 6952), some (vI p1), none]) D428_125 (im_cal cn_428 cl_12_1044) (Or.inl rfl) rfl sf_6952 rfl rfl rfl rfl hd ⟨rfl, rfl, trivial⟩ ?_
                refine hP.mono ?_
                rintro _ e107 M106 ⟨rfl, rfl, hP⟩
                refine im_bkN ?_
                refine im_ld (q := 129) (i := 0) D428_128 rfl rfl rfl ?_
                refine im_iconst (q := 130) D428_129 ?_
                refine im_pfI (q := 133) D428_130 (im_fl cn_428 fl_12_1111) sf_6952 rfl rfl ti_12_175 (by decide) ?_
                refine im_ld (q := 134) (i := 0) D428_133 rfl rfl rfl ?_
                refine im_iconst (q := 135) D428_134 ?_
                refine im_pfI (q := 138) D428_135 (im_fl cn_428 fl_12_423) sf_6952 rfl rfl ti_12_4 (by decide) ?_
                refine im_ld (q := 139) (i := 0) D428_138 rfl rfl rfl ?_
                refine im_iconst (q := 140) D428_139 ?_
                refine im_pfZ (q := 143) D428_140 (im_fl cn_428 fl_12_941) sf_6952 rfl rfl tz_12_102 (by decide) ?_
                refine im_iconst (q := 144) D428_143 ?_
                refine im_st1 (q := 146) (i := 6) (L' := [some (.ref 6952), some (vI p1), some (vI p2), some (vI p3), some (vI p4), none, some (vI 0)]) D428_144 (Or.inr rfl) (Nat.le_of_ble_eq_true rfl) rfl ?_
                exact hP.wk ⟨rfl, rfl, rfl, rfl, trivial⟩
              · replace hP := hP.2 hc105
                refine im_ld (q := 116) (i := 0) D428_115 rfl rfl rfl ?_
                refine im_ld (q := 117) (i := 1) D428_116 rfl rfl rfl ?_
                refine im_callV (q := 120) (kd := 1) (y := 429) (n := 1) (ci := 12) (a := 6952) (vs := [.ref 6952, vI p1]) (r := []) (L2 := [some (.ref 6952), some (vI p1), none]) D428_117 (im_cal cn_428 cl_12_1127) (Or.inl rfl) rfl sf_6952 rfl rfl rfl rfl hd ⟨rfl, rfl, trivial⟩ ?_
                refine hP.mono ?_
                rintro _ e109 M108 ⟨rfl, rfl, hP⟩
                refine im_bkN ?_
                refine im_goto (q := 123) (t := 128) D428_120 rfl ?_
                refine im_ld (q := 129) (i := 0) D428_128 rfl rfl rfl ?_
                refine im_iconst (q := 130) D428_129 ?_
                refine im_pfI (q := 133) D428_130 (im_fl cn_428 fl_12_1111) sf_6952 rfl rfl ti_12_175 (by decide) ?_
                refine im_ld (q := 134) (i := 0) D428_133 rfl rfl rfl ?_
                refine im_iconst (q := 135) D428_134 ?_
                refine im_pfI (q := 138) D428_135 (im_fl cn_428 fl_12_423) sf_6952 rfl rfl ti_12_4 (by decide) ?_
                refine im_ld (q := 139) (i := 0) D428_138 rfl rfl rfl ?_
                refine im_iconst (q := 140) D428_139 ?_
                refine im_pfZ (q := 143) D428_140 (im_fl cn_428 fl_12_941) sf_6952 rfl rfl tz_12_102 (by decide) ?_
                refine im_iconst (q := 144) D428_143 ?_
                refine im_st1 (q := 146) (i := 6) (L' := [some (.ref 6952), some (vI p1), some (vI p2), some (vI p3), some (vI p4), none, some (vI 0)]) D428_144 (Or.inr rfl) (Nat.le_of_ble_eq_true rfl) rfl ?_
                exact hP.wk ⟨rfl, rfl, rfl, rfl, trivial⟩
            · replace hP := hP.2 (Decidable.not_not.mp hc104)
              refine im_bipush (q := 110) D428_108 rfl ?_
              exact im_iret (q := 111) D428_110 rfl hP
        · replace hP := hP.2 (Decidable.not_not.mp hc92)
          refine im_iconst (q := 87) D428_86 ?_
          exact im_iret (q := 88) D428_87 rfl hP
      have kJ113 : (((x3 = 0)) ∨ ((¬ x3 = 0) ∧ (p2 = 0) ∧ ((M72 6994 p1) = 0)) ∨ ((¬ x3 = 0) ∧ (¬ p2 = 0) ∧ ((M72 6984 p1) = 0))) → im_T g d 428 79 [some (.ref 6952), some (vI p1), some (vI p2), some (vI p3), some (vI p4), none, none] [vI 0, vI x3, vI 3, .ref 6952] e M72 K := by
        intro  hx114
        have hP := hJ112  hx114
        refine im_iconst (q := 80) D428_79 ?_
        refine im_callV (q := 83) (kd := 1) (y := 264) (n := 4) (ci := 12) (a := 6952) (vs := [.ref 6952, vI 3, vI x3, vI 0, vI 0]) (r := []) (L2 := [some (.ref 6952), some (vI 3), some (vI x3), some (vI 0), some (vI 0)]) D428_80 (im_cal cn_428 cl_12_419) (Or.inl rfl) rfl sf_6952 rfl rfl rfl rfl hd ⟨rfl, rfl, rfl, rfl, rfl, trivial⟩ ?_
        refine hP.mono ?_
        rintro _ e137 M115 ⟨x116, rfl, rfl, hP⟩
        refine im_bkS ?_
        obtain ⟨hg117, hP⟩ := hP
        refine im_ifc (q := 86) (t := 88) D428_83 rfl hg117 (fun hc118 => ?_) (fun hc118 => ?_)
        · replace hP := hP.1 hc118
          refine im_ld (q := 89) (i := 0) D428_88 rfl rfl rfl ?_
          refine im_ld (q := 90) (i := 0) D428_89 rfl rfl rfl ?_
          refine im_rng (j := 6) sf_6952 (by decide) (by decide) (fun hr119 => ?_)
          refine im_gfI (q := 93) D428_90 (im_fl cn_428 fl_12_617) sf_6952 rfl rfl tI_12_6 rfl ?_
          refine im_pfI (q := 96) D428_93 (im_fl cn_428 fl_12_449) sf_6952 rfl rfl ti_12_7 hr119 ?_
          refine im_ld (q := 97) (i := 2) D428_96 rfl rfl rfl ?_
          obtain ⟨hg120, hP⟩ := hP
          refine im_ifc (q := 100) (t := 111) D428_97 rfl hg120 (fun hc121 => ?_) (fun hc121 => ?_)
          · replace hP := hP.1 hc121
            refine im_ld (q := 112) (i := 2) D428_111 rfl rfl rfl ?_
            refine im_ifc (q := 115) (t := 123) D428_112 rfl hg120 (fun hc122 => ?_) (fun hc122 => ?_)
            · replace hP := hP.1 hc122
              refine im_ld (q := 124) (i := 0) D428_123 rfl rfl rfl ?_
              refine im_ld (q := 125) (i := 1) D428_124 rfl rfl rfl ?_
              refine im_callV (q := 128) (kd := 1) (y := 361) (n := 1) (ci := 12) (a := 6952) (vs := [.ref 6952, vI p1]) (r := []) (L2 := [some (.ref 6952), some (vI p1), none]) D428_125 (im_cal cn_428 cl_12_1044) (Or.inl rfl) rfl sf_6952 rfl rfl rfl rfl hd ⟨rfl, rfl, trivial⟩ ?_
              refine hP.mono ?_
              rintro _ e124 M123 ⟨rfl, rfl, hP⟩
              refine im_bkN ?_
              refine im_ld (q := 129) (i := 0) D428_128 rfl rfl rfl ?_
              refine im_iconst (q := 130) D428_129 ?_
              refine im_pfI (q := 133) D428_130 (im_fl cn_428 fl_12_1111) sf_6952 rfl rfl ti_12_175 (by decide) ?_
              refine im_ld (q := 134) (i := 0) D428_133 rfl rfl rfl ?_
              refine im_iconst (q := 135) D428_134 ?_
              refine im_pfI (q := 138) D428_135 (im_fl cn_428 fl_12_423) sf_6952 rfl rfl ti_12_4 (by decide) ?_
              refine im_ld (q := 139) (i := 0) D428_138 rfl rfl rfl ?_
              refine im_iconst (q := 140) D428_139 ?_
              refine im_pfZ (q := 143) D428_140 (im_fl cn_428 fl_12_941) sf_6952 rfl rfl tz_12_102 (by decide) ?_
              refine im_iconst (q := 144) D428_143 ?_
              refine im_st1 (q := 146) (i := 6) (L' := [some (.ref 6952), some (vI p1), some (vI p2), some (vI p3), some (vI p4), none, some (vI 0)]) D428_144 (Or.inr rfl) (Nat.le_of_ble_eq_true rfl) rfl ?_
              exact hP.wk ⟨rfl, rfl, rfl, rfl, trivial⟩
            · replace hP := hP.2 hc122
              refine im_ld (q := 116) (i := 0) D428_115 rfl rfl rfl ?_
              refine im_ld (q := 117) (i := 1) D428_116 rfl rfl rfl ?_
              refine im_callV (q := 120) (kd := 1) (y := 429) (n := 1) (ci := 12) (a := 6952) (vs := [.ref 6952, vI p1]) (r := []) (L2 := [some (.ref 6952), some (vI p1), none]) D428_117 (im_cal cn_428 cl_12_1127) (Or.inl rfl) rfl sf_6952 rfl rfl rfl rfl hd ⟨rfl, rfl, trivial⟩ ?_
              refine hP.mono ?_
              rintro _ e126 M125 ⟨rfl, rfl, hP⟩
              refine im_bkN ?_
              refine im_goto (q := 123) (t := 128) D428_120 rfl ?_
              refine im_ld (q := 129) (i := 0) D428_128 rfl rfl rfl ?_
              refine im_iconst (q := 130) D428_129 ?_
              refine im_pfI (q := 133) D428_130 (im_fl cn_428 fl_12_1111) sf_6952 rfl rfl ti_12_175 (by decide) ?_
              refine im_ld (q := 134) (i := 0) D428_133 rfl rfl rfl ?_
              refine im_iconst (q := 135) D428_134 ?_
              refine im_pfI (q := 138) D428_135 (im_fl cn_428 fl_12_423) sf_6952 rfl rfl ti_12_4 (by decide) ?_
              refine im_ld (q := 139) (i := 0) D428_138 rfl rfl rfl ?_
              refine im_iconst (q := 140) D428_139 ?_
              refine im_pfZ (q := 143) D428_140 (im_fl cn_428 fl_12_941) sf_6952 rfl rfl tz_12_102 (by decide) ?_
              refine im_iconst (q := 144) D428_143 ?_
              refine im_st1 (q := 146) (i := 6) (L' := [some (.ref 6952), some (vI p1), some (vI p2), some (vI p3), some (vI p4), none, some (vI 0)]) D428_144 (Or.inr rfl) (Nat.le_of_ble_eq_true rfl) rfl ?_
              exact hP.wk ⟨rfl, rfl, rfl, rfl, trivial⟩
          · replace hP := hP.2 hc121
            refine im_ld (q := 101) (i := 0) D428_100 rfl rfl rfl ?_
            refine im_ld (q := 102) (i := 1) D428_101 rfl rfl rfl ?_
            refine im_callV (q := 105) (kd := 1) (y := 344) (n := 1) (ci := 12) (a := 6952) (vs := [.ref 6952, vI p1]) (r := []) (L2 := [some (.ref 6952), some (vI p1), none, none, none, none]) D428_102 (im_cal cn_428 cl_12_829) (Or.inl rfl) rfl sf_6952 rfl rfl rfl rfl hd ⟨rfl, rfl, trivial⟩ ?_
            refine hP.mono ?_
            rintro _ e136 M127 ⟨x128, rfl, rfl, hP⟩
            refine im_bkS ?_
            obtain ⟨hg129, hP⟩ := hP
            refine im_ifc (q := 108) (t := 111) D428_105 rfl hg129 (fun hc130 => ?_) (fun hc130 => ?_)
            · replace hP := hP.1 hc130
              refine im_ld (q := 112) (i := 2) D428_111 rfl rfl rfl ?_
              refine im_ifc (q := 115) (t := 123) D428_112 rfl hg120 (fun hc131 => ?_) (fun hc131 => ?_)
              · replace hP := hP.1 hc131
                refine im_ld (q := 124) (i := 0) D428_123 rfl rfl rfl ?_
                refine im_ld (q := 125) (i := 1) D428_124 rfl rfl rfl ?_
                refine im_callV (q := 128) (kd := 1) (y := 361) (n := 1) (ci := 12) (a := 6952) (vs := [.ref 6952, vI p1]) (r := []) (L2 := [some (.ref 6952), some (vI p1), none]) D428_125 (im_cal cn_428 cl_12_1044) (Or.inl rfl) rfl sf_6952 rfl rfl rfl rfl hd ⟨rfl, rfl, trivial⟩ ?_
                refine hP.mono ?_
                rintro _ e133 M132 ⟨rfl, rfl, hP⟩
                refine im_bkN ?_
                refine im_ld (q := 129) (i := 0) D428_128 rfl rfl rfl ?_
                refine im_iconst (q := 130) D428_129 ?_
                refine im_pfI (q := 133) D428_130 (im_fl cn_428 fl_12_1111) sf_6952 rfl rfl ti_12_175 (by decide) ?_
                refine im_ld (q := 134) (i := 0) D428_133 rfl rfl rfl ?_
                refine im_iconst (q := 135) D428_134 ?_
                refine im_pfI (q := 138) D428_135 (im_fl cn_428 fl_12_423) sf_6952 rfl rfl ti_12_4 (by decide) ?_
                refine im_ld (q := 139) (i := 0) D428_138 rfl rfl rfl ?_
                refine im_iconst (q := 140) D428_139 ?_
                refine im_pfZ (q := 143) D428_140 (im_fl cn_428 fl_12_941) sf_6952 rfl rfl tz_12_102 (by decide) ?_
                refine im_iconst (q := 144) D428_143 ?_
                refine im_st1 (q := 146) (i := 6) (L' := [some (.ref 6952), some (vI p1), some (vI p2), some (vI p3), some (vI p4), none, some (vI 0)]) D428_144 (Or.inr rfl) (Nat.le_of_ble_eq_true rfl) rfl ?_
                exact hP.wk ⟨rfl, rfl, rfl, rfl, trivial⟩
              · replace hP := hP.2 hc131
                refine im_ld (q := 116) (i := 0) D428_115 rfl rfl rfl ?_
                refine im_ld (q := 117) (i := 1) D428_116 rfl rfl rfl ?_
                refine im_callV (q := 120) (kd := 1) (y := 429) (n := 1) (ci := 12) (a := 6952) (vs := [.ref 6952, vI p1]) (r := []) (L2 := [some (.ref 6952), some (vI p1), none]) D428_117 (im_cal cn_428 cl_12_1127) (Or.inl rfl) rfl sf_6952 rfl rfl rfl rfl hd ⟨rfl, rfl, trivial⟩ ?_
                refine hP.mono ?_
                rintro _ e135 M134 ⟨rfl, rfl, hP⟩
                refine im_bkN ?_
                refine im_goto (q := 123) (t := 128) D428_120 rfl ?_
                refine im_ld (q := 129) (i := 0) D428_128 rfl rfl rfl ?_
                refine im_iconst (q := 130) D428_129 ?_
                refine im_pfI (q := 133) D428_130 (im_fl cn_428 fl_12_1111) sf_6952 rfl rfl ti_12_175 (by decide) ?_
                refine im_ld (q := 134) (i := 0) D428_133 rfl rfl rfl ?_
                refine im_iconst (q := 135) D428_134 ?_
                refine im_pfI (q := 138) D428_135 (im_fl cn_428 fl_12_423) sf_6952 rfl rfl ti_12_4 (by decide) ?_
                refine im_ld (q := 139) (i := 0) D428_138 rfl rfl rfl ?_
                refine im_iconst (q := 140) D428_139 ?_
                refine im_pfZ (q := 143) D428_140 (im_fl cn_428 fl_12_941) sf_6952 rfl rfl tz_12_102 (by decide) ?_
                refine im_iconst (q := 144) D428_143 ?_
                refine im_st1 (q := 146) (i := 6) (L' := [some (.ref 6952), some (vI p1), some (vI p2), some (vI p3), some (vI p4), none, some (vI 0)]) D428_144 (Or.inr rfl) (Nat.le_of_ble_eq_true rfl) rfl ?_
                exact hP.wk ⟨rfl, rfl, rfl, rfl, trivial⟩
            · replace hP := hP.2 (Decidable.not_not.mp hc130)
              refine im_bipush (q := 110) D428_108 rfl ?_
              exact im_iret (q := 111) D428_110 rfl hP
        · replace hP := hP.2 (Decidable.not_not.mp hc118)
          refine im_iconst (q := 87) D428_86 ?_
          exact im_iret (q := 88) D428_87 rfl hP
      refine im_ifc (q := 50) (t := 79) D428_47 rfl hg76 (fun hc77 => ?_) (fun hc77 => ?_)
      · exact (kJ113  (Or.inl hc77)).wk ⟨rfl, rfl, rfl, rfl, rfl, trivial⟩
      · replace hP := hP hc77
        refine im_ld (q := 51) (i := 2) D428_50 rfl rfl rfl ?_
        obtain ⟨hg78, hP⟩ := hP
        refine im_ifc (q := 54) (t := 66) D428_51 rfl hg78 (fun hc79 => ?_) (fun hc79 => ?_)
        · replace hP := hP.1 hc79
          refine im_ld (q := 67) (i := 0) D428_66 rfl rfl rfl ?_
          refine im_gfR (q := 70) (b := 6994) D428_67 (im_fl cn_428 fl_12_136) sf_6952 rfl rfl tR_12_66 rf_6952_66 ?_
          refine im_ld (q := 71) (i := 1) D428_70 rfl rfl rfl ?_
          have hg80 := hP
          refine im_rng (j := p1) sf_6994 hg80.1 hg80.2 (fun hr81 => ?_)
          refine im_bald (q := 72) D428_71 sf_6994 (Or.inr rfl) hg80.1 hg80.2 (by decide) rfl ?_
          refine im_ifc (q := 75) (t := 79) D428_72 rfl (im_z32 hr81) (fun hc82 => ?_) (fun hc82 => ?_)
          · exact (kJ113  (Or.inr (Or.inl ⟨hc77, hc79, hc82⟩))).wk ⟨rfl, rfl, rfl, rfl, rfl, trivial⟩
          · exact (kJ87  (Or.inl ⟨hc77, hc79, hc82⟩)).wk ⟨rfl, rfl, rfl, rfl, rfl, trivial⟩
        · replace hP := hP.2 hc79
          refine im_ld (q := 55) (i := 0) D428_54 rfl rfl rfl ?_
          refine im_gfR (q := 58) (b := 6984) D428_55 (im_fl cn_428 fl_12_106) sf_6952 rfl rfl tR_12_52 rf_6952_52 ?_
          refine im_ld (q := 59) (i := 1) D428_58 rfl rfl rfl ?_
          have hg83 := hP
          refine im_rng (j := p1) sf_6984 hg83.1 hg83.2 (fun hr84 => ?_)
          refine im_bald (q := 60) D428_59 sf_6984 (Or.inr rfl) hg83.1 hg83.2 (by decide) rfl ?_
          refine im_ifc (q := 63) (t := 79) D428_60 rfl (im_z32 hr84) (fun hc85 => ?_) (fun hc85 => ?_)
          · exact (kJ113  (Or.inr (Or.inr ⟨hc77, hc79, hc85⟩))).wk ⟨rfl, rfl, rfl, rfl, rfl, trivial⟩
          · refine im_goto (q := 66) (t := 75) D428_63 rfl ?_
            exact (kJ87  (Or.inr ⟨hc77, hc79, hc85⟩)).wk ⟨rfl, rfl, rfl, rfl, rfl, trivial⟩
    · replace hP := hP.2 hc75
      refine im_iconst (q := 41) D428_40 ?_
      refine im_goto (q := 44) (t := 45) D428_41 rfl ?_
      refine im_ld (q := 47) (i := 5) D428_45 rfl rfl rfl ?_
      obtain ⟨hg138, hP⟩ := hP
      obtain ⟨hP, hJ148, hJ174⟩ := hP
      have kJ149 : (((¬ x3 = 0) ∧ (p2 = 0) ∧ (¬ (M72 6994 p1) = 0)) ∨ ((¬ x3 = 0) ∧ (¬ p2 = 0) ∧ (¬ (M72 6984 p1) = 0))) → im_T g d 428 75 [some (.ref 6952), some (vI p1), some (vI p2), some (vI p3), some (vI p4), none, none] [vI 1, vI x3, vI 3, .ref 6952] e M72 K := by
        intro  hx150
        have hP := hJ148  hx150
        refine im_iconst (q := 76) D428_75 ?_
        refine im_goto (q := 79) (t := 80) D428_76 rfl ?_
        refine im_callV (q := 83) (kd := 1) (y := 264) (n := 4) (ci := 12) (a := 6952) (vs := [.ref 6952, vI 3, vI x3, vI 1, vI 1]) (r := []) (L2 := [some (.ref 6952), some (vI 3), some (vI x3), some (vI 1), some (vI 1)]) D428_80 (im_cal cn_428 cl_12_419) (Or.inl rfl) rfl sf_6952 rfl rfl rfl rfl hd ⟨rfl, rfl, rfl, rfl, rfl, trivial⟩ ?_
        refine hP.mono ?_
        rintro _ e173 M151 ⟨x152, rfl, rfl, hP⟩
        refine im_bkS ?_
        obtain ⟨hg153, hP⟩ := hP
        refine im_ifc (q := 86) (t := 88) D428_83 rfl hg153 (fun hc154 => ?_) (fun hc154 => ?_)
        · replace hP := hP.1 hc154
          refine im_ld (q := 89) (i := 0) D428_88 rfl rfl rfl ?_
          refine im_ld (q := 90) (i := 0) D428_89 rfl rfl rfl ?_
          refine im_rng (j := 6) sf_6952 (by decide) (by decide) (fun hr155 => ?_)
          refine im_gfI (q := 93) D428_90 (im_fl cn_428 fl_12_617) sf_6952 rfl rfl tI_12_6 rfl ?_
          refine im_pfI (q := 96) D428_93 (im_fl cn_428 fl_12_449) sf_6952 rfl rfl ti_12_7 hr155 ?_
          refine im_ld (q := 97) (i := 2) D428_96 rfl rfl rfl ?_
          obtain ⟨hg156, hP⟩ := hP
          refine im_ifc (q := 100) (t := 111) D428_97 rfl hg156 (fun hc157 => ?_) (fun hc157 => ?_)
          · replace hP := hP.1 hc157
            refine im_ld (q := 112) (i := 2) D428_111 rfl rfl rfl ?_
            refine im_ifc (q := 115) (t := 123) D428_112 rfl hg156 (fun hc158 => ?_) (fun hc158 => ?_)
            · replace hP := hP.1 hc158
              refine im_ld (q := 124) (i := 0) D428_123 rfl rfl rfl ?_
              refine im_ld (q := 125) (i := 1) D428_124 rfl rfl rfl ?_
              refine im_callV (q := 128) (kd := 1) (y := 361) (n := 1) (ci := 12) (a := 6952) (vs := [.ref 6952, vI p1]) (r := []) (L2 := [some (.ref 6952), some (vI p1), none]) D428_125 (im_cal cn_428 cl_12_1044) (Or.inl rfl) rfl sf_6952 rfl rfl rfl rfl hd ⟨rfl, rfl, trivial⟩ ?_
              refine hP.mono ?_
              rintro _ e160 M159 ⟨rfl, rfl, hP⟩
              refine im_bkN ?_
              refine im_ld (q := 129) (i := 0) D428_128 rfl rfl rfl ?_
              refine im_iconst (q := 130) D428_129 ?_
              refine im_pfI (q := 133) D428_130 (im_fl cn_428 fl_12_1111) sf_6952 rfl rfl ti_12_175 (by decide) ?_
              refine im_ld (q := 134) (i := 0) D428_133 rfl rfl rfl ?_
              refine im_iconst (q := 135) D428_134 ?_
              refine im_pfI (q := 138) D428_135 (im_fl cn_428 fl_12_423) sf_6952 rfl rfl ti_12_4 (by decide) ?_
              refine im_ld (q := 139) (i := 0) D428_138 rfl rfl rfl ?_
              refine im_iconst (q := 140) D428_139 ?_
              refine im_pfZ (q := 143) D428_140 (im_fl cn_428 fl_12_941) sf_6952 rfl rfl tz_12_102 (by decide) ?_
              refine im_iconst (q := 144) D428_143 ?_
              refine im_st1 (q := 146) (i := 6) (L' := [some (.ref 6952), some (vI p1), some (vI p2), some (vI p3), some (vI p4), none, some (vI 0)]) D428_144 (Or.inr rfl) (Nat.le_of_ble_eq_true rfl) rfl ?_
              exact hP.wk ⟨rfl, rfl, rfl, rfl, trivial⟩
            · replace hP := hP.2 hc158
              refine im_ld (q := 116) (i := 0) D428_115 rfl rfl rfl ?_
              refine im_ld (q := 117) (i := 1) D428_116 rfl rfl rfl ?_
              refine im_callV (q := 120) (kd := 1) (y := 429) (n := 1) (ci := 12) (a := 6952) (vs := [.ref 6952, vI p1]) (r := []) (L2 := [some (.ref 6952), some (vI p1), none]) D428_117 (im_cal cn_428 cl_12_1127) (Or.inl rfl) rfl sf_6952 rfl rfl rfl rfl hd ⟨rfl, rfl, trivial⟩ ?_
              refine hP.mono ?_
              rintro _ e162 M161 ⟨rfl, rfl, hP⟩
              refine im_bkN ?_
              refine im_goto (q := 123) (t := 128) D428_120 rfl ?_
              refine im_ld (q := 129) (i := 0) D428_128 rfl rfl rfl ?_
              refine im_iconst (q := 130) D428_129 ?_
              refine im_pfI (q := 133) D428_130 (im_fl cn_428 fl_12_1111) sf_6952 rfl rfl ti_12_175 (by decide) ?_
              refine im_ld (q := 134) (i := 0) D428_133 rfl rfl rfl ?_
              refine im_iconst (q := 135) D428_134 ?_
              refine im_pfI (q := 138) D428_135 (im_fl cn_428 fl_12_423) sf_6952 rfl rfl ti_12_4 (by decide) ?_
              refine im_ld (q := 139) (i := 0) D428_138 rfl rfl rfl ?_
              refine im_iconst (q := 140) D428_139 ?_
              refine im_pfZ (q := 143) D428_140 (im_fl cn_428 fl_12_941) sf_6952 rfl rfl tz_12_102 (by decide) ?_
              refine im_iconst (q := 144) D428_143 ?_
              refine im_st1 (q := 146) (i := 6) (L' := [some (.ref 6952), some (vI p1), some (vI p2), some (vI p3), some (vI p4), none, some (vI 0)]) D428_144 (Or.inr rfl) (Nat.le_of_ble_eq_true rfl) rfl ?_
              exact hP.wk ⟨rfl, rfl, rfl, rfl, trivial⟩
          · replace hP := hP.2 hc157
            refine im_ld (q := 101) (i := 0) D428_100 rfl rfl rfl ?_
            refine im_ld (q := 102) (i := 1) D428_101 rfl rfl rfl ?_
            refine im_callV (q := 105) (kd := 1) (y := 344) (n := 1) (ci := 12) (a := 6952) (vs := [.ref 6952, vI p1]) (r := []) (L2 := [some (.ref 6952), some (vI p1), none, none, none, none]) D428_102 (im_cal cn_428 cl_12_829) (Or.inl rfl) rfl sf_6952 rfl rfl rfl rfl hd ⟨rfl, rfl, trivial⟩ ?_
            refine hP.mono ?_
            rintro _ e172 M163 ⟨x164, rfl, rfl, hP⟩
            refine im_bkS ?_
            obtain ⟨hg165, hP⟩ := hP
            refine im_ifc (q := 108) (t := 111) D428_105 rfl hg165 (fun hc166 => ?_) (fun hc166 => ?_)
            · replace hP := hP.1 hc166
              refine im_ld (q := 112) (i := 2) D428_111 rfl rfl rfl ?_
              refine im_ifc (q := 115) (t := 123) D428_112 rfl hg156 (fun hc167 => ?_) (fun hc167 => ?_)
              · replace hP := hP.1 hc167
                refine im_ld (q := 124) (i := 0) D428_123 rfl rfl rfl ?_
                refine im_ld (q := 125) (i := 1) D428_124 rfl rfl rfl ?_
                refine im_callV (q := 128) (kd := 1) (y := 361) (n := 1) (ci := 12) (a := 6952) (vs := [.ref 6952, vI p1]) (r := []) (L2 := [some (.ref 6952), some (vI p1), none]) D428_125 (im_cal cn_428 cl_12_1044) (Or.inl rfl) rfl sf_6952 rfl rfl rfl rfl hd ⟨rfl, rfl, trivial⟩ ?_
                refine hP.mono ?_
                rintro _ e169 M168 ⟨rfl, rfl, hP⟩
                refine im_bkN ?_
                refine im_ld (q := 129) (i := 0) D428_128 rfl rfl rfl ?_
                refine im_iconst (q := 130) D428_129 ?_
                refine im_pfI (q := 133) D428_130 (im_fl cn_428 fl_12_1111) sf_6952 rfl rfl ti_12_175 (by decide) ?_
                refine im_ld (q := 134) (i := 0) D428_133 rfl rfl rfl ?_
                refine im_iconst (q := 135) D428_134 ?_
                refine im_pfI (q := 138) D428_135 (im_fl cn_428 fl_12_423) sf_6952 rfl rfl ti_12_4 (by decide) ?_
                refine im_ld (q := 139) (i := 0) D428_138 rfl rfl rfl ?_
                refine im_iconst (q := 140) D428_139 ?_
                refine im_pfZ (q := 143) D428_140 (im_fl cn_428 fl_12_941) sf_6952 rfl rfl tz_12_102 (by decide) ?_
                refine im_iconst (q := 144) D428_143 ?_
                refine im_st1 (q := 146) (i := 6) (L' := [some (.ref 6952), some (vI p1), some (vI p2), some (vI p3), some (vI p4), none, some (vI 0)]) D428_144 (Or.inr rfl) (Nat.le_of_ble_eq_true rfl) rfl ?_
                exact hP.wk ⟨rfl, rfl, rfl, rfl, trivial⟩
              · replace hP := hP.2 hc167
                refine im_ld (q := 116) (i := 0) D428_115 rfl rfl rfl ?_
                refine im_ld (q := 117) (i := 1) D428_116 rfl rfl rfl ?_
                refine im_callV (q := 120) (kd := 1) (y := 429) (n := 1) (ci := 12) (a := 6952) (vs := [.ref 6952, vI p1]) (r := []) (L2 := [some (.ref 6952), some (vI p1), none]) D428_117 (im_cal cn_428 cl_12_1127) (Or.inl rfl) rfl sf_6952 rfl rfl rfl rfl hd ⟨rfl, rfl, trivial⟩ ?_
                refine hP.mono ?_
                rintro _ e171 M170 ⟨rfl, rfl, hP⟩
                refine im_bkN ?_
                refine im_goto (q := 123) (t := 128) D428_120 rfl ?_
                refine im_ld (q := 129) (i := 0) D428_128 rfl rfl rfl ?_
                refine im_iconst (q := 130) D428_129 ?_
                refine im_pfI (q := 133) D428_130 (im_fl cn_428 fl_12_1111) sf_6952 rfl rfl ti_12_175 (by decide) ?_
                refine im_ld (q := 134) (i := 0) D428_133 rfl rfl rfl ?_
                refine im_iconst (q := 135) D428_134 ?_
                refine im_pfI (q := 138) D428_135 (im_fl cn_428 fl_12_423) sf_6952 rfl rfl ti_12_4 (by decide) ?_
                refine im_ld (q := 139) (i := 0) D428_138 rfl rfl rfl ?_
                refine im_iconst (q := 140) D428_139 ?_
                refine im_pfZ (q := 143) D428_140 (im_fl cn_428 fl_12_941) sf_6952 rfl rfl tz_12_102 (by decide) ?_
                refine im_iconst (q := 144) D428_143 ?_
                refine im_st1 (q := 146) (i := 6) (L' := [some (.ref 6952), some (vI p1), some (vI p2), some (vI p3), some (vI p4), none, some (vI 0)]) D428_144 (Or.inr rfl) (Nat.le_of_ble_eq_true rfl) rfl ?_
                exact hP.wk ⟨rfl, rfl, rfl, rfl, trivial⟩
            · replace hP := hP.2 (Decidable.not_not.mp hc166)
              refine im_bipush (q := 110) D428_108 rfl ?_
              exact im_iret (q := 111) D428_110 rfl hP
        · replace hP := hP.2 (Decidable.not_not.mp hc154)
          refine im_iconst (q := 87) D428_86 ?_
          exact im_iret (q := 88) D428_87 rfl hP
      have kJ175 : (((x3 = 0)) ∨ ((¬ x3 = 0) ∧ (p2 = 0) ∧ ((M72 6994 p1) = 0)) ∨ ((¬ x3 = 0) ∧ (¬ p2 = 0) ∧ ((M72 6984 p1) = 0))) → im_T g d 428 79 [some (.ref 6952), some (vI p1), some (vI p2), some (vI p3), some (vI p4), none, none] [vI 1, vI x3, vI 3, .ref 6952] e M72 K := by
        intro  hx176
        have hP := hJ174  hx176
        refine im_iconst (q := 80) D428_79 ?_
        refine im_callV (q := 83) (kd := 1) (y := 264) (n := 4) (ci := 12) (a := 6952) (vs := [.ref 6952, vI 3, vI x3, vI 1, vI 0]) (r := []) (L2 := [some (.ref 6952), some (vI 3), some (vI x3), some (vI 1), some (vI 0)]) D428_80 (im_cal cn_428 cl_12_419) (Or.inl rfl) rfl sf_6952 rfl rfl rfl rfl hd ⟨rfl, rfl, rfl, rfl, rfl, trivial⟩ ?_
        refine hP.mono ?_
        rintro _ e199 M177 ⟨x178, rfl, rfl, hP⟩
        refine im_bkS ?_
        obtain ⟨hg179, hP⟩ := hP
        refine im_ifc (q := 86) (t := 88) D428_83 rfl hg179 (fun hc180 => ?_) (fun hc180 => ?_)
        · replace hP := hP.1 hc180
          refine im_ld (q := 89) (i := 0) D428_88 rfl rfl rfl ?_
          refine im_ld (q := 90) (i := 0) D428_89 rfl rfl rfl ?_
          refine im_rng (j := 6) sf_6952 (by decide) (by decide) (fun hr181 => ?_)
          refine im_gfI (q := 93) D428_90 (im_fl cn_428 fl_12_617) sf_6952 rfl rfl tI_12_6 rfl ?_
          refine im_pfI (q := 96) D428_93 (im_fl cn_428 fl_12_449) sf_6952 rfl rfl ti_12_7 hr181 ?_
          refine im_ld (q := 97) (i := 2) D428_96 rfl rfl rfl ?_
          obtain ⟨hg182, hP⟩ := hP
          refine im_ifc (q := 100) (t := 111) D428_97 rfl hg182 (fun hc183 => ?_) (fun hc183 => ?_)
          · replace hP := hP.1 hc183
            refine im_ld (q := 112) (i := 2) D428_111 rfl rfl rfl ?_
            refine im_ifc (q := 115) (t := 123) D428_112 rfl hg182 (fun hc184 => ?_) (fun hc184 => ?_)
            · replace hP := hP.1 hc184
              refine im_ld (q := 124) (i := 0) D428_123 rfl rfl rfl ?_
              refine im_ld (q := 125) (i := 1) D428_124 rfl rfl rfl ?_
              refine im_callV (q := 128) (kd := 1) (y := 361) (n := 1) (ci := 12) (a := 6952) (vs := [.ref 6952, vI p1]) (r := []) (L2 := [some (.ref 6952), some (vI p1), none]) D428_125 (im_cal cn_428 cl_12_1044) (Or.inl rfl) rfl sf_6952 rfl rfl rfl rfl hd ⟨rfl, rfl, trivial⟩ ?_
              refine hP.mono ?_
              rintro _ e186 M185 ⟨rfl, rfl, hP⟩
              refine im_bkN ?_
              refine im_ld (q := 129) (i := 0) D428_128 rfl rfl rfl ?_
              refine im_iconst (q := 130) D428_129 ?_
              refine im_pfI (q := 133) D428_130 (im_fl cn_428 fl_12_1111) sf_6952 rfl rfl ti_12_175 (by decide) ?_
              refine im_ld (q := 134) (i := 0) D428_133 rfl rfl rfl ?_
              refine im_iconst (q := 135) D428_134 ?_
              refine im_pfI (q := 138) D428_135 (im_fl cn_428 fl_12_423) sf_6952 rfl rfl ti_12_4 (by decide) ?_
              refine im_ld (q := 139) (i := 0) D428_138 rfl rfl rfl ?_
              refine im_iconst (q := 140) D428_139 ?_
              refine im_pfZ (q := 143) D428_140 (im_fl cn_428 fl_12_941) sf_6952 rfl rfl tz_12_102 (by decide) ?_
              refine im_iconst (q := 144) D428_143 ?_
              refine im_st1 (q := 146) (i := 6) (L' := [some (.ref 6952), some (vI p1), some (vI p2), some (vI p3), some (vI p4), none, some (vI 0)]) D428_144 (Or.inr rfl) (Nat.le_of_ble_eq_true rfl) rfl ?_
              exact hP.wk ⟨rfl, rfl, rfl, rfl, trivial⟩
            · replace hP := hP.2 hc184
              refine im_ld (q := 116) (i := 0) D428_115 rfl rfl rfl ?_
              refine im_ld (q := 117) (i := 1) D428_116 rfl rfl rfl ?_
              refine im_callV (q := 120) (kd := 1) (y := 429) (n := 1) (ci := 12) (a := 6952) (vs := [.ref 6952, vI p1]) (r := []) (L2 := [some (.ref 6952), some (vI p1), none]) D428_117 (im_cal cn_428 cl_12_1127) (Or.inl rfl) rfl sf_6952 rfl rfl rfl rfl hd ⟨rfl, rfl, trivial⟩ ?_
              refine hP.mono ?_
              rintro _ e188 M187 ⟨rfl, rfl, hP⟩
              refine im_bkN ?_
              refine im_goto (q := 123) (t := 128) D428_120 rfl ?_
              refine im_ld (q := 129) (i := 0) D428_128 rfl rfl rfl ?_
              refine im_iconst (q := 130) D428_129 ?_
              refine im_pfI (q := 133) D428_130 (im_fl cn_428 fl_12_1111) sf_6952 rfl rfl ti_12_175 (by decide) ?_
              refine im_ld (q := 134) (i := 0) D428_133 rfl rfl rfl ?_
              refine im_iconst (q := 135) D428_134 ?_
              refine im_pfI (q := 138) D428_135 (im_fl cn_428 fl_12_423) sf_6952 rfl rfl ti_12_4 (by decide) ?_
              refine im_ld (q := 139) (i := 0) D428_138 rfl rfl rfl ?_
              refine im_iconst (q := 140) D428_139 ?_
              refine im_pfZ (q := 143) D428_140 (im_fl cn_428 fl_12_941) sf_6952 rfl rfl tz_12_102 (by decide) ?_
              refine im_iconst (q := 144) D428_143 ?_
              refine im_st1 (q := 146) (i := 6) (L' := [some (.ref 6952), some (vI p1), some (vI p2), some (vI p3), some (vI p4), none, some (vI 0)]) D428_144 (Or.inr rfl) (Nat.le_of_ble_eq_true rfl) rfl ?_
              exact hP.wk ⟨rfl, rfl, rfl, rfl, trivial⟩
          · replace hP := hP.2 hc183
            refine im_ld (q := 101) (i := 0) D428_100 rfl rfl rfl ?_
            refine im_ld (q := 102) (i := 1) D428_101 rfl rfl rfl ?_
            refine im_callV (q := 105) (kd := 1) (y := 344) (n := 1) (ci := 12) (a := 6952) (vs := [.ref 6952, vI p1]) (r := []) (L2 := [some (.ref 6952), some (vI p1), none, none, none, none]) D428_102 (im_cal cn_428 cl_12_829) (Or.inl rfl) rfl sf_6952 rfl rfl rfl rfl hd ⟨rfl, rfl, trivial⟩ ?_
            refine hP.mono ?_
            rintro _ e198 M189 ⟨x190, rfl, rfl, hP⟩
            refine im_bkS ?_
            obtain ⟨hg191, hP⟩ := hP
            refine im_ifc (q := 108) (t := 111) D428_105 rfl hg191 (fun hc192 => ?_) (fun hc192 => ?_)
            · replace hP := hP.1 hc192
              refine im_ld (q := 112) (i := 2) D428_111 rfl rfl rfl ?_
              refine im_ifc (q := 115) (t := 123) D428_112 rfl hg182 (fun hc193 => ?_) (fun hc193 => ?_)
              · replace hP := hP.1 hc193
                refine im_ld (q := 124) (i := 0) D428_123 rfl rfl rfl ?_
                refine im_ld (q := 125) (i := 1) D428_124 rfl rfl rfl ?_
                refine im_callV (q := 128) (kd := 1) (y := 361) (n := 1) (ci := 12) (a := 6952) (vs := [.ref 6952, vI p1]) (r := []) (L2 := [some (.ref 6952), some (vI p1), none]) D428_125 (im_cal cn_428 cl_12_1044) (Or.inl rfl) rfl sf_6952 rfl rfl rfl rfl hd ⟨rfl, rfl, trivial⟩ ?_
                refine hP.mono ?_
                rintro _ e195 M194 ⟨rfl, rfl, hP⟩
                refine im_bkN ?_
                refine im_ld (q := 129) (i := 0) D428_128 rfl rfl rfl ?_
                refine im_iconst (q := 130) D428_129 ?_
                refine im_pfI (q := 133) D428_130 (im_fl cn_428 fl_12_1111) sf_6952 rfl rfl ti_12_175 (by decide) ?_
                refine im_ld (q := 134) (i := 0) D428_133 rfl rfl rfl ?_
                refine im_iconst (q := 135) D428_134 ?_
                refine im_pfI (q := 138) D428_135 (im_fl cn_428 fl_12_423) sf_6952 rfl rfl ti_12_4 (by decide) ?_
                refine im_ld (q := 139) (i := 0) D428_138 rfl rfl rfl ?_
                refine im_iconst (q := 140) D428_139 ?_
                refine im_pfZ (q := 143) D428_140 (im_fl cn_428 fl_12_941) sf_6952 rfl rfl tz_12_102 (by decide) ?_
                refine im_iconst (q := 144) D428_143 ?_
                refine im_st1 (q := 146) (i := 6) (L' := [some (.ref 6952), some (vI p1), some (vI p2), some (vI p3), some (vI p4), none, some (vI 0)]) D428_144 (Or.inr rfl) (Nat.le_of_ble_eq_true rfl) rfl ?_
                exact hP.wk ⟨rfl, rfl, rfl, rfl, trivial⟩
              · replace hP := hP.2 hc193
                refine im_ld (q := 116) (i := 0) D428_115 rfl rfl rfl ?_
                refine im_ld (q := 117) (i := 1) D428_116 rfl rfl rfl ?_
                refine im_callV (q := 120) (kd := 1) (y := 429) (n := 1) (ci := 12) (a := 6952) (vs := [.ref 6952, vI p1]) (r := []) (L2 := [some (.ref 6952), some (vI p1), none]) D428_117 (im_cal cn_428 cl_12_1127) (Or.inl rfl) rfl sf_6952 rfl rfl rfl rfl hd ⟨rfl, rfl, trivial⟩ ?_
                refine hP.mono ?_
                rintro _ e197 M196 ⟨rfl, rfl, hP⟩
                refine im_bkN ?_
                refine im_goto (q := 123) (t := 128) D428_120 rfl ?_
                refine im_ld (q := 129) (i := 0) D428_128 rfl rfl rfl ?_
                refine im_iconst (q := 130) D428_129 ?_
                refine im_pfI (q := 133) D428_130 (im_fl cn_428 fl_12_1111) sf_6952 rfl rfl ti_12_175 (by decide) ?_
                refine im_ld (q := 134) (i := 0) D428_133 rfl rfl rfl ?_
                refine im_iconst (q := 135) D428_134 ?_
                refine im_pfI (q := 138) D428_135 (im_fl cn_428 fl_12_423) sf_6952 rfl rfl ti_12_4 (by decide) ?_
                refine im_ld (q := 139) (i := 0) D428_138 rfl rfl rfl ?_
                refine im_iconst (q := 140) D428_139 ?_
                refine im_pfZ (q := 143) D428_140 (im_fl cn_428 fl_12_941) sf_6952 rfl rfl tz_12_102 (by decide) ?_
                refine im_iconst (q := 144) D428_143 ?_
                refine im_st1 (q := 146) (i := 6) (L' := [some (.ref 6952), some (vI p1), some (vI p2), some (vI p3), some (vI p4), none, some (vI 0)]) D428_144 (Or.inr rfl) (Nat.le_of_ble_eq_true rfl) rfl ?_
                exact hP.wk ⟨rfl, rfl, rfl, rfl, trivial⟩
            · replace hP := hP.2 (Decidable.not_not.mp hc192)
              refine im_bipush (q := 110) D428_108 rfl ?_
              exact im_iret (q := 111) D428_110 rfl hP
        · replace hP := hP.2 (Decidable.not_not.mp hc180)
          refine im_iconst (q := 87) D428_86 ?_
          exact im_iret (q := 88) D428_87 rfl hP
      refine im_ifc (q := 50) (t := 79) D428_47 rfl hg138 (fun hc139 => ?_) (fun hc139 => ?_)
      · exact (kJ175  (Or.inl hc139)).wk ⟨rfl, rfl, rfl, rfl, rfl, trivial⟩
      · replace hP := hP hc139
        refine im_ld (q := 51) (i := 2) D428_50 rfl rfl rfl ?_
        obtain ⟨hg140, hP⟩ := hP
        refine im_ifc (q := 54) (t := 66) D428_51 rfl hg140 (fun hc141 => ?_) (fun hc141 => ?_)
        · replace hP := hP.1 hc141
          refine im_ld (q := 67) (i := 0) D428_66 rfl rfl rfl ?_
          refine im_gfR (q := 70) (b := 6994) D428_67 (im_fl cn_428 fl_12_136) sf_6952 rfl rfl tR_12_66 rf_6952_66 ?_
          refine im_ld (q := 71) (i := 1) D428_70 rfl rfl rfl ?_
          have hg142 := hP
          refine im_rng (j := p1) sf_6994 hg142.1 hg142.2 (fun hr143 => ?_)
          refine im_bald (q := 72) D428_71 sf_6994 (Or.inr rfl) hg142.1 hg142.2 (by decide) rfl ?_
          refine im_ifc (q := 75) (t := 79) D428_72 rfl (im_z32 hr143) (fun hc144 => ?_) (fun hc144 => ?_)
          · exact (kJ175  (Or.inr (Or.inl ⟨hc139, hc141, hc144⟩))).wk ⟨rfl, rfl, rfl, rfl, rfl, trivial⟩
          · exact (kJ149  (Or.inl ⟨hc139, hc141, hc144⟩)).wk ⟨rfl, rfl, rfl, rfl, rfl, trivial⟩
        · replace hP := hP.2 hc141
          refine im_ld (q := 55) (i := 0) D428_54 rfl rfl rfl ?_
          refine im_gfR (q := 58) (b := 6984) D428_55 (im_fl cn_428 fl_12_106) sf_6952 rfl rfl tR_12_52 rf_6952_52 ?_
          refine im_ld (q := 59) (i := 1) D428_58 rfl rfl rfl ?_
          have hg145 := hP
          refine im_rng (j := p1) sf_6984 hg145.1 hg145.2 (fun hr146 => ?_)
          refine im_bald (q := 60) D428_59 sf_6984 (Or.inr rfl) hg145.1 hg145.2 (by decide) rfl ?_
          refine im_ifc (q := 63) (t := 79) D428_60 rfl (im_z32 hr146) (fun hc147 => ?_) (fun hc147 => ?_)
          · exact (kJ175  (Or.inr (Or.inr ⟨hc139, hc141, hc147⟩))).wk ⟨rfl, rfl, rfl, rfl, rfl, trivial⟩
          · refine im_goto (q := 66) (t := 75) D428_63 rfl ?_
            exact (kJ149  (Or.inr ⟨hc139, hc141, hc147⟩)).wk ⟨rfl, rfl, rfl, rfl, rfl, trivial⟩
set_option maxRecDepth 20000 in
set_option maxHeartbeats 4000000 in
theorem b_look4_146 {g : im_g} {d : Nat} {e : im_E} {M : im_M} {K : im_K} {p3 p4 p6 : Int} (hd : 1 ≤ d) (hP : (im_i32 p6) ∧ ((64 ≤ p6 → im_T g (d - 1) 430 0 [some (.ref 6952), some (vI p3), some (vI p4), none, none] [] e M (im_ri (fun x4 e_ M3 => e = e_ ∧ K (.inl (some (vI x4))) e M3))) ∧ (p6 < 64 → (0 ≤ p6 ∧ p6 < 64) ∧ im_T g d 428 146 [some (.ref 6952), none, none, some (vI p3), some (vI p4), none, some (vI (p6 + 1))] [] e (im_u M 7037 p6 0) K))) : im_T g d 428 146 [some (.ref 6952), none, none, some (vI p3), some (vI p4), none, some (vI p6)] [] e M K := by
  refine im_ld (q := 148) (i := 6) D428_146 rfl rfl rfl ?_
  refine im_bipush (q := 150) D428_148 rfl ?_
  obtain ⟨hg1, hP⟩ := hP
  refine im_icmp (q := 153) (t := 167) D428_150 rfl hg1 (by decide) (fun hc2 => ?_) (fun hc2 => ?_)
  · replace hP := hP.1 hc2
    refine im_ld (q := 168) (i := 0) D428_167 rfl rfl rfl ?_
    refine im_ld (q := 169) (i := 3) D428_168 rfl rfl rfl ?_
    refine im_ld (q := 171) (i := 4) D428_169 rfl rfl rfl ?_
    refine im_callV (q := 174) (kd := 1) (y := 430) (n := 2) (ci := 12) (a := 6952) (vs := [.ref 6952, vI p3, vI p4]) (r := []) (L2 := [some (.ref 6952), some (vI p3), some (vI p4), none, none]) D428_171 (im_cal cn_428 cl_12_1130) (Or.inl rfl) rfl sf_6952 rfl rfl rfl rfl hd ⟨rfl, rfl, rfl, trivial⟩ ?_
    refine hP.mono ?_
    rintro _ e5 M3 ⟨x4, rfl, rfl, hP⟩
    refine im_bkS ?_
    exact im_iret (q := 175) D428_174 rfl hP
  · replace hP := hP.2 (Int.not_le.mp hc2)
    refine im_ld (q := 154) (i := 0) D428_153 rfl rfl rfl ?_
    refine im_gfR (q := 157) (b := 7037) D428_154 (im_fl cn_428 fl_12_267) sf_6952 rfl rfl tR_12_125 rf_6952_125 ?_
    refine im_ld (q := 159) (i := 6) D428_157 rfl rfl rfl ?_
    refine im_iconst (q := 160) D428_159 ?_
    obtain ⟨hg6, hP⟩ := hP
    refine im_zast (q := 161) D428_160 sf_7037 hg6.1 hg6.2 (by decide) (by decide) ?_
    refine im_iinc (q := 164) (i := 6) (L' := [some (.ref 6952), none, none, some (vI p3), some (vI p4), none, some (vI (p6 + 1))]) D428_161 rfl (Nat.le_of_ble_eq_true rfl) rfl ?_
    refine im_goto (q := 167) (t := 146) D428_164 rfl ?_
    exact hP.wk ⟨rfl, rfl, rfl, rfl, trivial⟩
set_option maxRecDepth 20000 in
set_option maxHeartbeats 4000000 in
theorem b_takeFresh_0 {g : im_g} {d : Nat} {e : im_E} {M : im_M} {K : im_K} {p1 : Int} (hP : (0 ≤ p1 ∧ p1 < 16) ∧ im_T g d 429 40 [some (.ref 6952), none, some (vI 0)] [] e (im_u (im_u (im_u (im_u (im_u (im_u M 6952 83 (M 6985 p1)) 6952 84 0) 6952 85 0) 6952 89 0) 6952 93 0) 6952 96 (M 6952 62)) K) : im_T g d 429 0 [some (.ref 6952), some (vI p1), none] [] e M K := by
  refine im_ld (q := 1) (i := 0) D429_0 rfl rfl rfl ?_
  refine im_ld (q := 2) (i := 0) D429_1 rfl rfl rfl ?_
  refine im_gfR (q := 5) (b := 6985) D429_2 (im_fl cn_429 fl_12_109) sf_6952 rfl rfl tR_12_53 rf_6952_53 ?_
  refine im_ld (q := 6) (i := 1) D429_5 rfl rfl rfl ?_
  obtain ⟨hg1, hP⟩ := hP
  refine im_rng (j := p1) sf_6985 hg1.1 hg1.2 (fun hr2 => ?_)
  refine im_iald (q := 7) D429_6 sf_6985 hg1.1 hg1.2 (by decide) rfl ?_
  refine im_pfI (q := 10) D429_7 (im_fl cn_429 fl_12_858) sf_6952 rfl rfl ti_12_83 hr2 ?_
  refine im_ld (q := 11) (i := 0) D429_10 rfl rfl rfl ?_
  refine im_lconst (q := 12) (z := 0) D429_11 rfl ?_
  refine im_pfL (q := 15) D429_12 (im_fl cn_429 fl_12_861) sf_6952 rfl rfl tl_12_84 (by decide) ?_
  refine im_ld (q := 16) (i := 0) D429_15 rfl rfl rfl ?_
  refine im_iconst (q := 17) D429_16 ?_
  refine im_pfI (q := 20) D429_17 (im_fl cn_429 fl_12_864) sf_6952 rfl rfl ti_12_85 (by decide) ?_
  refine im_ld (q := 21) (i := 0) D429_20 rfl rfl rfl ?_
  refine im_iconst (q := 22) D429_21 ?_
  refine im_pfI (q := 25) D429_22 (im_fl cn_429 fl_12_867) sf_6952 rfl rfl ti_12_89 (by decide) ?_
  refine im_ld (q := 26) (i := 0) D429_25 rfl rfl rfl ?_
  refine im_iconst (q := 27) D429_26 ?_
  refine im_pfI (q := 30) D429_27 (im_fl cn_429 fl_12_870) sf_6952 rfl rfl ti_12_93 (by decide) ?_
  refine im_ld (q := 31) (i := 0) D429_30 rfl rfl rfl ?_
  refine im_ld (q := 32) (i := 0) D429_31 rfl rfl rfl ?_
  refine im_rng (j := 62) sf_6952 (by decide) (by decide) (fun hr3 => ?_)
  refine im_gfI (q := 35) D429_32 (im_fl cn_429 fl_12_794) sf_6952 rfl rfl tI_12_62 ((im_rdk _ _ _ (by decide)).trans ((im_rdk _ _ _ (by decide)).trans ((im_rdk _ _ _ (by decide)).trans ((im_rdk _ _ _ (by decide)).trans (im_rdk _ _ _ (by decide)))))) ?_
  refine im_pfI (q := 38) D429_35 (im_fl cn_429 fl_12_873) sf_6952 rfl rfl ti_12_96 (im_rgc hr3 ((im_rdk _ _ _ (by decide)).trans ((im_rdk _ _ _ (by decide)).trans ((im_rdk _ _ _ (by decide)).trans ((im_rdk _ _ _ (by decide)).trans (im_rdk _ _ _ (by decide))))))) ?_
  refine im_iconst (q := 39) D429_38 ?_
  refine im_st1 (q := 40) (i := 2) (L' := [some (.ref 6952), some (vI p1), some (vI 0)]) D429_39 (Or.inl ⟨_, rfl, rfl⟩) (Nat.le_of_ble_eq_true rfl) rfl ?_
  exact hP.wk ⟨rfl, rfl, trivial⟩
set_option maxRecDepth 20000 in
set_option maxHeartbeats 4000000 in
theorem b_takeFresh_40 {g : im_g} {d : Nat} {e : im_E} {M : im_M} {K : im_K} {p2 : Int} (hd : 1 ≤ d) (hP : (im_i32 p2) ∧ (((M 6952 62) ≤ p2 → K (.inl none) e M) ∧ (p2 < (M 6952 62) → (0 ≤ p2 ∧ p2 < 21) ∧ (0 ≤ p2 ∧ p2 < 20) ∧ im_T g (d - 1) 345 0 [some (.ref 6952), some (.ref 6993), some (vI p2), none, none, none] [] e (im_u M 7019 p2 (M 6992 p2)) (im_ri (fun x8 e_ M7 => e = e_ ∧ (im_i32 x8) ∧ im_T g d 429 40 [some (.ref 6952), none, some (vI (p2 + 1))] [] e (im_u M7 7020 p2 x8) K))))) : im_T g d 429 40 [some (.ref 6952), none, some (vI p2)] [] e M K := by
  refine im_ld (q := 41) (i := 2) D429_40 rfl rfl rfl ?_
  refine im_ld (q := 42) (i := 0) D429_41 rfl rfl rfl ?_
  refine im_rng (j := 62) sf_6952 (by decide) (by decide) (fun hr1 => ?_)
  refine im_gfI (q := 45) D429_42 (im_fl cn_429 fl_12_794) sf_6952 rfl rfl tI_12_62 rfl ?_
  obtain ⟨hg2, hP⟩ := hP
  refine im_icmp (q := 48) (t := 81) D429_45 rfl hg2 hr1 (fun hc3 => ?_) (fun hc3 => ?_)
  · replace hP := hP.1 hc3
    exact im_vret (q := 82) D429_81 rfl hP
  · replace hP := hP.2 (Int.not_le.mp hc3)
    refine im_ld (q := 49) (i := 0) D429_48 rfl rfl rfl ?_
    refine im_gfR (q := 52) (b := 7019) D429_49 (im_fl cn_429 fl_12_213) sf_6952 rfl rfl tR_12_97 rf_6952_97 ?_
    refine im_ld (q := 53) (i := 2) D429_52 rfl rfl rfl ?_
    refine im_ld (q := 54) (i := 0) D429_53 rfl rfl rfl ?_
    refine im_gfR (q := 57) (b := 6992) D429_54 (im_fl cn_429 fl_12_130) sf_6952 rfl rfl tR_12_63 rf_6952_63 ?_
    refine im_ld (q := 58) (i := 2) D429_57 rfl rfl rfl ?_
    obtain ⟨hg4, hP⟩ := hP
    refine im_rng (j := p2) sf_6992 hg4.1 hg4.2 (fun hr5 => ?_)
    refine im_lald (q := 59) D429_58 sf_6992 hg4.1 hg4.2 (by decide) rfl ?_
    obtain ⟨hg6, hP⟩ := hP
    refine im_last (q := 60) D429_59 sf_7019 hg6.1 hg6.2 (by decide) hr5 ?_
    refine im_ld (q := 61) (i := 0) D429_60 rfl rfl rfl ?_
    refine im_gfR (q := 64) (b := 7020) D429_61 (im_fl cn_429 fl_12_216) sf_6952 rfl rfl tR_12_98 rf_6952_98 ?_
    refine im_ld (q := 65) (i := 2) D429_64 rfl rfl rfl ?_
    refine im_ld (q := 66) (i := 0) D429_65 rfl rfl rfl ?_
    refine im_ld (q := 67) (i := 0) D429_66 rfl rfl rfl ?_
    refine im_gfR (q := 70) (b := 6993) D429_67 (im_fl cn_429 fl_12_133) sf_6952 rfl rfl tR_12_64 rf_6952_64 ?_
    refine im_ld (q := 71) (i := 2) D429_70 rfl rfl rfl ?_
    refine im_callV (q := 74) (kd := 1) (y := 345) (n := 2) (ci := 12) (a := 6952) (vs := [.ref 6952, .ref 6993, vI p2]) (r := [vI p2, .ref 7020]) (L2 := [some (.ref 6952), some (.ref 6993), some (vI p2), none, none, none]) D429_71 (im_cal cn_429 cl_12_825) (Or.inl rfl) rfl sf_6952 rfl rfl rfl rfl hd ⟨rfl, rfl, rfl, trivial⟩ ?_
    refine hP.mono ?_
    rintro _ e10 M7 ⟨x8, rfl, rfl, hP⟩
    refine im_bkS ?_
    obtain ⟨hg9, hP⟩ := hP
    refine im_iast (q := 75) D429_74 sf_7020 hg6.1 hg6.2 (by decide) hg9 ?_
    refine im_iinc (q := 78) (i := 2) (L' := [some (.ref 6952), none, some (vI (p2 + 1))]) D429_75 rfl (Nat.le_of_ble_eq_true rfl) rfl ?_
    refine im_goto (q := 81) (t := 40) D429_78 rfl ?_
    exact hP.wk ⟨rfl, rfl, trivial⟩
set_option maxRecDepth 20000 in
set_option maxHeartbeats 4000000 in
theorem b_search_0 {g : im_g} {d : Nat} {e : im_E} {M : im_M} {K : im_K} {p1 p2 : Int} (hd : 1 ≤ d) (hP : im_T g (d - 1) 431 0 [some (.ref 6952), some (vI 0), none, none] [] e M (im_r0 (fun  e_ M1 => e = e_ ∧ im_T g d 430 7 [some (.ref 6952), some (vI p1), some (vI p2), some (vI 0), none] [] e M1 K))) : im_T g d 430 0 [some (.ref 6952), some (vI p1), some (vI p2), none, none] [] e M K := by
  refine im_iconst (q := 1) D430_0 ?_
  refine im_st1 (q := 2) (i := 3) (L' := [some (.ref 6952), some (vI p1), some (vI p2), some (vI 0), none]) D430_1 (Or.inl ⟨_, rfl, rfl⟩) (Nat.le_of_ble_eq_true rfl) rfl ?_
  refine im_ld (q := 3) (i := 0) D430_2 rfl rfl rfl ?_
  refine im_iconst (q := 4) D430_3 ?_
  refine im_callV (q := 7) (kd := 1) (y := 431) (n := 1) (ci := 12) (a := 6952) (vs := [.ref 6952, vI 0]) (r := []) (L2 := [some (.ref 6952), some (vI 0), none, none]) D430_4 (im_cal cn_430 cl_12_1102) (Or.inl rfl) rfl sf_6952 rfl rfl rfl rfl hd ⟨rfl, rfl, trivial⟩ ?_
  refine hP.mono ?_
  rintro _ e2 M1 ⟨rfl, rfl, hP⟩
  refine im_bkN ?_
  exact hP.wk ⟨rfl, rfl, rfl, rfl, trivial⟩
set_option maxRecDepth 20000 in
set_option maxHeartbeats 4000000 in
theorem b_search_7 {g : im_g} {d : Nat} {e : im_E} {M : im_M} {K : im_K} {p1 p2 p3 : Int} (hd : 1 ≤ d) (hP : (im_i32 p3) ∧ ((p3 < 0 → K (.inl (some (vI 0))) e M) ∧ (0 ≤ p3 → im_T g (d - 1) 432 0 [some (.ref 6952), some (vI p3), none] [] e M (im_r0 (fun  e_ M3 => e = e_ ∧ im_T g (d - 1) 433 0 [some (.ref 6952), some (vI p3)] [] e M3 (im_ri (fun x5 e_ M4 => e = e_ ∧ (im_i32 x5) ∧ ((¬ x5 = 0 → (im_i32 p2) ∧ ((¬ (M4 6952 175) = p2 → (im_i32 ((M4 6952 175) + 1)) ∧ im_T g (d - 1) 436 0 [some (.ref 6952), some (vI p3)] [] e (im_u M4 6952 175 ((M4 6952 175) + 1)) (im_r0 (fun  e_ M13 => e = e_ ∧ im_T g (d - 1) 363 0 [some (.ref 6952), some (vL (M13 6952 174)), none, some (vL (M13 6952 174)), none, none, none] [] e M13 (im_ri (fun x17 e_ M16 => e = e_ ∧ (im_i32 x17) ∧ ((0 ≤ x17 → im_T g (d - 1) 437 0 [some (.ref 6952), some (vI p1), none, none] [] e M16 (im_ri (fun x21 e_ M20 => e = e_ ∧ (im_i32 x21) ∧ ((x21 = 0 → im_T g (d - 1) 431 0 [some (.ref 6952), some (vI (p3 + 1)), none, none] [] e M20 (im_r0 (fun  e_ M24 => e = e_ ∧ im_T g d 430 7 [some (.ref 6952), some (vI p1), some (vI p2), some (vI (p3 + 1)), none] [] e M24 K))) ∧ (¬ x21 = 0 → im_T g d 430 84 [some (.ref 6952), none, none, some (vI p3), some (vI 0)] [] e M20 K))))) ∧ (x17 < 0 → im_T g d 430 7 [some (.ref 6952), some (vI p1), some (vI p2), some (vI p3), none] [] e M16 K))))))) ∧ ((M4 6952 175) = p2 → K (.inl (some (vI 2))) e M4))) ∧ (x5 = 0 → im_T g d 430 7 [some (.ref 6952), some (vI p1), some (vI p2), some (vI (p3 + (-1))), none] [] e M4 K))))))))) : im_T g d 430 7 [some (.ref 6952), some (vI p1), some (vI p2), some (vI p3), none] [] e M K := by
  refine im_ld (q := 8) (i := 3) D430_7 rfl rfl rfl ?_
  obtain ⟨hg1, hP⟩ := hP
  refine im_ifc (q := 11) (t := 115) D430_8 rfl hg1 (fun hc2 => ?_) (fun hc2 => ?_)
  · replace hP := hP.1 hc2
    refine im_iconst (q := 116) D430_115 ?_
    exact im_iret (q := 117) D430_116 rfl hP
  · replace hP := hP.2 (Int.not_lt.mp hc2)
    refine im_ld (q := 12) (i := 0) D430_11 rfl rfl rfl ?_
    refine im_ld (q := 13) (i := 3) D430_12 rfl rfl rfl ?_
    refine im_callV (q := 16) (kd := 1) (y := 432) (n := 1) (ci := 12) (a := 6952) (vs := [.ref 6952, vI p3]) (r := []) (L2 := [some (.ref 6952), some (vI p3), none]) D430_13 (im_cal cn_430 cl_12_1105) (Or.inl rfl) rfl sf_6952 rfl rfl rfl rfl hd ⟨rfl, rfl, trivial⟩ ?_
    refine hP.mono ?_
    rintro _ e30 M3 ⟨rfl, rfl, hP⟩
    refine im_bkN ?_
    refine im_ld (q := 17) (i := 0) D430_16 rfl rfl rfl ?_
    refine im_ld (q := 18) (i := 3) D430_17 rfl rfl rfl ?_
    refine im_callV (q := 21) (kd := 1) (y := 433) (n := 1) (ci := 12) (a := 6952) (vs := [.ref 6952, vI p3]) (r := []) (L2 := [some (.ref 6952), some (vI p3)]) D430_18 (im_cal cn_430 cl_12_1108) (Or.inl rfl) rfl sf_6952 rfl rfl rfl rfl hd ⟨rfl, rfl, trivial⟩ ?_
    refine hP.mono ?_
    rintro _ e29 M4 ⟨x5, rfl, rfl, hP⟩
    refine im_bkS ?_
    obtain ⟨hg6, hP⟩ := hP
    refine im_ifc (q := 24) (t := 30) D430_21 rfl hg6 (fun hc7 => ?_) (fun hc7 => ?_)
    · replace hP := hP.1 hc7
      refine im_ld (q := 31) (i := 0) D430_30 rfl rfl rfl ?_
      refine im_rng (j := 175) sf_6952 (by decide) (by decide) (fun hr8 => ?_)
      refine im_gfI (q := 34) D430_31 (im_fl cn_430 fl_12_1111) sf_6952 rfl rfl tI_12_175 rfl ?_
      refine im_ld (q := 35) (i := 2) D430_34 rfl rfl rfl ?_
      obtain ⟨hg9, hP⟩ := hP
      refine im_icmp (q := 38) (t := 40) D430_35 rfl hr8 hg9 (fun hc10 => ?_) (fun hc10 => ?_)
      · replace hP := hP.1 hc10
        refine im_ld (q := 41) (i := 0) D430_40 rfl rfl rfl ?_
        refine im_dup (q := 42) D430_41 rfl ?_
        refine im_gfI (q := 45) D430_42 (im_fl cn_430 fl_12_1111) sf_6952 rfl rfl tI_12_175 rfl ?_
        refine im_iconst (q := 46) D430_45 ?_
        refine im_iadd (q := 47) D430_46 ?_
        obtain ⟨hg12, hP⟩ := hP
        refine im_pfI (q := 50) D430_47 (im_fl cn_430 fl_12_1111) sf_6952 rfl rfl ti_12_175 hg12 ?_
        refine im_ld (q := 51) (i := 0) D430_50 rfl rfl rfl ?_
        refine im_ld (q := 52) (i := 3) D430_51 rfl rfl rfl ?_
        refine im_callV (q := 55) (kd := 1) (y := 436) (n := 1) (ci := 12) (a := 6952) (vs := [.ref 6952, vI p3]) (r := []) (L2 := [some (.ref 6952), some (vI p3)]) D430_52 (im_cal cn_430 cl_12_1114) (Or.inl rfl) rfl sf_6952 rfl rfl rfl rfl hd ⟨rfl, rfl, trivial⟩ ?_
        refine hP.mono ?_
        rintro _ e28 M13 ⟨rfl, rfl, hP⟩
        refine im_bkN ?_
        refine im_ld (q := 56) (i := 0) D430_55 rfl rfl rfl ?_
        refine im_ld (q := 57) (i := 0) D430_56 rfl rfl rfl ?_
        refine im_rng (j := 174) sf_6952 (by decide) (by decide) (fun hr14 => ?_)
        refine im_gfL (q := 60) D430_57 (im_fl cn_430 fl_12_1089) sf_6952 rfl rfl tL_12_174 rfl ?_
        refine im_ld (q := 61) (i := 0) D430_60 rfl rfl rfl ?_
        refine im_gfL (q := 64) D430_61 (im_fl cn_430 fl_12_1089) sf_6952 rfl rfl tL_12_174 rfl ?_
        refine im_callV (q := 67) (kd := 1) (y := 363) (n := 2) (ci := 12) (a := 6952) (vs := [.ref 6952, vL (M13 6952 174), vL (M13 6952 174)]) (r := []) (L2 := [some (.ref 6952), some (vL (M13 6952 174)), none, some (vL (M13 6952 174)), none, none, none]) D430_64 (im_cal cn_430 cl_12_1050) (Or.inl rfl) rfl sf_6952 rfl rfl rfl rfl hd ⟨rfl, rfl, rfl, trivial⟩ ?_
        refine hP.mono ?_
        rintro _ e27 M16 ⟨x17, rfl, rfl, hP⟩
        refine im_bkS ?_
        obtain ⟨hg18, hP⟩ := hP
        refine im_ifc (q := 70) (t := 73) D430_67 rfl hg18 (fun hc19 => ?_) (fun hc19 => ?_)
        · replace hP := hP.1 hc19
          refine im_ld (q := 74) (i := 0) D430_73 rfl rfl rfl ?_
          refine im_ld (q := 75) (i := 1) D430_74 rfl rfl rfl ?_
          refine im_callV (q := 78) (kd := 1) (y := 437) (n := 1) (ci := 12) (a := 6952) (vs := [.ref 6952, vI p1]) (r := []) (L2 := [some (.ref 6952), some (vI p1), none, none]) D430_75 (im_cal cn_430 cl_12_1117) (Or.inl rfl) rfl sf_6952 rfl rfl rfl rfl hd ⟨rfl, rfl, trivial⟩ ?_
          refine hP.mono ?_
          rintro _ e26 M20 ⟨x21, rfl, rfl, hP⟩
          refine im_bkS ?_
          obtain ⟨hg22, hP⟩ := hP
          refine im_ifc (q := 81) (t := 104) D430_78 rfl hg22 (fun hc23 => ?_) (fun hc23 => ?_)
          · replace hP := hP.1 hc23
            refine im_iinc (q := 107) (i := 3) (L' := [some (.ref 6952), some (vI p1), some (vI p2), some (vI (p3 + 1)), none]) D430_104 rfl (Nat.le_of_ble_eq_true rfl) rfl ?_
            refine im_ld (q := 108) (i := 0) D430_107 rfl rfl rfl ?_
            refine im_ld (q := 109) (i := 3) D430_108 rfl rfl rfl ?_
            refine im_callV (q := 112) (kd := 1) (y := 431) (n := 1) (ci := 12) (a := 6952) (vs := [.ref 6952, vI (p3 + 1)]) (r := []) (L2 := [some (.ref 6952), some (vI (p3 + 1)), none, none]) D430_109 (im_cal cn_430 cl_12_1102) (Or.inl rfl) rfl sf_6952 rfl rfl rfl rfl hd ⟨rfl, rfl, trivial⟩ ?_
            refine hP.mono ?_
            rintro _ e25 M24 ⟨rfl, rfl, hP⟩
            refine im_bkN ?_
            refine im_goto (q := 115) (t := 7) D430_112 rfl ?_
            exact hP.wk ⟨rfl, rfl, rfl, rfl, trivial⟩
          · replace hP := hP.2 hc23
            refine im_iconst (q := 82) D430_81 ?_
            refine im_st1 (q := 84) (i := 4) (L' := [some (.ref 6952), some (vI p1), some (vI p2), some (vI p3), some (vI 0)]) D430_82 (Or.inr rfl) (Nat.le_of_ble_eq_true rfl) rfl ?_
            exact hP.wk ⟨rfl, rfl, rfl, trivial⟩
        · replace hP := hP.2 (Int.not_le.mp hc19)
          refine im_goto (q := 73) (t := 7) D430_70 rfl ?_
          exact hP.wk ⟨rfl, rfl, rfl, rfl, trivial⟩
      · replace hP := hP.2 (Decidable.not_not.mp hc10)
        refine im_iconst (q := 39) D430_38 ?_
        exact im_iret (q := 40) D430_39 rfl hP
    · replace hP := hP.2 (Decidable.not_not.mp hc7)
      refine im_iinc (q := 27) (i := 3) (L' := [some (.ref 6952), some (vI p1), some (vI p2), some (vI (p3 + (-1))), none]) D430_24 rfl (Nat.le_of_ble_eq_true rfl) rfl ?_
      refine im_goto (q := 30) (t := 7) D430_27 rfl ?_
      exact hP.wk ⟨rfl, rfl, rfl, rfl, trivial⟩
set_option maxRecDepth 20000 in
set_option maxHeartbeats 4000000 in
theorem b_search_84 {g : im_g} {d : Nat} {e : im_E} {M : im_M} {K : im_K} {p3 p4 : Int} (hd : 1 ≤ d) (hP : (im_i32 p4) ∧ (im_i32 p3) ∧ ((p3 < p4 → K (.inl (some (vI 1))) e M) ∧ (p4 ≤ p3 → im_T g (d - 1) 438 0 [some (.ref 6952), some (vI p4)] [] e M (im_r0 (fun  e_ M4 => e = e_ ∧ im_T g d 430 84 [some (.ref 6952), none, none, some (vI p3), some (vI (p4 + 1))] [] e M4 K))))) : im_T g d 430 84 [some (.ref 6952), none, none, some (vI p3), some (vI p4)] [] e M K := by
  refine im_ld (q := 86) (i := 4) D430_84 rfl rfl rfl ?_
  refine im_ld (q := 87) (i := 3) D430_86 rfl rfl rfl ?_
  obtain ⟨hg1, hP⟩ := hP
  obtain ⟨hg2, hP⟩ := hP
  refine im_icmp (q := 90) (t := 102) D430_87 rfl hg1 hg2 (fun hc3 => ?_) (fun hc3 => ?_)
  · replace hP := hP.1 hc3
    refine im_iconst (q := 103) D430_102 ?_
    exact im_iret (q := 104) D430_103 rfl hP
  · replace hP := hP.2 (Int.not_lt.mp hc3)
    refine im_ld (q := 91) (i := 0) D430_90 rfl rfl rfl ?_
    refine im_ld (q := 93) (i := 4) D430_91 rfl rfl rfl ?_
    refine im_callV (q := 96) (kd := 1) (y := 438) (n := 1) (ci := 12) (a := 6952) (vs := [.ref 6952, vI p4]) (r := []) (L2 := [some (.ref 6952), some (vI p4)]) D430_93 (im_cal cn_430 cl_12_1120) (Or.inl rfl) rfl sf_6952 rfl rfl rfl rfl hd ⟨rfl, rfl, trivial⟩ ?_
    refine hP.mono ?_
    rintro _ e5 M4 ⟨rfl, rfl, hP⟩
    refine im_bkN ?_
    refine im_iinc (q := 99) (i := 4) (L' := [some (.ref 6952), none, none, some (vI p3), some (vI (p4 + 1))]) D430_96 rfl (Nat.le_of_ble_eq_true rfl) rfl ?_
    refine im_goto (q := 102) (t := 84) D430_99 rfl ?_
    exact hP.wk ⟨rfl, rfl, rfl, trivial⟩

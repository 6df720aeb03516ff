/-! blocks of the class -/
theorem D96_0 {g : im_g} : im_D g 96 0 (.aload_n 0) 1 := im_D.of (by decide +kernel)
theorem D96_1 {g : im_g} : im_D g 96 1 (.aload_n 1) 2 := im_D.of (by decide +kernel)
theorem D96_2 {g : im_g} : im_D g 96 2 (.iload_n 2) 3 := im_D.of (by decide +kernel)
theorem D96_3 {g : im_g} : im_D g 96 3 (.invokevirtual 101) 6 := im_D.of (by decide +kernel)
theorem D96_6 {g : im_g} : im_D g 96 6 (.aload_n 0) 7 := im_D.of (by decide +kernel)
theorem D96_7 {g : im_g} : im_D g 96 7 (.invokevirtual 98) 10 := im_D.of (by decide +kernel)
theorem D96_10 {g : im_g} : im_D g 96 10 (.aload_n 0) 11 := im_D.of (by decide +kernel)
theorem D96_11 {g : im_g} : im_D g 96 11 (.getfield 63) 14 := im_D.of (by decide +kernel)
theorem D96_14 {g : im_g} : im_D g 96 14 (.ifCond .ge 9) 17 := im_D.of (by decide +kernel)
theorem D96_17 {g : im_g} : im_D g 96 17 (.aload_n 0) 18 := im_D.of (by decide +kernel)
theorem D96_18 {g : im_g} : im_D g 96 18 (.getfield 63) 21 := im_D.of (by decide +kernel)
theorem D96_21 {g : im_g} : im_D g 96 21 (.ineg) 22 := im_D.of (by decide +kernel)
theorem D96_22 {g : im_g} : im_D g 96 22 (.ireturn) 23 := im_D.of (by decide +kernel)
theorem D96_23 {g : im_g} : im_D g 96 23 (.aload_n 0) 24 := im_D.of (by decide +kernel)
theorem D96_24 {g : im_g} : im_D g 96 24 (.getfield 63) 27 := im_D.of (by decide +kernel)
theorem D96_27 {g : im_g} : im_D g 96 27 (.bipush 34) 29 := im_D.of (by decide +kernel)
theorem D96_29 {g : im_g} : im_D g 96 29 (.if_icmp .eq 18) 32 := im_D.of (by decide +kernel)
theorem D96_32 {g : im_g} : im_D g 96 32 (.aload_n 0) 33 := im_D.of (by decide +kernel)
theorem D96_33 {g : im_g} : im_D g 96 33 (.getfield 63) 36 := im_D.of (by decide +kernel)
theorem D96_36 {g : im_g} : im_D g 96 36 (.bipush 41) 38 := im_D.of (by decide +kernel)
theorem D96_38 {g : im_g} : im_D g 96 38 (.if_icmp .ne 7) 41 := im_D.of (by decide +kernel)
theorem D96_41 {g : im_g} : im_D g 96 41 (.iconst 3) 42 := im_D.of (by decide +kernel)
theorem D96_42 {g : im_g} : im_D g 96 42 (.goto 4) 45 := im_D.of (by decide +kernel)
theorem D96_45 {g : im_g} : im_D g 96 45 (.iconst 4) 46 := im_D.of (by decide +kernel)
theorem D96_46 {g : im_g} : im_D g 96 46 (.ireturn) 47 := im_D.of (by decide +kernel)
theorem D96_47 {g : im_g} : im_D g 96 47 (.aload_n 0) 48 := im_D.of (by decide +kernel)
theorem D96_48 {g : im_g} : im_D g 96 48 (.invokevirtual 105) 51 := im_D.of (by decide +kernel)
theorem D96_51 {g : im_g} : im_D g 96 51 (.ireturn) 52 := im_D.of (by decide +kernel)
theorem D97_0 {g : im_g} : im_D g 97 0 (.aload_n 0) 1 := im_D.of (by decide +kernel)
theorem D97_1 {g : im_g} : im_D g 97 1 (.getfield 19) 4 := im_D.of (by decide +kernel)
theorem D97_4 {g : im_g} : im_D g 97 4 (.aload_n 1) 5 := im_D.of (by decide +kernel)
theorem D97_5 {g : im_g} : im_D g 97 5 (.getfield 19) 8 := im_D.of (by decide +kernel)
theorem D97_8 {g : im_g} : im_D g 97 8 (.invokestatic 31) 11 := im_D.of (by decide +kernel)
theorem D97_11 {g : im_g} : im_D g 97 11 (.istore_n 2) 12 := im_D.of (by decide +kernel)
theorem D97_12 {g : im_g} : im_D g 97 12 (.iconst 0) 13 := im_D.of (by decide +kernel)
theorem D97_13 {g : im_g} : im_D g 97 13 (.istore_n 3) 14 := im_D.of (by decide +kernel)
theorem D97_14 {g : im_g} : im_D g 97 14 (.iconst 0) 15 := im_D.of (by decide +kernel)
theorem D97_15 {g : im_g} : im_D g 97 15 (.istore 4) 17 := im_D.of (by decide +kernel)
theorem D97_17 {g : im_g} : im_D g 97 17 (.iload 4) 19 := im_D.of (by decide +kernel)
theorem D97_19 {g : im_g} : im_D g 97 19 (.iload_n 2) 20 := im_D.of (by decide +kernel)
theorem D97_20 {g : im_g} : im_D g 97 20 (.if_icmp .ge 81) 23 := im_D.of (by decide +kernel)
theorem D97_23 {g : im_g} : im_D g 97 23 (.iload_n 3) 24 := im_D.of (by decide +kernel)
theorem D97_24 {g : im_g} : im_D g 97 24 (.iload 4) 26 := im_D.of (by decide +kernel)
theorem D97_26 {g : im_g} : im_D g 97 26 (.aload_n 0) 27 := im_D.of (by decide +kernel)
theorem D97_27 {g : im_g} : im_D g 97 27 (.getfield 19) 30 := im_D.of (by decide +kernel)
theorem D97_30 {g : im_g} : im_D g 97 30 (.if_icmp .ge 13) 33 := im_D.of (by decide +kernel)
theorem D97_33 {g : im_g} : im_D g 97 33 (.aload_n 0) 34 := im_D.of (by decide +kernel)
theorem D97_34 {g : im_g} : im_D g 97 34 (.getfield 9) 37 := im_D.of (by decide +kernel)
theorem D97_37 {g : im_g} : im_D g 97 37 (.iload 4) 39 := im_D.of (by decide +kernel)
theorem D97_39 {g : im_g} : im_D g 97 39 (.iaload) 40 := im_D.of (by decide +kernel)
theorem D97_40 {g : im_g} : im_D g 97 40 (.goto 4) 43 := im_D.of (by decide +kernel)
theorem D97_43 {g : im_g} : im_D g 97 43 (.iconst 0) 44 := im_D.of (by decide +kernel)
theorem D97_44 {g : im_g} : im_D g 97 44 (.iadd) 45 := im_D.of (by decide +kernel)
theorem D97_45 {g : im_g} : im_D g 97 45 (.iload 4) 47 := im_D.of (by decide +kernel)
theorem D97_47 {g : im_g} : im_D g 97 47 (.aload_n 1) 48 := im_D.of (by decide +kernel)
theorem D97_48 {g : im_g} : im_D g 97 48 (.getfield 19) 51 := im_D.of (by decide +kernel)
theorem D97_51 {g : im_g} : im_D g 97 51 (.if_icmp .ge 13) 54 := im_D.of (by decide +kernel)
theorem D97_54 {g : im_g} : im_D g 97 54 (.aload_n 1) 55 := im_D.of (by decide +kernel)
theorem D97_55 {g : im_g} : im_D g 97 55 (.getfield 9) 58 := im_D.of (by decide +kernel)
theorem D97_58 {g : im_g} : im_D g 97 58 (.iload 4) 60 := im_D.of (by decide +kernel)
theorem D97_60 {g : im_g} : im_D g 97 60 (.iaload) 61 := im_D.of (by decide +kernel)
theorem D97_61 {g : im_g} : im_D g 97 61 (.goto 4) 64 := im_D.of (by decide +kernel)
theorem D97_64 {g : im_g} : im_D g 97 64 (.iconst 0) 65 := im_D.of (by decide +kernel)
theorem D97_65 {g : im_g} : im_D g 97 65 (.iadd) 66 := im_D.of (by decide +kernel)
theorem D97_66 {g : im_g} : im_D g 97 66 (.istore 5) 68 := im_D.of (by decide +kernel)
theorem D97_68 {g : im_g} : im_D g 97 68 (.iload 5) 70 := im_D.of (by decide +kernel)
theorem D97_70 {g : im_g} : im_D g 97 70 (.ldc 41) 72 := im_D.of (by decide +kernel)
theorem D97_72 {g : im_g} : im_D g 97 72 (.if_icmp .lt 7) 75 := im_D.of (by decide +kernel)
theorem D97_75 {g : im_g} : im_D g 97 75 (.iconst 1) 76 := im_D.of (by decide +kernel)
theorem D97_76 {g : im_g} : im_D g 97 76 (.goto 4) 79 := im_D.of (by decide +kernel)
theorem D97_79 {g : im_g} : im_D g 97 79 (.iconst 0) 80 := im_D.of (by decide +kernel)
theorem D97_80 {g : im_g} : im_D g 97 80 (.istore_n 3) 81 := im_D.of (by decide +kernel)
theorem D97_81 {g : im_g} : im_D g 97 81 (.aload_n 0) 82 := im_D.of (by decide +kernel)
theorem D97_82 {g : im_g} : im_D g 97 82 (.getfield 9) 85 := im_D.of (by decide +kernel)
theorem D97_85 {g : im_g} : im_D g 97 85 (.iload 4) 87 := im_D.of (by decide +kernel)
theorem D97_87 {g : im_g} : im_D g 97 87 (.iload 5) 89 := im_D.of (by decide +kernel)
theorem D97_89 {g : im_g} : im_D g 97 89 (.iload_n 3) 90 := im_D.of (by decide +kernel)
theorem D97_90 {g : im_g} : im_D g 97 90 (.ldc 41) 92 := im_D.of (by decide +kernel)
theorem D97_92 {g : im_g} : im_D g 97 92 (.imul) 93 := im_D.of (by decide +kernel)
theorem D97_93 {g : im_g} : im_D g 97 93 (.isub) 94 := im_D.of (by decide +kernel)
theorem D97_94 {g : im_g} : im_D g 97 94 (.iastore) 95 := im_D.of (by decide +kernel)
theorem D97_95 {g : im_g} : im_D g 97 95 (.iinc 4 1) 98 := im_D.of (by decide +kernel)
theorem D97_98 {g : im_g} : im_D g 97 98 (.goto (-81)) 101 := im_D.of (by decide +kernel)
theorem D97_101 {g : im_g} : im_D g 97 101 (.aload_n 0) 102 := im_D.of (by decide +kernel)
theorem D97_102 {g : im_g} : im_D g 97 102 (.iload_n 2) 103 := im_D.of (by decide +kernel)
theorem D97_103 {g : im_g} : im_D g 97 103 (.putfield 19) 106 := im_D.of (by decide +kernel)
theorem D97_106 {g : im_g} : im_D g 97 106 (.iload_n 3) 107 := im_D.of (by decide +kernel)
theorem D97_107 {g : im_g} : im_D g 97 107 (.ifCond .le 32) 110 := im_D.of (by decide +kernel)
theorem D97_110 {g : im_g} : im_D g 97 110 (.aload_n 0) 111 := im_D.of (by decide +kernel)
theorem D97_111 {g : im_g} : im_D g 97 111 (.getfield 19) 114 := im_D.of (by decide +kernel)
theorem D97_114 {g : im_g} : im_D g 97 114 (.bipush 34) 116 := im_D.of (by decide +kernel)
theorem D97_116 {g : im_g} : im_D g 97 116 (.if_icmp .ge 23) 119 := im_D.of (by decide +kernel)
theorem D97_119 {g : im_g} : im_D g 97 119 (.aload_n 0) 120 := im_D.of (by decide +kernel)
theorem D97_120 {g : im_g} : im_D g 97 120 (.getfield 9) 123 := im_D.of (by decide +kernel)
theorem D97_123 {g : im_g} : im_D g 97 123 (.aload_n 0) 124 := im_D.of (by decide +kernel)
theorem D97_124 {g : im_g} : im_D g 97 124 (.getfield 19) 127 := im_D.of (by decide +kernel)
theorem D97_127 {g : im_g} : im_D g 97 127 (.iload_n 3) 128 := im_D.of (by decide +kernel)
theorem D97_128 {g : im_g} : im_D g 97 128 (.iastore) 129 := im_D.of (by decide +kernel)
theorem D97_129 {g : im_g} : im_D g 97 129 (.aload_n 0) 130 := im_D.of (by decide +kernel)
theorem D97_130 {g : im_g} : im_D g 97 130 (.dup) 131 := im_D.of (by decide +kernel)
theorem D97_131 {g : im_g} : im_D g 97 131 (.getfield 19) 134 := im_D.of (by decide +kernel)
theorem D97_134 {g : im_g} : im_D g 97 134 (.iconst 1) 135 := im_D.of (by decide +kernel)
theorem D97_135 {g : im_g} : im_D g 97 135 (.iadd) 136 := im_D.of (by decide +kernel)
theorem D97_136 {g : im_g} : im_D g 97 136 (.putfield 19) 139 := im_D.of (by decide +kernel)
theorem D97_139 {g : im_g} : im_D g 97 139 (.aload_n 0) 140 := im_D.of (by decide +kernel)
theorem D97_140 {g : im_g} : im_D g 97 140 (.aload_n 0) 141 := im_D.of (by decide +kernel)
theorem D97_141 {g : im_g} : im_D g 97 141 (.getfield 15) 144 := im_D.of (by decide +kernel)
theorem D97_144 {g : im_g} : im_D g 97 144 (.ifCond .ne 10) 147 := im_D.of (by decide +kernel)
theorem D97_147 {g : im_g} : im_D g 97 147 (.aload_n 1) 148 := im_D.of (by decide +kernel)
theorem D97_148 {g : im_g} : im_D g 97 148 (.getfield 15) 151 := im_D.of (by decide +kernel)
theorem D97_151 {g : im_g} : im_D g 97 151 (.goto 7) 154 := im_D.of (by decide +kernel)
theorem D97_154 {g : im_g} : im_D g 97 154 (.aload_n 0) 155 := im_D.of (by decide +kernel)
theorem D97_155 {g : im_g} : im_D g 97 155 (.getfield 15) 158 := im_D.of (by decide +kernel)
theorem D97_158 {g : im_g} : im_D g 97 158 (.putfield 15) 161 := im_D.of (by decide +kernel)
theorem D97_161 {g : im_g} : im_D g 97 161 (.aload_n 0) 162 := im_D.of (by decide +kernel)
theorem D97_162 {g : im_g} : im_D g 97 162 (.invokevirtual 42) 165 := im_D.of (by decide +kernel)
theorem D97_165 {g : im_g} : im_D g 97 165 (.ireturn) 166 := im_D.of (by decide +kernel)
theorem D98_0 {g : im_g} : im_D g 98 0 (.aload_n 0) 1 := im_D.of (by decide +kernel)
theorem D98_1 {g : im_g} : im_D g 98 1 (.getfield 19) 4 := im_D.of (by decide +kernel)
theorem D98_4 {g : im_g} : im_D g 98 4 (.ifCond .le 30) 7 := im_D.of (by decide +kernel)
theorem D98_7 {g : im_g} : im_D g 98 7 (.aload_n 0) 8 := im_D.of (by decide +kernel)
theorem D98_8 {g : im_g} : im_D g 98 8 (.getfield 9) 11 := im_D.of (by decide +kernel)
theorem D98_11 {g : im_g} : im_D g 98 11 (.aload_n 0) 12 := im_D.of (by decide +kernel)
theorem D98_12 {g : im_g} : im_D g 98 12 (.getfield 19) 15 := im_D.of (by decide +kernel)
theorem D98_15 {g : im_g} : im_D g 98 15 (.iconst 1) 16 := im_D.of (by decide +kernel)
theorem D98_16 {g : im_g} : im_D g 98 16 (.isub) 17 := im_D.of (by decide +kernel)
theorem D98_17 {g : im_g} : im_D g 98 17 (.iaload) 18 := im_D.of (by decide +kernel)
theorem D98_18 {g : im_g} : im_D g 98 18 (.ifCond .ne 16) 21 := im_D.of (by decide +kernel)
theorem D98_21 {g : im_g} : im_D g 98 21 (.aload_n 0) 22 := im_D.of (by decide +kernel)
theorem D98_22 {g : im_g} : im_D g 98 22 (.dup) 23 := im_D.of (by decide +kernel)
theorem D98_23 {g : im_g} : im_D g 98 23 (.getfield 19) 26 := im_D.of (by decide +kernel)
theorem D98_26 {g : im_g} : im_D g 98 26 (.iconst 1) 27 := im_D.of (by decide +kernel)
theorem D98_27 {g : im_g} : im_D g 98 27 (.isub) 28 := im_D.of (by decide +kernel)
theorem D98_28 {g : im_g} : im_D g 98 28 (.putfield 19) 31 := im_D.of (by decide +kernel)
theorem D98_31 {g : im_g} : im_D g 98 31 (.goto (-31)) 34 := im_D.of (by decide +kernel)
theorem D98_34 {g : im_g} : im_D g 98 34 (.aload_n 0) 35 := im_D.of (by decide +kernel)
theorem D98_35 {g : im_g} : im_D g 98 35 (.getfield 19) 38 := im_D.of (by decide +kernel)
theorem D98_38 {g : im_g} : im_D g 98 38 (.bipush 34) 40 := im_D.of (by decide +kernel)
theorem D98_40 {g : im_g} : im_D g 98 40 (.if_icmp .lt 16) 43 := im_D.of (by decide +kernel)
theorem D98_43 {g : im_g} : im_D g 98 43 (.aload_n 0) 44 := im_D.of (by decide +kernel)
theorem D98_44 {g : im_g} : im_D g 98 44 (.getfield 9) 47 := im_D.of (by decide +kernel)
theorem D98_47 {g : im_g} : im_D g 98 47 (.bipush 33) 49 := im_D.of (by decide +kernel)
theorem D98_49 {g : im_g} : im_D g 98 49 (.iaload) 50 := im_D.of (by decide +kernel)
theorem D98_50 {g : im_g} : im_D g 98 50 (.sipush 1000) 53 := im_D.of (by decide +kernel)
theorem D98_53 {g : im_g} : im_D g 98 53 (.if_icmp .ge 7) 56 := im_D.of (by decide +kernel)
theorem D98_56 {g : im_g} : im_D g 98 56 (.iconst 1) 57 := im_D.of (by decide +kernel)
theorem D98_57 {g : im_g} : im_D g 98 57 (.goto 4) 60 := im_D.of (by decide +kernel)
theorem D98_60 {g : im_g} : im_D g 98 60 (.iconst 0) 61 := im_D.of (by decide +kernel)
theorem D98_61 {g : im_g} : im_D g 98 61 (.istore_n 1) 62 := im_D.of (by decide +kernel)
theorem D98_62 {g : im_g} : im_D g 98 62 (.aload_n 0) 63 := im_D.of (by decide +kernel)
theorem D98_63 {g : im_g} : im_D g 98 63 (.iload_n 1) 64 := im_D.of (by decide +kernel)
theorem D98_64 {g : im_g} : im_D g 98 64 (.ifCond .eq 10) 67 := im_D.of (by decide +kernel)
theorem D98_67 {g : im_g} : im_D g 98 67 (.aload_n 0) 68 := im_D.of (by decide +kernel)
theorem D98_68 {g : im_g} : im_D g 98 68 (.getfield 19) 71 := im_D.of (by decide +kernel)
theorem D98_71 {g : im_g} : im_D g 98 71 (.goto 4) 74 := im_D.of (by decide +kernel)
theorem D98_74 {g : im_g} : im_D g 98 74 (.iconst 0) 75 := im_D.of (by decide +kernel)
theorem D98_75 {g : im_g} : im_D g 98 75 (.putfield 19) 78 := im_D.of (by decide +kernel)
theorem D98_78 {g : im_g} : im_D g 98 78 (.aload_n 0) 79 := im_D.of (by decide +kernel)
theorem D98_79 {g : im_g} : im_D g 98 79 (.aload_n 0) 80 := im_D.of (by decide +kernel)
theorem D98_80 {g : im_g} : im_D g 98 80 (.getfield 19) 83 := im_D.of (by decide +kernel)
theorem D98_83 {g : im_g} : im_D g 98 83 (.ifCond .ne 7) 86 := im_D.of (by decide +kernel)
theorem D98_86 {g : im_g} : im_D g 98 86 (.iconst 0) 87 := im_D.of (by decide +kernel)
theorem D98_87 {g : im_g} : im_D g 98 87 (.goto 7) 90 := im_D.of (by decide +kernel)
theorem D98_90 {g : im_g} : im_D g 98 90 (.aload_n 0) 91 := im_D.of (by decide +kernel)
theorem D98_91 {g : im_g} : im_D g 98 91 (.getfield 15) 94 := im_D.of (by decide +kernel)
theorem D98_94 {g : im_g} : im_D g 98 94 (.putfield 15) 97 := im_D.of (by decide +kernel)
theorem D98_97 {g : im_g} : im_D g 98 97 (.iload_n 1) 98 := im_D.of (by decide +kernel)
theorem D98_98 {g : im_g} : im_D g 98 98 (.ireturn) 99 := im_D.of (by decide +kernel)
theorem D99_0 {g : im_g} : im_D g 99 0 (.aload_n 0) 1 := im_D.of (by decide +kernel)
theorem D99_1 {g : im_g} : im_D g 99 1 (.lload_n 1) 2 := im_D.of (by decide +kernel)
theorem D99_2 {g : im_g} : im_D g 99 2 (.lload_n 3) 3 := im_D.of (by decide +kernel)
theorem D99_3 {g : im_g} : im_D g 99 3 (.invokevirtual 43) 6 := im_D.of (by decide +kernel)
theorem D99_6 {g : im_g} : im_D g 99 6 (.istore 6) 8 := im_D.of (by decide +kernel)
theorem D99_8 {g : im_g} : im_D g 99 8 (.iload 6) 10 := im_D.of (by decide +kernel)
theorem D99_10 {g : im_g} : im_D g 99 10 (.ifCond .ge 33) 13 := im_D.of (by decide +kernel)
theorem D99_13 {g : im_g} : im_D g 99 13 (.iconst (-1)) 14 := im_D.of (by decide +kernel)
theorem D99_14 {g : im_g} : im_D g 99 14 (.iload 6) 16 := im_D.of (by decide +kernel)
theorem D99_16 {g : im_g} : im_D g 99 16 (.isub) 17 := im_D.of (by decide +kernel)
theorem D99_17 {g : im_g} : im_D g 99 17 (.istore 6) 19 := im_D.of (by decide +kernel)
theorem D99_19 {g : im_g} : im_D g 99 19 (.aload_n 0) 20 := im_D.of (by decide +kernel)
theorem D99_20 {g : im_g} : im_D g 99 20 (.iload 6) 22 := im_D.of (by decide +kernel)
theorem D99_22 {g : im_g} : im_D g 99 22 (.lload_n 1) 23 := im_D.of (by decide +kernel)
theorem D99_23 {g : im_g} : im_D g 99 23 (.lload_n 3) 24 := im_D.of (by decide +kernel)
theorem D99_24 {g : im_g} : im_D g 99 24 (.invokevirtual 47) 27 := im_D.of (by decide +kernel)
theorem D99_27 {g : im_g} : im_D g 99 27 (.ifCond .ne 6) 30 := im_D.of (by decide +kernel)
theorem D99_30 {g : im_g} : im_D g 99 30 (.bipush (-9)) 32 := im_D.of (by decide +kernel)
theorem D99_32 {g : im_g} : im_D g 99 32 (.ireturn) 33 := im_D.of (by decide +kernel)
theorem D99_33 {g : im_g} : im_D g 99 33 (.aload_n 0) 34 := im_D.of (by decide +kernel)
theorem D99_34 {g : im_g} : im_D g 99 34 (.getfield 25) 37 := im_D.of (by decide +kernel)
theorem D99_37 {g : im_g} : im_D g 99 37 (.iload 6) 39 := im_D.of (by decide +kernel)
theorem D99_39 {g : im_g} : im_D g 99 39 (.aaload) 40 := im_D.of (by decide +kernel)
theorem D99_40 {g : im_g} : im_D g 99 40 (.invokevirtual 51) 43 := im_D.of (by decide +kernel)
theorem D99_43 {g : im_g} : im_D g 99 43 (.aload_n 0) 44 := im_D.of (by decide +kernel)
theorem D99_44 {g : im_g} : im_D g 99 44 (.getfield 25) 47 := im_D.of (by decide +kernel)
theorem D99_47 {g : im_g} : im_D g 99 47 (.iload 6) 49 := im_D.of (by decide +kernel)
theorem D99_49 {g : im_g} : im_D g 99 49 (.aaload) 50 := im_D.of (by decide +kernel)
theorem D99_50 {g : im_g} : im_D g 99 50 (.aload 5) 52 := im_D.of (by decide +kernel)
theorem D99_52 {g : im_g} : im_D g 99 52 (.invokevirtual 54) 55 := im_D.of (by decide +kernel)
theorem D99_55 {g : im_g} : im_D g 99 55 (.ifCond .eq 7) 58 := im_D.of (by decide +kernel)
theorem D99_58 {g : im_g} : im_D g 99 58 (.iconst 0) 59 := im_D.of (by decide +kernel)
theorem D99_59 {g : im_g} : im_D g 99 59 (.goto 5) 62 := im_D.of (by decide +kernel)
theorem D99_62 {g : im_g} : im_D g 99 62 (.bipush (-8)) 64 := im_D.of (by decide +kernel)
theorem D99_64 {g : im_g} : im_D g 99 64 (.ireturn) 65 := im_D.of (by decide +kernel)
theorem D100_0 {g : im_g} : im_D g 100 0 (.aload_n 0) 1 := im_D.of (by decide +kernel)
theorem D100_1 {g : im_g} : im_D g 100 1 (.getfield 29) 4 := im_D.of (by decide +kernel)
theorem D100_4 {g : im_g} : im_D g 100 4 (.aload_n 0) 5 := im_D.of (by decide +kernel)
theorem D100_5 {g : im_g} : im_D g 100 5 (.getfield 25) 8 := im_D.of (by decide +kernel)
theorem D100_8 {g : im_g} : im_D g 100 8 (.arraylength) 9 := im_D.of (by decide +kernel)
theorem D100_9 {g : im_g} : im_D g 100 9 (.if_icmp .lt 5) 12 := im_D.of (by decide +kernel)
theorem D100_12 {g : im_g} : im_D g 100 12 (.iconst 0) 13 := im_D.of (by decide +kernel)
theorem D100_13 {g : im_g} : im_D g 100 13 (.ireturn) 14 := im_D.of (by decide +kernel)
theorem D100_14 {g : im_g} : im_D g 100 14 (.aload_n 0) 15 := im_D.of (by decide +kernel)
theorem D100_15 {g : im_g} : im_D g 100 15 (.getfield 25) 18 := im_D.of (by decide +kernel)
theorem D100_18 {g : im_g} : im_D g 100 18 (.aload_n 0) 19 := im_D.of (by decide +kernel)
theorem D100_19 {g : im_g} : im_D g 100 19 (.getfield 29) 22 := im_D.of (by decide +kernel)
theorem D100_22 {g : im_g} : im_D g 100 22 (.aaload) 23 := im_D.of (by decide +kernel)
theorem D100_23 {g : im_g} : im_D g 100 23 (.astore 6) 25 := im_D.of (by decide +kernel)
theorem D100_25 {g : im_g} : im_D g 100 25 (.aload_n 0) 26 := im_D.of (by decide +kernel)
theorem D100_26 {g : im_g} : im_D g 100 26 (.getfield 29) 29 := im_D.of (by decide +kernel)
theorem D100_29 {g : im_g} : im_D g 100 29 (.istore 7) 31 := im_D.of (by decide +kernel)
theorem D100_31 {g : im_g} : im_D g 100 31 (.iload 7) 33 := im_D.of (by decide +kernel)
theorem D100_33 {g : im_g} : im_D g 100 33 (.iload_n 1) 34 := im_D.of (by decide +kernel)
theorem D100_34 {g : im_g} : im_D g 100 34 (.if_icmp .le 57) 37 := im_D.of (by decide +kernel)
theorem D100_37 {g : im_g} : im_D g 100 37 (.aload_n 0) 38 := im_D.of (by decide +kernel)
theorem D100_38 {g : im_g} : im_D g 100 38 (.getfield 18) 41 := im_D.of (by decide +kernel)
theorem D100_41 {g : im_g} : im_D g 100 41 (.iload 7) 43 := im_D.of (by decide +kernel)
theorem D100_43 {g : im_g} : im_D g 100 43 (.aload_n 0) 44 := im_D.of (by decide +kernel)
theorem D100_44 {g : im_g} : im_D g 100 44 (.getfield 18) 47 := im_D.of (by decide +kernel)
theorem D100_47 {g : im_g} : im_D g 100 47 (.iload 7) 49 := im_D.of (by decide +kernel)
theorem D100_49 {g : im_g} : im_D g 100 49 (.iconst 1) 50 := im_D.of (by decide +kernel)
theorem D100_50 {g : im_g} : im_D g 100 50 (.isub) 51 := im_D.of (by decide +kernel)
theorem D100_51 {g : im_g} : im_D g 100 51 (.laload) 52 := im_D.of (by decide +kernel)
theorem D100_52 {g : im_g} : im_D g 100 52 (.lastore) 53 := im_D.of (by decide +kernel)
theorem D100_53 {g : im_g} : im_D g 100 53 (.aload_n 0) 54 := im_D.of (by decide +kernel)
theorem D100_54 {g : im_g} : im_D g 100 54 (.getfield 22) 57 := im_D.of (by decide +kernel)
theorem D100_57 {g : im_g} : im_D g 100 57 (.iload 7) 59 := im_D.of (by decide +kernel)
theorem D100_59 {g : im_g} : im_D g 100 59 (.aload_n 0) 60 := im_D.of (by decide +kernel)
theorem D100_60 {g : im_g} : im_D g 100 60 (.getfield 22) 63 := im_D.of (by decide +kernel)
theorem D100_63 {g : im_g} : im_D g 100 63 (.iload 7) 65 := im_D.of (by decide +kernel)
theorem D100_65 {g : im_g} : im_D g 100 65 (.iconst 1) 66 := im_D.of (by decide +kernel)
theorem D100_66 {g : im_g} : im_D g 100 66 (.isub) 67 := im_D.of (by decide +kernel)
theorem D100_67 {g : im_g} : im_D g 100 67 (.laload) 68 := im_D.of (by decide +kernel)
theorem D100_68 {g : im_g} : im_D g 100 68 (.lastore) 69 := im_D.of (by decide +kernel)
theorem D100_69 {g : im_g} : im_D g 100 69 (.aload_n 0) 70 := im_D.of (by decide +kernel)
theorem D100_70 {g : im_g} : im_D g 100 70 (.getfield 25) 73 := im_D.of (by decide +kernel)
theorem D100_73 {g : im_g} : im_D g 100 73 (.iload 7) 75 := im_D.of (by decide +kernel)
theorem D100_75 {g : im_g} : im_D g 100 75 (.aload_n 0) 76 := im_D.of (by decide +kernel)
theorem D100_76 {g : im_g} : im_D g 100 76 (.getfield 25) 79 := im_D.of (by decide +kernel)
theorem D100_79 {g : im_g} : im_D g 100 79 (.iload 7) 81 := im_D.of (by decide +kernel)
theorem D100_81 {g : im_g} : im_D g 100 81 (.iconst 1) 82 := im_D.of (by decide +kernel)
theorem D100_82 {g : im_g} : im_D g 100 82 (.isub) 83 := im_D.of (by decide +kernel)
theorem D100_83 {g : im_g} : im_D g 100 83 (.aaload) 84 := im_D.of (by decide +kernel)
theorem D100_84 {g : im_g} : im_D g 100 84 (.aastore) 85 := im_D.of (by decide +kernel)
theorem D100_85 {g : im_g} : im_D g 100 85 (.iinc 7 (-1)) 88 := im_D.of (by decide +kernel)
theorem D100_88 {g : im_g} : im_D g 100 88 (.goto (-57)) 91 := im_D.of (by decide +kernel)
theorem D100_91 {g : im_g} : im_D g 100 91 (.aload_n 0) 92 := im_D.of (by decide +kernel)
theorem D100_92 {g : im_g} : im_D g 100 92 (.getfield 18) 95 := im_D.of (by decide +kernel)
theorem D100_95 {g : im_g} : im_D g 100 95 (.iload_n 1) 96 := im_D.of (by decide +kernel)
theorem D100_96 {g : im_g} : im_D g 100 96 (.lload_n 2) 97 := im_D.of (by decide +kernel)
theorem D100_97 {g : im_g} : im_D g 100 97 (.lastore) 98 := im_D.of (by decide +kernel)
theorem D100_98 {g : im_g} : im_D g 100 98 (.aload_n 0) 99 := im_D.of (by decide +kernel)
theorem D100_99 {g : im_g} : im_D g 100 99 (.getfield 22) 102 := im_D.of (by decide +kernel)
theorem D100_102 {g : im_g} : im_D g 100 102 (.iload_n 1) 103 := im_D.of (by decide +kernel)
theorem D100_103 {g : im_g} : im_D g 100 103 (.lload 4) 105 := im_D.of (by decide +kernel)
theorem D100_105 {g : im_g} : im_D g 100 105 (.lastore) 106 := im_D.of (by decide +kernel)
theorem D100_106 {g : im_g} : im_D g 100 106 (.aload_n 0) 107 := im_D.of (by decide +kernel)
theorem D100_107 {g : im_g} : im_D g 100 107 (.getfield 25) 110 := im_D.of (by decide +kernel)
theorem D100_110 {g : im_g} : im_D g 100 110 (.iload_n 1) 111 := im_D.of (by decide +kernel)
theorem D100_111 {g : im_g} : im_D g 100 111 (.aload 6) 113 := im_D.of (by decide +kernel)
theorem D100_113 {g : im_g} : im_D g 100 113 (.aastore) 114 := im_D.of (by decide +kernel)
theorem D100_114 {g : im_g} : im_D g 100 114 (.aload_n 0) 115 := im_D.of (by decide +kernel)
theorem D100_115 {g : im_g} : im_D g 100 115 (.dup) 116 := im_D.of (by decide +kernel)
theorem D100_116 {g : im_g} : im_D g 100 116 (.getfield 29) 119 := im_D.of (by decide +kernel)
theorem D100_119 {g : im_g} : im_D g 100 119 (.iconst 1) 120 := im_D.of (by decide +kernel)
theorem D100_120 {g : im_g} : im_D g 100 120 (.iadd) 121 := im_D.of (by decide +kernel)
theorem D100_121 {g : im_g} : im_D g 100 121 (.putfield 29) 124 := im_D.of (by decide +kernel)
theorem D100_124 {g : im_g} : im_D g 100 124 (.iconst 1) 125 := im_D.of (by decide +kernel)
theorem D100_125 {g : im_g} : im_D g 100 125 (.ireturn) 126 := im_D.of (by decide +kernel)
theorem D101_0 {g : im_g} : im_D g 101 0 (.aload_n 0) 1 := im_D.of (by decide +kernel)
theorem D101_1 {g : im_g} : im_D g 101 1 (.iconst 0) 2 := im_D.of (by decide +kernel)
theorem D101_2 {g : im_g} : im_D g 101 2 (.putfield 15) 5 := im_D.of (by decide +kernel)
theorem D101_5 {g : im_g} : im_D g 101 5 (.aload_n 0) 6 := im_D.of (by decide +kernel)
theorem D101_6 {g : im_g} : im_D g 101 6 (.iconst 0) 7 := im_D.of (by decide +kernel)
theorem D101_7 {g : im_g} : im_D g 101 7 (.putfield 19) 10 := im_D.of (by decide +kernel)
theorem D101_10 {g : im_g} : im_D g 101 10 (.return_) 11 := im_D.of (by decide +kernel)
theorem D102_0 {g : im_g} : im_D g 102 0 (.lload_n 1) 1 := im_D.of (by decide +kernel)
theorem D102_1 {g : im_g} : im_D g 102 1 (.lconst 0) 2 := im_D.of (by decide +kernel)
theorem D102_2 {g : im_g} : im_D g 102 2 (.lcmp) 3 := im_D.of (by decide +kernel)
theorem D102_3 {g : im_g} : im_D g 102 3 (.ifCond .lt 11) 6 := im_D.of (by decide +kernel)
theorem D102_6 {g : im_g} : im_D g 102 6 (.lload_n 1) 7 := im_D.of (by decide +kernel)
theorem D102_7 {g : im_g} : im_D g 102 7 (.ldc2_w 214) 10 := im_D.of (by decide +kernel)
theorem D102_10 {g : im_g} : im_D g 102 10 (.lcmp) 11 := im_D.of (by decide +kernel)
theorem D102_11 {g : im_g} : im_D g 102 11 (.ifCond .lt 6) 14 := im_D.of (by decide +kernel)
theorem D102_14 {g : im_g} : im_D g 102 14 (.bipush (-101)) 16 := im_D.of (by decide +kernel)
theorem D102_16 {g : im_g} : im_D g 102 16 (.ireturn) 17 := im_D.of (by decide +kernel)
theorem D102_17 {g : im_g} : im_D g 102 17 (.aload_n 0) 18 := im_D.of (by decide +kernel)
theorem D102_18 {g : im_g} : im_D g 102 18 (.getfield 55) 21 := im_D.of (by decide +kernel)
theorem D102_21 {g : im_g} : im_D g 102 21 (.lload_n 1) 22 := im_D.of (by decide +kernel)
theorem D102_22 {g : im_g} : im_D g 102 22 (.l2i) 23 := im_D.of (by decide +kernel)
theorem D102_23 {g : im_g} : im_D g 102 23 (.aaload) 24 := im_D.of (by decide +kernel)
theorem D102_24 {g : im_g} : im_D g 102 24 (.astore 8) 26 := im_D.of (by decide +kernel)
theorem D102_26 {g : im_g} : im_D g 102 26 (.aload 8) 28 := im_D.of (by decide +kernel)
theorem D102_28 {g : im_g} : im_D g 102 28 (.getfield 290) 31 := im_D.of (by decide +kernel)
theorem D102_31 {g : im_g} : im_D g 102 31 (.ifCond .ne 6) 34 := im_D.of (by decide +kernel)
theorem D102_34 {g : im_g} : im_D g 102 34 (.bipush (-103)) 36 := im_D.of (by decide +kernel)
theorem D102_36 {g : im_g} : im_D g 102 36 (.ireturn) 37 := im_D.of (by decide +kernel)
theorem D102_37 {g : im_g} : im_D g 102 37 (.aload_n 0) 38 := im_D.of (by decide +kernel)
theorem D102_38 {g : im_g} : im_D g 102 38 (.getfield 16) 41 := im_D.of (by decide +kernel)
theorem D102_41 {g : im_g} : im_D g 102 41 (.aload_n 0) 42 := im_D.of (by decide +kernel)
theorem D102_42 {g : im_g} : im_D g 102 42 (.getfield 16) 45 := im_D.of (by decide +kernel)
theorem D102_45 {g : im_g} : im_D g 102 45 (.aload_n 0) 46 := im_D.of (by decide +kernel)
theorem D102_46 {g : im_g} : im_D g 102 46 (.getfield 9) 49 := im_D.of (by decide +kernel)
theorem D102_49 {g : im_g} : im_D g 102 49 (.iload 7) 51 := im_D.of (by decide +kernel)
theorem D102_51 {g : im_g} : im_D g 102 51 (.aload_n 0) 52 := im_D.of (by decide +kernel)
theorem D102_52 {g : im_g} : im_D g 102 52 (.getfield 77) 55 := im_D.of (by decide +kernel)
theorem D102_55 {g : im_g} : im_D g 102 55 (.invokevirtual 333) 58 := im_D.of (by decide +kernel)
theorem D102_58 {g : im_g} : im_D g 102 58 (.invokevirtual 220) 61 := im_D.of (by decide +kernel)
theorem D102_61 {g : im_g} : im_D g 102 61 (.ifCond .eq 5) 64 := im_D.of (by decide +kernel)
theorem D102_64 {g : im_g} : im_D g 102 64 (.iconst (-1)) 65 := im_D.of (by decide +kernel)
theorem D102_65 {g : im_g} : im_D g 102 65 (.ireturn) 66 := im_D.of (by decide +kernel)
theorem D102_66 {g : im_g} : im_D g 102 66 (.aload_n 0) 67 := im_D.of (by decide +kernel)
theorem D102_67 {g : im_g} : im_D g 102 67 (.getfield 88) 70 := im_D.of (by decide +kernel)
theorem D102_70 {g : im_g} : im_D g 102 70 (.aload 8) 72 := im_D.of (by decide +kernel)
theorem D102_72 {g : im_g} : im_D g 102 72 (.invokevirtual 337) 75 := im_D.of (by decide +kernel)
theorem D102_75 {g : im_g} : im_D g 102 75 (.aload_n 0) 76 := im_D.of (by decide +kernel)
theorem D102_76 {g : im_g} : im_D g 102 76 (.getfield 97) 79 := im_D.of (by decide +kernel)
theorem D102_79 {g : im_g} : im_D g 102 79 (.getfield 340) 82 := im_D.of (by decide +kernel)
theorem D102_82 {g : im_g} : im_D g 102 82 (.aload_n 0) 83 := im_D.of (by decide +kernel)
theorem D102_83 {g : im_g} : im_D g 102 83 (.getfield 68) 86 := im_D.of (by decide +kernel)
theorem D102_86 {g : im_g} : im_D g 102 86 (.invokevirtual 329) 89 := im_D.of (by decide +kernel)
theorem D102_89 {g : im_g} : im_D g 102 89 (.aload_n 0) 90 := im_D.of (by decide +kernel)
theorem D102_90 {g : im_g} : im_D g 102 90 (.getfield 97) 93 := im_D.of (by decide +kernel)
theorem D102_93 {g : im_g} : im_D g 102 93 (.aload_n 0) 94 := im_D.of (by decide +kernel)
theorem D102_94 {g : im_g} : im_D g 102 94 (.getfield 88) 97 := im_D.of (by decide +kernel)
theorem D102_97 {g : im_g} : im_D g 102 97 (.aload 8) 99 := im_D.of (by decide +kernel)
theorem D102_99 {g : im_g} : im_D g 102 99 (.getfield 326) 102 := im_D.of (by decide +kernel)
theorem D102_102 {g : im_g} : im_D g 102 102 (.iconst 0) 103 := im_D.of (by decide +kernel)
theorem D102_103 {g : im_g} : im_D g 102 103 (.invokevirtual 343) 106 := im_D.of (by decide +kernel)
theorem D102_106 {g : im_g} : im_D g 102 106 (.aload_n 0) 107 := im_D.of (by decide +kernel)
theorem D102_107 {g : im_g} : im_D g 102 107 (.getfield 97) 110 := im_D.of (by decide +kernel)
theorem D102_110 {g : im_g} : im_D g 102 110 (.lload_n 3) 111 := im_D.of (by decide +kernel)
theorem D102_111 {g : im_g} : im_D g 102 111 (.lload 5) 113 := im_D.of (by decide +kernel)
theorem D102_113 {g : im_g} : im_D g 102 113 (.aload_n 0) 114 := im_D.of (by decide +kernel)
theorem D102_114 {g : im_g} : im_D g 102 114 (.getfield 77) 117 := im_D.of (by decide +kernel)
theorem D102_117 {g : im_g} : im_D g 102 117 (.iconst 0) 118 := im_D.of (by decide +kernel)
theorem D102_118 {g : im_g} : im_D g 102 118 (.aload_n 0) 119 := im_D.of (by decide +kernel)
theorem D102_119 {g : im_g} : im_D g 102 119 (.getfield 77) 122 := im_D.of (by decide +kernel)
theorem D102_122 {g : im_g} : im_D g 102 122 (.getfield 347) 125 := im_D.of (by decide +kernel)
theorem D102_125 {g : im_g} : im_D g 102 125 (.invokevirtual 348) 128 := im_D.of (by decide +kernel)
theorem D102_128 {g : im_g} : im_D g 102 128 (.istore 9) 130 := im_D.of (by decide +kernel)
theorem D102_130 {g : im_g} : im_D g 102 130 (.iload 9) 132 := im_D.of (by decide +kernel)
theorem D102_132 {g : im_g} : im_D g 102 132 (.ifCond .ne 17) 135 := im_D.of (by decide +kernel)
theorem D102_135 {g : im_g} : im_D g 102 135 (.aload_n 0) 136 := im_D.of (by decide +kernel)
theorem D102_136 {g : im_g} : im_D g 102 136 (.bipush 6) 138 := im_D.of (by decide +kernel)
theorem D102_138 {g : im_g} : im_D g 102 138 (.lload_n 1) 139 := im_D.of (by decide +kernel)
theorem D102_139 {g : im_g} : im_D g 102 139 (.lload_n 3) 140 := im_D.of (by decide +kernel)
theorem D102_140 {g : im_g} : im_D g 102 140 (.lload 5) 142 := im_D.of (by decide +kernel)
theorem D102_142 {g : im_g} : im_D g 102 142 (.iload 7) 144 := im_D.of (by decide +kernel)
theorem D102_144 {g : im_g} : im_D g 102 144 (.invokevirtual 228) 147 := im_D.of (by decide +kernel)
theorem D102_147 {g : im_g} : im_D g 102 147 (.istore 9) 149 := im_D.of (by decide +kernel)
theorem D102_149 {g : im_g} : im_D g 102 149 (.iload 9) 151 := im_D.of (by decide +kernel)
theorem D102_151 {g : im_g} : im_D g 102 151 (.ifCond .ne 54) 154 := im_D.of (by decide +kernel)
theorem D102_154 {g : im_g} : im_D g 102 154 (.aload 8) 156 := im_D.of (by decide +kernel)
theorem D102_156 {g : im_g} : im_D g 102 156 (.aload_n 0) 157 := im_D.of (by decide +kernel)
theorem D102_157 {g : im_g} : im_D g 102 157 (.getfield 88) 160 := im_D.of (by decide +kernel)
theorem D102_160 {g : im_g} : im_D g 102 160 (.invokevirtual 337) 163 := im_D.of (by decide +kernel)
theorem D102_163 {g : im_g} : im_D g 102 163 (.aload_n 0) 164 := im_D.of (by decide +kernel)
theorem D102_164 {g : im_g} : im_D g 102 164 (.getfield 68) 167 := im_D.of (by decide +kernel)
theorem D102_167 {g : im_g} : im_D g 102 167 (.aload_n 0) 168 := im_D.of (by decide +kernel)
theorem D102_168 {g : im_g} : im_D g 102 168 (.getfield 97) 171 := im_D.of (by decide +kernel)
theorem D102_171 {g : im_g} : im_D g 102 171 (.getfield 340) 174 := im_D.of (by decide +kernel)
theorem D102_174 {g : im_g} : im_D g 102 174 (.invokevirtual 329) 177 := im_D.of (by decide +kernel)
theorem D102_177 {g : im_g} : im_D g 102 177 (.aload_n 0) 178 := im_D.of (by decide +kernel)
theorem D102_178 {g : im_g} : im_D g 102 178 (.getfield 81) 181 := im_D.of (by decide +kernel)
theorem D102_181 {g : im_g} : im_D g 102 181 (.aload_n 0) 182 := im_D.of (by decide +kernel)
theorem D102_182 {g : im_g} : im_D g 102 182 (.getfield 97) 185 := im_D.of (by decide +kernel)
theorem D102_185 {g : im_g} : im_D g 102 185 (.getfield 352) 188 := im_D.of (by decide +kernel)
theorem D102_188 {g : im_g} : im_D g 102 188 (.invokevirtual 353) 191 := im_D.of (by decide +kernel)
theorem D102_191 {g : im_g} : im_D g 102 191 (.aload_n 0) 192 := im_D.of (by decide +kernel)
theorem D102_192 {g : im_g} : im_D g 102 192 (.getfield 84) 195 := im_D.of (by decide +kernel)
theorem D102_195 {g : im_g} : im_D g 102 195 (.aload_n 0) 196 := im_D.of (by decide +kernel)
theorem D102_196 {g : im_g} : im_D g 102 196 (.getfield 97) 199 := im_D.of (by decide +kernel)
theorem D102_199 {g : im_g} : im_D g 102 199 (.getfield 356) 202 := im_D.of (by decide +kernel)
theorem D102_202 {g : im_g} : im_D g 102 202 (.invokevirtual 353) 205 := im_D.of (by decide +kernel)
theorem D102_205 {g : im_g} : im_D g 102 205 (.iload 9) 207 := im_D.of (by decide +kernel)
theorem D102_207 {g : im_g} : im_D g 102 207 (.ireturn) 208 := im_D.of (by decide +kernel)
theorem D103_0 {g : im_g} : im_D g 103 0 (.aload_n 0) 1 := im_D.of (by decide +kernel)
theorem D103_1 {g : im_g} : im_D g 103 1 (.aload_n 1) 2 := im_D.of (by decide +kernel)
theorem D103_2 {g : im_g} : im_D g 103 2 (.iload_n 2) 3 := im_D.of (by decide +kernel)
theorem D103_3 {g : im_g} : im_D g 103 3 (.invokevirtual 101) 6 := im_D.of (by decide +kernel)
theorem D103_6 {g : im_g} : im_D g 103 6 (.aload_n 3) 7 := im_D.of (by decide +kernel)
theorem D103_7 {g : im_g} : im_D g 103 7 (.iconst 0) 8 := im_D.of (by decide +kernel)
theorem D103_8 {g : im_g} : im_D g 103 8 (.putfield 108) 11 := im_D.of (by decide +kernel)
theorem D103_11 {g : im_g} : im_D g 103 11 (.ldc 113) 13 := im_D.of (by decide +kernel)
theorem D103_13 {g : im_g} : im_D g 103 13 (.astore 4) 15 := im_D.of (by decide +kernel)
theorem D103_15 {g : im_g} : im_D g 103 15 (.iconst 0) 16 := im_D.of (by decide +kernel)
theorem D103_16 {g : im_g} : im_D g 103 16 (.istore 5) 18 := im_D.of (by decide +kernel)
theorem D103_18 {g : im_g} : im_D g 103 18 (.iconst 0) 19 := im_D.of (by decide +kernel)
theorem D103_19 {g : im_g} : im_D g 103 19 (.istore 6) 21 := im_D.of (by decide +kernel)
theorem D103_21 {g : im_g} : im_D g 103 21 (.iload 6) 23 := im_D.of (by decide +kernel)
theorem D103_23 {g : im_g} : im_D g 103 23 (.aload_n 0) 24 := im_D.of (by decide +kernel)
theorem D103_24 {g : im_g} : im_D g 103 24 (.getfield 54) 27 := im_D.of (by decide +kernel)
theorem D103_27 {g : im_g} : im_D g 103 27 (.if_icmp .gt 123) 30 := im_D.of (by decide +kernel)
theorem D103_30 {g : im_g} : im_D g 103 30 (.aload_n 0) 31 := im_D.of (by decide +kernel)
theorem D103_31 {g : im_g} : im_D g 103 31 (.invokevirtual 98) 34 := im_D.of (by decide +kernel)
theorem D103_34 {g : im_g} : im_D g 103 34 (.aload_n 0) 35 := im_D.of (by decide +kernel)
theorem D103_35 {g : im_g} : im_D g 103 35 (.getfield 63) 38 := im_D.of (by decide +kernel)
theorem D103_38 {g : im_g} : im_D g 103 38 (.ifCond .ge 9) 41 := im_D.of (by decide +kernel)
theorem D103_41 {g : im_g} : im_D g 103 41 (.aload_n 0) 42 := im_D.of (by decide +kernel)
theorem D103_42 {g : im_g} : im_D g 103 42 (.getfield 63) 45 := im_D.of (by decide +kernel)
theorem D103_45 {g : im_g} : im_D g 103 45 (.ineg) 46 := im_D.of (by decide +kernel)
theorem D103_46 {g : im_g} : im_D g 103 46 (.ireturn) 47 := im_D.of (by decide +kernel)
theorem D103_47 {g : im_g} : im_D g 103 47 (.iload 5) 49 := im_D.of (by decide +kernel)
theorem D103_49 {g : im_g} : im_D g 103 49 (.aload 4) 51 := im_D.of (by decide +kernel)
theorem D103_51 {g : im_g} : im_D g 103 51 (.invokevirtual 35) 54 := im_D.of (by decide +kernel)
theorem D103_54 {g : im_g} : im_D g 103 54 (.if_icmp .ge 29) 57 := im_D.of (by decide +kernel)
theorem D103_57 {g : im_g} : im_D g 103 57 (.aload_n 0) 58 := im_D.of (by decide +kernel)
theorem D103_58 {g : im_g} : im_D g 103 58 (.aload_n 3) 59 := im_D.of (by decide +kernel)
theorem D103_59 {g : im_g} : im_D g 103 59 (.aload_n 3) 60 := im_D.of (by decide +kernel)
theorem D103_60 {g : im_g} : im_D g 103 60 (.getfield 108) 63 := im_D.of (by decide +kernel)
theorem D103_63 {g : im_g} : im_D g 103 63 (.iconst 1) 64 := im_D.of (by decide +kernel)
theorem D103_64 {g : im_g} : im_D g 103 64 (.isub) 65 := im_D.of (by decide +kernel)
theorem D103_65 {g : im_g} : im_D g 103 65 (.aload 4) 67 := im_D.of (by decide +kernel)
theorem D103_67 {g : im_g} : im_D g 103 67 (.iload 5) 69 := im_D.of (by decide +kernel)
theorem D103_69 {g : im_g} : im_D g 103 69 (.invokevirtual 41) 72 := im_D.of (by decide +kernel)
theorem D103_72 {g : im_g} : im_D g 103 72 (.invokevirtual 115) 75 := im_D.of (by decide +kernel)
theorem D103_75 {g : im_g} : im_D g 103 75 (.istore 7) 77 := im_D.of (by decide +kernel)
theorem D103_77 {g : im_g} : im_D g 103 77 (.iinc 5 1) 80 := im_D.of (by decide +kernel)
theorem D103_80 {g : im_g} : im_D g 103 80 (.goto 56) 83 := im_D.of (by decide +kernel)
theorem D103_83 {g : im_g} : im_D g 103 83 (.aload_n 0) 84 := im_D.of (by decide +kernel)
theorem D103_84 {g : im_g} : im_D g 103 84 (.getfield 63) 87 := im_D.of (by decide +kernel)
theorem D103_87 {g : im_g} : im_D g 103 87 (.bipush 41) 89 := im_D.of (by decide +kernel)
theorem D103_89 {g : im_g} : im_D g 103 89 (.if_icmp .ne 5) 92 := im_D.of (by decide +kernel)
theorem D103_92 {g : im_g} : im_D g 103 92 (.iconst 0) 93 := im_D.of (by decide +kernel)
theorem D103_93 {g : im_g} : im_D g 103 93 (.ireturn) 94 := im_D.of (by decide +kernel)
theorem D103_94 {g : im_g} : im_D g 103 94 (.aload_n 0) 95 := im_D.of (by decide +kernel)
theorem D103_95 {g : im_g} : im_D g 103 95 (.aload_n 3) 96 := im_D.of (by decide +kernel)
theorem D103_96 {g : im_g} : im_D g 103 96 (.invokevirtual 119) 99 := im_D.of (by decide +kernel)
theorem D103_99 {g : im_g} : im_D g 103 99 (.istore 7) 101 := im_D.of (by decide +kernel)
theorem D103_101 {g : im_g} : im_D g 103 101 (.aload_n 0) 102 := im_D.of (by decide +kernel)
theorem D103_102 {g : im_g} : im_D g 103 102 (.getfield 63) 105 := im_D.of (by decide +kernel)
theorem D103_105 {g : im_g} : im_D g 103 105 (.bipush 28) 107 := im_D.of (by decide +kernel)
theorem D103_107 {g : im_g} : im_D g 103 107 (.if_icmp .ne 8) 110 := im_D.of (by decide +kernel)
theorem D103_110 {g : im_g} : im_D g 103 110 (.ldc 123) 112 := im_D.of (by decide +kernel)
theorem D103_112 {g : im_g} : im_D g 103 112 (.goto 19) 115 := im_D.of (by decide +kernel)
theorem D103_115 {g : im_g} : im_D g 103 115 (.aload_n 0) 116 := im_D.of (by decide +kernel)
theorem D103_116 {g : im_g} : im_D g 103 116 (.getfield 63) 119 := im_D.of (by decide +kernel)
theorem D103_119 {g : im_g} : im_D g 103 119 (.bipush 29) 121 := im_D.of (by decide +kernel)
theorem D103_121 {g : im_g} : im_D g 103 121 (.if_icmp .ne 8) 124 := im_D.of (by decide +kernel)
theorem D103_124 {g : im_g} : im_D g 103 124 (.ldc 125) 126 := im_D.of (by decide +kernel)
theorem D103_126 {g : im_g} : im_D g 103 126 (.goto 5) 129 := im_D.of (by decide +kernel)
theorem D103_129 {g : im_g} : im_D g 103 129 (.ldc 113) 131 := im_D.of (by decide +kernel)
theorem D103_131 {g : im_g} : im_D g 103 131 (.astore 4) 133 := im_D.of (by decide +kernel)
theorem D103_133 {g : im_g} : im_D g 103 133 (.iconst 0) 134 := im_D.of (by decide +kernel)
theorem D103_134 {g : im_g} : im_D g 103 134 (.istore 5) 136 := im_D.of (by decide +kernel)
theorem D103_136 {g : im_g} : im_D g 103 136 (.iload 7) 138 := im_D.of (by decide +kernel)
theorem D103_138 {g : im_g} : im_D g 103 138 (.ifCond .eq 6) 141 := im_D.of (by decide +kernel)
theorem D103_141 {g : im_g} : im_D g 103 141 (.iload 7) 143 := im_D.of (by decide +kernel)
theorem D103_143 {g : im_g} : im_D g 103 143 (.ireturn) 144 := im_D.of (by decide +kernel)
theorem D103_144 {g : im_g} : im_D g 103 144 (.iinc 6 1) 147 := im_D.of (by decide +kernel)
theorem D103_147 {g : im_g} : im_D g 103 147 (.goto (-126)) 150 := im_D.of (by decide +kernel)
theorem D103_150 {g : im_g} : im_D g 103 150 (.iconst 0) 151 := im_D.of (by decide +kernel)
theorem D103_151 {g : im_g} : im_D g 103 151 (.ireturn) 152 := im_D.of (by decide +kernel)
theorem D104_0 {g : im_g} : im_D g 104 0 (.aload_n 0) 1 := im_D.of (by decide +kernel)
theorem D104_1 {g : im_g} : im_D g 104 1 (.getfield 63) 4 := im_D.of (by decide +kernel)
theorem D104_4 {g : im_g} : im_D g 104 4 (.bipush 41) 6 := im_D.of (by decide +kernel)
theorem D104_6 {g : im_g} : im_D g 104 6 (.if_icmp .ne 5) 9 := im_D.of (by decide +kernel)
theorem D104_9 {g : im_g} : im_D g 104 9 (.iconst 3) 10 := im_D.of (by decide +kernel)
theorem D104_10 {g : im_g} : im_D g 104 10 (.ireturn) 11 := im_D.of (by decide +kernel)
theorem D104_11 {g : im_g} : im_D g 104 11 (.aload_n 0) 12 := im_D.of (by decide +kernel)
theorem D104_12 {g : im_g} : im_D g 104 12 (.getfield 63) 15 := im_D.of (by decide +kernel)
theorem D104_15 {g : im_g} : im_D g 104 15 (.iload_n 3) 16 := im_D.of (by decide +kernel)
theorem D104_16 {g : im_g} : im_D g 104 16 (.bipush 110) 18 := im_D.of (by decide +kernel)
theorem D104_18 {g : im_g} : im_D g 104 18 (.if_icmp .ne 8) 21 := im_D.of (by decide +kernel)
theorem D104_21 {g : im_g} : im_D g 104 21 (.bipush 34) 23 := im_D.of (by decide +kernel)
theorem D104_23 {g : im_g} : im_D g 104 23 (.goto 5) 26 := im_D.of (by decide +kernel)
theorem D104_26 {g : im_g} : im_D g 104 26 (.bipush 36) 28 := im_D.of (by decide +kernel)
theorem D104_28 {g : im_g} : im_D g 104 28 (.if_icmp .ne 7) 31 := im_D.of (by decide +kernel)
theorem D104_31 {g : im_g} : im_D g 104 31 (.iload_n 2) 32 := im_D.of (by decide +kernel)
theorem D104_32 {g : im_g} : im_D g 104 32 (.ifCond .ge 5) 35 := im_D.of (by decide +kernel)
theorem D104_35 {g : im_g} : im_D g 104 35 (.iconst 4) 36 := im_D.of (by decide +kernel)
theorem D104_36 {g : im_g} : im_D g 104 36 (.ireturn) 37 := im_D.of (by decide +kernel)
theorem D104_37 {g : im_g} : im_D g 104 37 (.iload_n 3) 38 := im_D.of (by decide +kernel)
theorem D104_38 {g : im_g} : im_D g 104 38 (.tableswitch 65 49 51 #[26, 39, 52]) 39 := im_D.of (by decide +kernel)
theorem D104_64 {g : im_g} : im_D g 104 64 (.aload_n 1) 65 := im_D.of (by decide +kernel)
theorem D104_65 {g : im_g} : im_D g 104 65 (.getfield 131) 68 := im_D.of (by decide +kernel)
theorem D104_68 {g : im_g} : im_D g 104 68 (.iload_n 2) 69 := im_D.of (by decide +kernel)
theorem D104_69 {g : im_g} : im_D g 104 69 (.aload_n 0) 70 := im_D.of (by decide +kernel)
theorem D104_70 {g : im_g} : im_D g 104 70 (.getfield 83) 73 := im_D.of (by decide +kernel)
theorem D104_73 {g : im_g} : im_D g 104 73 (.lastore) 74 := im_D.of (by decide +kernel)
theorem D104_74 {g : im_g} : im_D g 104 74 (.goto 42) 77 := im_D.of (by decide +kernel)
theorem D104_77 {g : im_g} : im_D g 104 77 (.aload_n 1) 78 := im_D.of (by decide +kernel)
theorem D104_78 {g : im_g} : im_D g 104 78 (.getfield 134) 81 := im_D.of (by decide +kernel)
theorem D104_81 {g : im_g} : im_D g 104 81 (.iload_n 2) 82 := im_D.of (by decide +kernel)
theorem D104_82 {g : im_g} : im_D g 104 82 (.aload_n 0) 83 := im_D.of (by decide +kernel)
theorem D104_83 {g : im_g} : im_D g 104 83 (.getfield 83) 86 := im_D.of (by decide +kernel)
theorem D104_86 {g : im_g} : im_D g 104 86 (.lastore) 87 := im_D.of (by decide +kernel)
theorem D104_87 {g : im_g} : im_D g 104 87 (.goto 29) 90 := im_D.of (by decide +kernel)
theorem D104_90 {g : im_g} : im_D g 104 90 (.aload_n 1) 91 := im_D.of (by decide +kernel)
theorem D104_91 {g : im_g} : im_D g 104 91 (.getfield 137) 94 := im_D.of (by decide +kernel)
theorem D104_94 {g : im_g} : im_D g 104 94 (.iload_n 2) 95 := im_D.of (by decide +kernel)
theorem D104_95 {g : im_g} : im_D g 104 95 (.aload_n 0) 96 := im_D.of (by decide +kernel)
theorem D104_96 {g : im_g} : im_D g 104 96 (.getfield 83) 99 := im_D.of (by decide +kernel)
theorem D104_99 {g : im_g} : im_D g 104 99 (.lastore) 100 := im_D.of (by decide +kernel)
theorem D104_100 {g : im_g} : im_D g 104 100 (.goto 16) 103 := im_D.of (by decide +kernel)
theorem D104_103 {g : im_g} : im_D g 104 103 (.aload_n 1) 104 := im_D.of (by decide +kernel)
theorem D104_104 {g : im_g} : im_D g 104 104 (.getfield 140) 107 := im_D.of (by decide +kernel)
theorem D104_107 {g : im_g} : im_D g 104 107 (.iload_n 2) 108 := im_D.of (by decide +kernel)
theorem D104_108 {g : im_g} : im_D g 104 108 (.aaload) 109 := im_D.of (by decide +kernel)
theorem D104_109 {g : im_g} : im_D g 104 109 (.aload_n 0) 110 := im_D.of (by decide +kernel)
theorem D104_110 {g : im_g} : im_D g 104 110 (.getfield 22) 113 := im_D.of (by decide +kernel)
theorem D104_113 {g : im_g} : im_D g 104 113 (.invokevirtual 144) 116 := im_D.of (by decide +kernel)
theorem D104_116 {g : im_g} : im_D g 104 116 (.iconst 0) 117 := im_D.of (by decide +kernel)
theorem D104_117 {g : im_g} : im_D g 104 117 (.ireturn) 118 := im_D.of (by decide +kernel)
theorem D105_0 {g : im_g} : im_D g 105 0 (.aload_n 0) 1 := im_D.of (by decide +kernel)
theorem D105_1 {g : im_g} : im_D g 105 1 (.getfield 63) 4 := im_D.of (by decide +kernel)
theorem D105_4 {g : im_g} : im_D g 105 4 (.bipush 28) 6 := im_D.of (by decide +kernel)
theorem D105_6 {g : im_g} : im_D g 105 6 (.if_icmp .lt 12) 9 := im_D.of (by decide +kernel)
theorem D105_9 {g : im_g} : im_D g 105 9 (.aload_n 0) 10 := im_D.of (by decide +kernel)
theorem D105_10 {g : im_g} : im_D g 105 10 (.getfield 63) 13 := im_D.of (by decide +kernel)
theorem D105_13 {g : im_g} : im_D g 105 13 (.bipush 30) 15 := im_D.of (by decide +kernel)
theorem D105_15 {g : im_g} : im_D g 105 15 (.if_icmp .le 5) 18 := im_D.of (by decide +kernel)
theorem D105_18 {g : im_g} : im_D g 105 18 (.iconst 4) 19 := im_D.of (by decide +kernel)
theorem D105_19 {g : im_g} : im_D g 105 19 (.ireturn) 20 := im_D.of (by decide +kernel)
theorem D105_20 {g : im_g} : im_D g 105 20 (.aload_n 1) 21 := im_D.of (by decide +kernel)
theorem D105_21 {g : im_g} : im_D g 105 21 (.getfield 108) 24 := im_D.of (by decide +kernel)
theorem D105_24 {g : im_g} : im_D g 105 24 (.bipush 40) 26 := im_D.of (by decide +kernel)
theorem D105_26 {g : im_g} : im_D g 105 26 (.if_icmp .lt 6) 29 := im_D.of (by decide +kernel)
theorem D105_29 {g : im_g} : im_D g 105 29 (.bipush 9) 31 := im_D.of (by decide +kernel)
theorem D105_31 {g : im_g} : im_D g 105 31 (.ireturn) 32 := im_D.of (by decide +kernel)
theorem D105_32 {g : im_g} : im_D g 105 32 (.aload_n 1) 33 := im_D.of (by decide +kernel)
theorem D105_33 {g : im_g} : im_D g 105 33 (.aload_n 1) 34 := im_D.of (by decide +kernel)
theorem D105_34 {g : im_g} : im_D g 105 34 (.getfield 108) 37 := im_D.of (by decide +kernel)
theorem D105_37 {g : im_g} : im_D g 105 37 (.aload_n 0) 38 := im_D.of (by decide +kernel)
theorem D105_38 {g : im_g} : im_D g 105 38 (.getfield 63) 41 := im_D.of (by decide +kernel)
theorem D105_41 {g : im_g} : im_D g 105 41 (.lconst 0) 42 := im_D.of (by decide +kernel)
theorem D105_42 {g : im_g} : im_D g 105 42 (.lconst 0) 43 := im_D.of (by decide +kernel)
theorem D105_43 {g : im_g} : im_D g 105 43 (.lconst 0) 44 := im_D.of (by decide +kernel)
theorem D105_44 {g : im_g} : im_D g 105 44 (.invokevirtual 127) 47 := im_D.of (by decide +kernel)
theorem D105_47 {g : im_g} : im_D g 105 47 (.aload_n 1) 48 := im_D.of (by decide +kernel)
theorem D105_48 {g : im_g} : im_D g 105 48 (.dup) 49 := im_D.of (by decide +kernel)
theorem D105_49 {g : im_g} : im_D g 105 49 (.getfield 108) 52 := im_D.of (by decide +kernel)
theorem D105_52 {g : im_g} : im_D g 105 52 (.iconst 1) 53 := im_D.of (by decide +kernel)
theorem D105_53 {g : im_g} : im_D g 105 53 (.iadd) 54 := im_D.of (by decide +kernel)
theorem D105_54 {g : im_g} : im_D g 105 54 (.putfield 108) 57 := im_D.of (by decide +kernel)
theorem D105_57 {g : im_g} : im_D g 105 57 (.iconst 0) 58 := im_D.of (by decide +kernel)
theorem D105_58 {g : im_g} : im_D g 105 58 (.ireturn) 59 := im_D.of (by decide +kernel)
theorem D106_0 {g : im_g} : im_D g 106 0 (.iload_n 1) 1 := im_D.of (by decide +kernel)
theorem D106_1 {g : im_g} : im_D g 106 1 (.ifCond .lt 12) 4 := im_D.of (by decide +kernel)
theorem D106_4 {g : im_g} : im_D g 106 4 (.iload_n 1) 5 := im_D.of (by decide +kernel)
theorem D106_5 {g : im_g} : im_D g 106 5 (.aload_n 0) 6 := im_D.of (by decide +kernel)
theorem D106_6 {g : im_g} : im_D g 106 6 (.getfield 25) 9 := im_D.of (by decide +kernel)
theorem D106_9 {g : im_g} : im_D g 106 9 (.arraylength) 10 := im_D.of (by decide +kernel)
theorem D106_10 {g : im_g} : im_D g 106 10 (.if_icmp .lt 4) 13 := im_D.of (by decide +kernel)
theorem D106_13 {g : im_g} : im_D g 106 13 (.return_) 14 := im_D.of (by decide +kernel)
theorem D106_14 {g : im_g} : im_D g 106 14 (.aload_n 0) 15 := im_D.of (by decide +kernel)
theorem D106_15 {g : im_g} : im_D g 106 15 (.getfield 7) 18 := im_D.of (by decide +kernel)
theorem D106_18 {g : im_g} : im_D g 106 18 (.iload_n 1) 19 := im_D.of (by decide +kernel)
theorem D106_19 {g : im_g} : im_D g 106 19 (.iload_n 2) 20 := im_D.of (by decide +kernel)
theorem D106_20 {g : im_g} : im_D g 106 20 (.iastore) 21 := im_D.of (by decide +kernel)
theorem D106_21 {g : im_g} : im_D g 106 21 (.aload_n 0) 22 := im_D.of (by decide +kernel)
theorem D106_22 {g : im_g} : im_D g 106 22 (.getfield 13) 25 := im_D.of (by decide +kernel)
theorem D106_25 {g : im_g} : im_D g 106 25 (.iload_n 1) 26 := im_D.of (by decide +kernel)
theorem D106_26 {g : im_g} : im_D g 106 26 (.lload_n 3) 27 := im_D.of (by decide +kernel)
theorem D106_27 {g : im_g} : im_D g 106 27 (.lastore) 28 := im_D.of (by decide +kernel)
theorem D106_28 {g : im_g} : im_D g 106 28 (.aload_n 0) 29 := im_D.of (by decide +kernel)
theorem D106_29 {g : im_g} : im_D g 106 29 (.getfield 17) 32 := im_D.of (by decide +kernel)
theorem D106_32 {g : im_g} : im_D g 106 32 (.iload_n 1) 33 := im_D.of (by decide +kernel)
theorem D106_33 {g : im_g} : im_D g 106 33 (.lload 5) 35 := im_D.of (by decide +kernel)
theorem D106_35 {g : im_g} : im_D g 106 35 (.lastore) 36 := im_D.of (by decide +kernel)
theorem D106_36 {g : im_g} : im_D g 106 36 (.aload_n 0) 37 := im_D.of (by decide +kernel)
theorem D106_37 {g : im_g} : im_D g 106 37 (.getfield 20) 40 := im_D.of (by decide +kernel)
theorem D106_40 {g : im_g} : im_D g 106 40 (.iload_n 1) 41 := im_D.of (by decide +kernel)
theorem D106_41 {g : im_g} : im_D g 106 41 (.lload 7) 43 := im_D.of (by decide +kernel)
theorem D106_43 {g : im_g} : im_D g 106 43 (.lastore) 44 := im_D.of (by decide +kernel)
theorem D106_44 {g : im_g} : im_D g 106 44 (.return_) 45 := im_D.of (by decide +kernel)
theorem D107_0 {g : im_g} : im_D g 107 0 (.aload_n 0) 1 := im_D.of (by decide +kernel)
theorem D107_1 {g : im_g} : im_D g 107 1 (.getfield 14) 4 := im_D.of (by decide +kernel)
theorem D107_4 {g : im_g} : im_D g 107 4 (.aload_n 1) 5 := im_D.of (by decide +kernel)
theorem D107_5 {g : im_g} : im_D g 107 5 (.getfield 14) 8 := im_D.of (by decide +kernel)
theorem D107_8 {g : im_g} : im_D g 107 8 (.invokevirtual 44) 11 := im_D.of (by decide +kernel)
theorem D107_11 {g : im_g} : im_D g 107 11 (.aload_n 0) 12 := im_D.of (by decide +kernel)
theorem D107_12 {g : im_g} : im_D g 107 12 (.getfield 20) 15 := im_D.of (by decide +kernel)
theorem D107_15 {g : im_g} : im_D g 107 15 (.aload_n 1) 16 := im_D.of (by decide +kernel)
theorem D107_16 {g : im_g} : im_D g 107 16 (.getfield 20) 19 := im_D.of (by decide +kernel)
theorem D107_19 {g : im_g} : im_D g 107 19 (.invokevirtual 44) 22 := im_D.of (by decide +kernel)
theorem D107_22 {g : im_g} : im_D g 107 22 (.aload_n 0) 23 := im_D.of (by decide +kernel)
theorem D107_23 {g : im_g} : im_D g 107 23 (.getfield 23) 26 := im_D.of (by decide +kernel)
theorem D107_26 {g : im_g} : im_D g 107 26 (.aload_n 1) 27 := im_D.of (by decide +kernel)
theorem D107_27 {g : im_g} : im_D g 107 27 (.getfield 23) 30 := im_D.of (by decide +kernel)
theorem D107_30 {g : im_g} : im_D g 107 30 (.invokevirtual 44) 33 := im_D.of (by decide +kernel)
theorem D107_33 {g : im_g} : im_D g 107 33 (.aload_n 0) 34 := im_D.of (by decide +kernel)
theorem D107_34 {g : im_g} : im_D g 107 34 (.aload_n 1) 35 := im_D.of (by decide +kernel)
theorem D107_35 {g : im_g} : im_D g 107 35 (.getfield 33) 38 := im_D.of (by decide +kernel)
theorem D107_38 {g : im_g} : im_D g 107 38 (.putfield 33) 41 := im_D.of (by decide +kernel)
theorem D107_41 {g : im_g} : im_D g 107 41 (.aload_n 0) 42 := im_D.of (by decide +kernel)
theorem D107_42 {g : im_g} : im_D g 107 42 (.aload_n 1) 43 := im_D.of (by decide +kernel)
theorem D107_43 {g : im_g} : im_D g 107 43 (.getfield 37) 46 := im_D.of (by decide +kernel)
theorem D107_46 {g : im_g} : im_D g 107 46 (.putfield 37) 49 := im_D.of (by decide +kernel)
theorem D107_49 {g : im_g} : im_D g 107 49 (.return_) 50 := im_D.of (by decide +kernel)
theorem D108_0 {g : im_g} : im_D g 108 0 (.aload_n 0) 1 := im_D.of (by decide +kernel)
theorem D108_1 {g : im_g} : im_D g 108 1 (.aload_n 1) 2 := im_D.of (by decide +kernel)
theorem D108_2 {g : im_g} : im_D g 108 2 (.putfield 31) 5 := im_D.of (by decide +kernel)
theorem D108_5 {g : im_g} : im_D g 108 5 (.aload_n 0) 6 := im_D.of (by decide +kernel)
theorem D108_6 {g : im_g} : im_D g 108 6 (.aload_n 2) 7 := im_D.of (by decide +kernel)
theorem D108_7 {g : im_g} : im_D g 108 7 (.putfield 38) 10 := im_D.of (by decide +kernel)
theorem D108_10 {g : im_g} : im_D g 108 10 (.aload_n 0) 11 := im_D.of (by decide +kernel)
theorem D108_11 {g : im_g} : im_D g 108 11 (.iload_n 3) 12 := im_D.of (by decide +kernel)
theorem D108_12 {g : im_g} : im_D g 108 12 (.putfield 59) 15 := im_D.of (by decide +kernel)
theorem D108_15 {g : im_g} : im_D g 108 15 (.return_) 16 := im_D.of (by decide +kernel)
theorem D109_0 {g : im_g} : im_D g 109 0 (.aload_n 0) 1 := im_D.of (by decide +kernel)
theorem D109_1 {g : im_g} : im_D g 109 1 (.getfield 48) 4 := im_D.of (by decide +kernel)
theorem D109_4 {g : im_g} : im_D g 109 4 (.iconst 0) 5 := im_D.of (by decide +kernel)
theorem D109_5 {g : im_g} : im_D g 109 5 (.putfield 162) 8 := im_D.of (by decide +kernel)
theorem D109_8 {g : im_g} : im_D g 109 8 (.aload_n 0) 9 := im_D.of (by decide +kernel)
theorem D109_9 {g : im_g} : im_D g 109 9 (.getfield 52) 12 := im_D.of (by decide +kernel)
theorem D109_12 {g : im_g} : im_D g 109 12 (.iconst 0) 13 := im_D.of (by decide +kernel)
theorem D109_13 {g : im_g} : im_D g 109 13 (.putfield 162) 16 := im_D.of (by decide +kernel)
theorem D109_16 {g : im_g} : im_D g 109 16 (.lload_n 1) 17 := im_D.of (by decide +kernel)
theorem D109_17 {g : im_g} : im_D g 109 17 (.lload_n 3) 18 := im_D.of (by decide +kernel)
theorem D109_18 {g : im_g} : im_D g 109 18 (.lcmp) 19 := im_D.of (by decide +kernel)
theorem D109_19 {g : im_g} : im_D g 109 19 (.ifCond .gt 17) 22 := im_D.of (by decide +kernel)
theorem D109_22 {g : im_g} : im_D g 109 22 (.lload_n 1) 23 := im_D.of (by decide +kernel)
theorem D109_23 {g : im_g} : im_D g 109 23 (.lconst 0) 24 := im_D.of (by decide +kernel)
theorem D109_24 {g : im_g} : im_D g 109 24 (.lcmp) 25 := im_D.of (by decide +kernel)
theorem D109_25 {g : im_g} : im_D g 109 25 (.ifCond .lt 11) 28 := im_D.of (by decide +kernel)
theorem D109_28 {g : im_g} : im_D g 109 28 (.lload_n 3) 29 := im_D.of (by decide +kernel)
theorem D109_29 {g : im_g} : im_D g 109 29 (.ldc2_w 165) 32 := im_D.of (by decide +kernel)
theorem D109_32 {g : im_g} : im_D g 109 32 (.lcmp) 33 := im_D.of (by decide +kernel)
theorem D109_33 {g : im_g} : im_D g 109 33 (.ifCond .le 6) 36 := im_D.of (by decide +kernel)
theorem D109_36 {g : im_g} : im_D g 109 36 (.bipush (-2)) 38 := im_D.of (by decide +kernel)
theorem D109_38 {g : im_g} : im_D g 109 38 (.ireturn) 39 := im_D.of (by decide +kernel)
theorem D109_39 {g : im_g} : im_D g 109 39 (.lload_n 3) 40 := im_D.of (by decide +kernel)
theorem D109_40 {g : im_g} : im_D g 109 40 (.aload_n 0) 41 := im_D.of (by decide +kernel)
theorem D109_41 {g : im_g} : im_D g 109 41 (.getfield 31) 44 := im_D.of (by decide +kernel)
theorem D109_44 {g : im_g} : im_D g 109 44 (.getfield 167) 47 := im_D.of (by decide +kernel)
theorem D109_47 {g : im_g} : im_D g 109 47 (.lcmp) 48 := im_D.of (by decide +kernel)
theorem D109_48 {g : im_g} : im_D g 109 48 (.ifCond .ge 6) 51 := im_D.of (by decide +kernel)
theorem D109_51 {g : im_g} : im_D g 109 51 (.bipush (-3)) 53 := im_D.of (by decide +kernel)
theorem D109_53 {g : im_g} : im_D g 109 53 (.ireturn) 54 := im_D.of (by decide +kernel)
theorem D109_54 {g : im_g} : im_D g 109 54 (.aload_n 0) 55 := im_D.of (by decide +kernel)
theorem D109_55 {g : im_g} : im_D g 109 55 (.lload_n 1) 56 := im_D.of (by decide +kernel)
theorem D109_56 {g : im_g} : im_D g 109 56 (.aload_n 0) 57 := im_D.of (by decide +kernel)
theorem D109_57 {g : im_g} : im_D g 109 57 (.getfield 31) 60 := im_D.of (by decide +kernel)
theorem D109_60 {g : im_g} : im_D g 109 60 (.getfield 167) 63 := im_D.of (by decide +kernel)
theorem D109_63 {g : im_g} : im_D g 109 63 (.invokestatic 170) 66 := im_D.of (by decide +kernel)
theorem D109_66 {g : im_g} : im_D g 109 66 (.lload_n 3) 67 := im_D.of (by decide +kernel)
theorem D109_67 {g : im_g} : im_D g 109 67 (.invokevirtual 176) 70 := im_D.of (by decide +kernel)
theorem D109_70 {g : im_g} : im_D g 109 70 (.aload_n 0) 71 := im_D.of (by decide +kernel)
theorem D109_71 {g : im_g} : im_D g 109 71 (.iconst 0) 72 := im_D.of (by decide +kernel)
theorem D109_72 {g : im_g} : im_D g 109 72 (.putfield 180) 75 := im_D.of (by decide +kernel)
theorem D109_75 {g : im_g} : im_D g 109 75 (.aload_n 0) 76 := im_D.of (by decide +kernel)
theorem D109_76 {g : im_g} : im_D g 109 76 (.getfield 31) 79 := im_D.of (by decide +kernel)
theorem D109_79 {g : im_g} : im_D g 109 79 (.getfield 183) 82 := im_D.of (by decide +kernel)
theorem D109_82 {g : im_g} : im_D g 109 82 (.istore 8) 84 := im_D.of (by decide +kernel)
theorem D109_84 {g : im_g} : im_D g 109 84 (.aload_n 0) 85 := im_D.of (by decide +kernel)
theorem D109_85 {g : im_g} : im_D g 109 85 (.invokevirtual 186) 88 := im_D.of (by decide +kernel)
theorem D109_88 {g : im_g} : im_D g 109 88 (.istore 9) 90 := im_D.of (by decide +kernel)
theorem D109_90 {g : im_g} : im_D g 109 90 (.iload 6) 92 := im_D.of (by decide +kernel)
theorem D109_92 {g : im_g} : im_D g 109 92 (.istore 10) 94 := im_D.of (by decide +kernel)
theorem D109_94 {g : im_g} : im_D g 109 94 (.iload 10) 96 := im_D.of (by decide +kernel)
theorem D109_96 {g : im_g} : im_D g 109 96 (.iload 6) 98 := im_D.of (by decide +kernel)
theorem D109_98 {g : im_g} : im_D g 109 98 (.iload 7) 100 := im_D.of (by decide +kernel)
theorem D109_100 {g : im_g} : im_D g 109 100 (.iadd) 101 := im_D.of (by decide +kernel)
theorem D109_101 {g : im_g} : im_D g 109 101 (.if_icmp .ge 35) 104 := im_D.of (by decide +kernel)
theorem D109_104 {g : im_g} : im_D g 109 104 (.iload 9) 106 := im_D.of (by decide +kernel)
theorem D109_106 {g : im_g} : im_D g 109 106 (.ifCond .ne 30) 109 := im_D.of (by decide +kernel)
theorem D109_109 {g : im_g} : im_D g 109 109 (.aload_n 0) 110 := im_D.of (by decide +kernel)
theorem D109_110 {g : im_g} : im_D g 109 110 (.aload 5) 112 := im_D.of (by decide +kernel)
theorem D109_112 {g : im_g} : im_D g 109 112 (.iload 10) 114 := im_D.of (by decide +kernel)
theorem D109_114 {g : im_g} : im_D g 109 114 (.invokevirtual 190) 117 := im_D.of (by decide +kernel)
theorem D109_117 {g : im_g} : im_D g 109 117 (.istore 9) 119 := im_D.of (by decide +kernel)
theorem D109_119 {g : im_g} : im_D g 109 119 (.iload 9) 121 := im_D.of (by decide +kernel)
theorem D109_121 {g : im_g} : im_D g 109 121 (.ifCond .ne 9) 124 := im_D.of (by decide +kernel)
theorem D109_124 {g : im_g} : im_D g 109 124 (.aload_n 0) 125 := im_D.of (by decide +kernel)
theorem D109_125 {g : im_g} : im_D g 109 125 (.invokevirtual 186) 128 := im_D.of (by decide +kernel)
theorem D109_128 {g : im_g} : im_D g 109 128 (.istore 9) 130 := im_D.of (by decide +kernel)
theorem D109_130 {g : im_g} : im_D g 109 130 (.iinc 10 1) 133 := im_D.of (by decide +kernel)
theorem D109_133 {g : im_g} : im_D g 109 133 (.goto (-39)) 136 := im_D.of (by decide +kernel)
theorem D109_136 {g : im_g} : im_D g 109 136 (.iload 9) 138 := im_D.of (by decide +kernel)
theorem D109_138 {g : im_g} : im_D g 109 138 (.ifCond .ne 31) 141 := im_D.of (by decide +kernel)
theorem D109_141 {g : im_g} : im_D g 109 141 (.iload 7) 143 := im_D.of (by decide +kernel)
theorem D109_143 {g : im_g} : im_D g 109 143 (.ifCond .ne 26) 146 := im_D.of (by decide +kernel)
theorem D109_146 {g : im_g} : im_D g 109 146 (.aload_n 0) 147 := im_D.of (by decide +kernel)
theorem D109_147 {g : im_g} : im_D g 109 147 (.getfield 31) 150 := im_D.of (by decide +kernel)
theorem D109_150 {g : im_g} : im_D g 109 150 (.getfield 183) 153 := im_D.of (by decide +kernel)
theorem D109_153 {g : im_g} : im_D g 109 153 (.iload 8) 155 := im_D.of (by decide +kernel)
theorem D109_155 {g : im_g} : im_D g 109 155 (.if_icmp .ne 14) 158 := im_D.of (by decide +kernel)
theorem D109_158 {g : im_g} : im_D g 109 158 (.aload_n 0) 159 := im_D.of (by decide +kernel)
theorem D109_159 {g : im_g} : im_D g 109 159 (.getfield 180) 162 := im_D.of (by decide +kernel)
theorem D109_162 {g : im_g} : im_D g 109 162 (.ifCond .ne 7) 165 := im_D.of (by decide +kernel)
theorem D109_165 {g : im_g} : im_D g 109 165 (.bipush (-6)) 167 := im_D.of (by decide +kernel)
theorem D109_167 {g : im_g} : im_D g 109 167 (.istore 9) 169 := im_D.of (by decide +kernel)
theorem D109_169 {g : im_g} : im_D g 109 169 (.iload 9) 171 := im_D.of (by decide +kernel)
theorem D109_171 {g : im_g} : im_D g 109 171 (.ifCond .ne 14) 174 := im_D.of (by decide +kernel)
theorem D109_174 {g : im_g} : im_D g 109 174 (.aload_n 0) 175 := im_D.of (by decide +kernel)
theorem D109_175 {g : im_g} : im_D g 109 175 (.getfield 31) 178 := im_D.of (by decide +kernel)
theorem D109_178 {g : im_g} : im_D g 109 178 (.aload_n 0) 179 := im_D.of (by decide +kernel)
theorem D109_179 {g : im_g} : im_D g 109 179 (.getfield 79) 182 := im_D.of (by decide +kernel)
theorem D109_182 {g : im_g} : im_D g 109 182 (.putfield 167) 185 := im_D.of (by decide +kernel)
theorem D109_185 {g : im_g} : im_D g 109 185 (.iload 9) 187 := im_D.of (by decide +kernel)
theorem D109_187 {g : im_g} : im_D g 109 187 (.ireturn) 188 := im_D.of (by decide +kernel)
theorem D110_0 {g : im_g} : im_D g 110 0 (.aload_n 0) 1 := im_D.of (by decide +kernel)
theorem D110_1 {g : im_g} : im_D g 110 1 (.lload_n 1) 2 := im_D.of (by decide +kernel)
theorem D110_2 {g : im_g} : im_D g 110 2 (.putfield 79) 5 := im_D.of (by decide +kernel)
theorem D110_5 {g : im_g} : im_D g 110 5 (.aload_n 0) 6 := im_D.of (by decide +kernel)
theorem D110_6 {g : im_g} : im_D g 110 6 (.lload_n 3) 7 := im_D.of (by decide +kernel)
theorem D110_7 {g : im_g} : im_D g 110 7 (.putfield 83) 10 := im_D.of (by decide +kernel)
theorem D110_10 {g : im_g} : im_D g 110 10 (.aload_n 0) 11 := im_D.of (by decide +kernel)
theorem D110_11 {g : im_g} : im_D g 110 11 (.iconst 0) 12 := im_D.of (by decide +kernel)
theorem D110_12 {g : im_g} : im_D g 110 12 (.putfield 86) 15 := im_D.of (by decide +kernel)
theorem D110_15 {g : im_g} : im_D g 110 15 (.return_) 16 := im_D.of (by decide +kernel)
set_option maxRecDepth 20000 in
set_option maxHeartbeats 4000000 in
theorem k_Reader_numberText_0 {g : im_g} {d : Nat} {e : im_E} {M : im_M} {K : im_K} {p2 : Int} {p1 n1 : Nat} (hs1 : (im_sh0 ++ e)[p1]? = some (0, n1, [])) (hn1 : n1 ≤ 2147483647) (hd : 1 ≤ d) (hP : im_T g (d - 1) 38 0 [some (.ref 2), some (.ref p1), some (vI p2)] [] e M (im_r0 (fun  e_ M1 => e = e_ ∧ im_T g (d - 1) 40 0 [some (.ref 2), none] [] e M1 (im_r0 (fun  e_ M2 => e = e_ ∧ ((((0 ≤ (M2 2 4) → (((M2 2 4) = 34 → im_T g (d - 1) 74 0 [some (.ref 2)] [] e M2 (im_ri (fun x15 e_ M14 => e = e_ ∧ K (.inl (some (vI x15))) e M14))))) ∧ ((M2 2 4) < 0 → K (.inl (some (vI (-(M2 2 4))))) e M2))) ∧ (∀ x10 : Int, (((0 ≤ (M2 2 4)) ∧ (¬ (M2 2 4) = 34) ∧ (¬ (M2 2 4) = 41) ∧ x10 = 4) ∨ ((0 ≤ (M2 2 4)) ∧ (¬ (M2 2 4) = 34) ∧ ((M2 2 4) = 41) ∧ x10 = 3)) → K (.inl (some (vI x10))) e M2))))))) : im_T g d 96 0 [some (.ref 2), some (.ref p1), some (vI p2)] [] e M K := by
  refine im_ld (q := 1) (i := 0) D96_0 rfl rfl rfl ?_
  refine im_ld (q := 2) (i := 1) D96_1 rfl rfl rfl ?_
  refine im_ld (q := 3) (i := 2) D96_2 rfl rfl rfl ?_
  refine im_callV (q := 6) (kd := 1) (y := 38) (n := 2) (ci := 6) (a := 2) (vs := [.ref 2, .ref p1, vI p2]) (r := []) (L2 := [some (.ref 2), some (.ref p1), some (vI p2)]) D96_3 (im_cal cn_96 cl_6_101) (Or.inl rfl) rfl sf_2 rfl rfl rfl rfl hd ⟨rfl, rfl, rfl, trivial⟩ ?_
  refine hP.mono ?_
  rintro _ e18 M1 ⟨rfl, rfl, hP⟩
  refine im_bkN ?_
  refine im_ld (q := 7) (i := 0) D96_6 rfl rfl rfl ?_
  refine im_callV (q := 10) (kd := 1) (y := 40) (n := 0) (ci := 6) (a := 2) (vs := [.ref 2]) (r := []) (L2 := [some (.ref 2), none]) D96_7 (im_cal cn_96 cl_6_98) (Or.inl rfl) rfl sf_2 rfl rfl rfl rfl hd ⟨rfl, trivial⟩ ?_
  refine hP.mono ?_
  rintro _ e17 M2 ⟨rfl, rfl, hP⟩
  refine im_bkN ?_
  refine im_ld (q := 11) (i := 0) D96_10 rfl rfl rfl ?_
  refine im_rng (j := 4) sf_2 (by decide) (by decide) (fun hr3 => ?_)
  refine im_gfI (q := 14) D96_11 (im_fl cn_96 fl_6_63) sf_2 rfl rfl tI_6_4 rfl ?_
  obtain ⟨hP, hJ11⟩ := hP
  have kJ12 : ∀ x10 : Int, (((0 ≤ (M2 2 4)) ∧ (¬ (M2 2 4) = 34) ∧ (¬ (M2 2 4) = 41) ∧ x10 = 4) ∨ ((0 ≤ (M2 2 4)) ∧ (¬ (M2 2 4) = 34) ∧ ((M2 2 4) = 41) ∧ x10 = 3)) → im_T g d 96 46 [none, none, none] [vI x10] e M2 K := by
    intro x10 hx13
    have hP := hJ11 x10 hx13
    exact im_iret (q := 47) D96_46 rfl hP
  refine im_ifc (q := 17) (t := 23) D96_14 rfl hr3 (fun hc4 => ?_) (fun hc4 => ?_)
  · replace hP := hP.1 hc4
    refine im_ld (q := 24) (i := 0) D96_23 rfl rfl rfl ?_
    refine im_gfI (q := 27) D96_24 (im_fl cn_96 fl_6_63) sf_2 rfl rfl tI_6_4 rfl ?_
    refine im_bipush (q := 29) D96_27 rfl ?_
    refine im_icmp (q := 32) (t := 47) D96_29 rfl hr3 (by decide) (fun hc6 => ?_) (fun hc6 => ?_)
    · replace hP := hP hc6
      refine im_ld (q := 48) (i := 0) D96_47 rfl rfl rfl ?_
      refine im_callV (q := 51) (kd := 1) (y := 74) (n := 0) (ci := 6) (a := 2) (vs := [.ref 2]) (r := []) (L2 := [some (.ref 2)]) D96_48 (im_cal cn_96 cl_6_105) (Or.inl rfl) rfl sf_2 rfl rfl rfl rfl hd ⟨rfl, trivial⟩ ?_
      refine hP.mono ?_
      rintro _ e16 M14 ⟨x15, rfl, rfl, hP⟩
      refine im_bkS ?_
      exact im_iret (q := 52) D96_51 rfl hP
    · refine im_ld (q := 33) (i := 0) D96_32 rfl rfl rfl ?_
      refine im_gfI (q := 36) D96_33 (im_fl cn_96 fl_6_63) sf_2 rfl rfl tI_6_4 rfl ?_
      refine im_bipush (q := 38) D96_36 rfl ?_
      refine im_icmp (q := 41) (t := 45) D96_38 rfl hr3 (by decide) (fun hc8 => ?_) (fun hc8 => ?_)
      · refine im_iconst (q := 46) D96_45 ?_
        exact (kJ12 (4) (Or.inl ⟨hc4, hc6, hc8, rfl⟩)).wk trivial
      · refine im_iconst (q := 42) D96_41 ?_
        refine im_goto (q := 45) (t := 46) D96_42 rfl ?_
        exact (kJ12 (3) (Or.inr ⟨hc4, hc6, (Decidable.not_not.mp hc8), rfl⟩)).wk trivial
  · replace hP := hP.2 (Int.not_le.mp hc4)
    refine im_ld (q := 18) (i := 0) D96_17 rfl rfl rfl ?_
    refine im_gfI (q := 21) D96_18 (im_fl cn_96 fl_6_63) sf_2 rfl rfl tI_6_4 rfl ?_
    refine im_ineg (q := 22) D96_21 ?_
    exact im_iret (q := 23) D96_22 rfl hP
set_option maxRecDepth 20000 in
set_option maxHeartbeats 4000000 in
theorem k_Num_grow_0 {g : im_g} {d : Nat} {e : im_E} {M : im_M} {K : im_K} {a0 : Nat} (ha0 : im_num e a0) {p1 : Nat} (hp1 : im_num e p1) (hP : im_T g d 97 17 [some (.ref a0), some (.ref p1), some (vI (max (M a0 1) (M p1 1))), some (vI 0), some (vI 0), none] [] e M K) : im_T g d 97 0 [some (.ref a0), some (.ref p1), none, none, none, none] [] e M K := by
  refine im_ld (q := 1) (i := 0) D97_0 rfl rfl rfl ?_
  refine im_rng (j := 1) ha0.1 (by decide) (show (1 : Int) < ((3 : Nat) : Int) by decide) (fun hr1 => ?_)
  refine im_gfI (q := 4) D97_1 (im_fl cn_97 fl_3_19) ha0.1 rfl rfl tI_3_1 rfl ?_
  refine im_ld (q := 5) (i := 1) D97_4 rfl rfl rfl ?_
  refine im_rng (j := 1) hp1.1 (by decide) (show (1 : Int) < ((3 : Nat) : Int) by decide) (fun hr2 => ?_)
  refine im_gfI (q := 8) D97_5 (im_fl cn_97 fl_3_19) hp1.1 rfl rfl tI_3_1 rfl ?_
  refine im_imax (q := 11) D97_8 rfl hr1 hr2 rfl ?_
  refine im_st1 (q := 12) (i := 2) (L' := [some (.ref a0), some (.ref p1), some (vI (max (M a0 1) (M p1 1))), none, none, none]) D97_11 (Or.inl ⟨_, rfl, rfl⟩) (Nat.le_of_ble_eq_true rfl) rfl ?_
  refine im_iconst (q := 13) D97_12 ?_
  refine im_st1 (q := 14) (i := 3) (L' := [some (.ref a0), some (.ref p1), some (vI (max (M a0 1) (M p1 1))), some (vI 0), none, none]) D97_13 (Or.inl ⟨_, rfl, rfl⟩) (Nat.le_of_ble_eq_true rfl) rfl ?_
  refine im_iconst (q := 15) D97_14 ?_
  refine im_st1 (q := 17) (i := 4) (L' := [some (.ref a0), some (.ref p1), some (vI (max (M a0 1) (M p1 1))), some (vI 0), some (vI 0), none]) D97_15 (Or.inr rfl) (Nat.le_of_ble_eq_true rfl) rfl ?_
  exact hP.wk ⟨rfl, rfl, rfl, rfl, rfl, trivial⟩
set_option maxRecDepth 20000 in
set_option maxHeartbeats 4000000 in
theorem k_Num_grow_17 {g : im_g} {d : Nat} {e : im_E} {M : im_M} {K : im_K} {p2 p3 p4 : Int} {a0 : Nat} (ha0 : im_num e a0) {p1 : Nat} (hp1 : im_num e p1) (hd : 1 ≤ d) (hP : (im_i32 p4) ∧ (im_i32 p2) ∧ ((((p2 ≤ p4 → (im_i32 p3) ∧ ((((0 < p3 → ((p2 < 34 → (0 ≤ p2 ∧ p2 < 34) ∧ (im_i32 (((im_u (im_u M a0 1 p2) (a0 + 1) p2 p3) a0 1) + 1)) ∧ ((∀ x56 : Int, (((¬ ((im_u (im_u M a0 1 p2) (a0 + 1) p2 p3) a0 0) = 0) ∧ x56 = ((im_u (im_u M a0 1 p2) (a0 + 1) p2 p3) a0 0)) ∨ ((((im_u (im_u M a0 1 p2) (a0 + 1) p2 p3) a0 0) = 0) ∧ x56 = ((im_u (im_u (im_u M a0 1 p2) (a0 + 1) p2 p3) a0 1 (((im_u (im_u M a0 1 p2) (a0 + 1) p2 p3) a0 1) + 1)) p1 0))) → (im_i32 x56) ∧ im_T g (d - 1) 98 0 [some (.ref a0), none] [] e (im_u (im_u (im_u (im_u M a0 1 p2) (a0 + 1) p2 p3) a0 1 (((im_u (im_u M a0 1 p2) (a0 + 1) p2 p3) a0 1) + 1)) a0 0 x56) (im_ri (fun x62 e_ M61 => e = e_ ∧ (0 ≤ x62 ∧ x62 ≤ 1) ∧ K (.inl (some (vI x62))) e M61))))))))) ∧ ((((p3 ≤ 0)) ∨ ((0 < p3) ∧ (34 ≤ p2))) → ((∀ x40 : Int, (((¬ (M a0 0) = 0) ∧ x40 = (M a0 0)) ∨ (((M a0 0) = 0) ∧ x40 = ((im_u M a0 1 p2) p1 0))) → (im_i32 x40) ∧ im_T g (d - 1) 98 0 [some (.ref a0), none] [] e (im_u (im_u M a0 1 p2) a0 0 x40) (im_ri (fun x46 e_ M45 => e = e_ ∧ (0 ≤ x46 ∧ x46 ≤ 1) ∧ K (.inl (some (vI x46))) e M45))))))) ∧ (p4 < p2 → ((p4 < (M a0 1) → (0 ≤ p4 ∧ p4 < 34)))))) ∧ (∀ x8 : Int, (((p4 < p2) ∧ ((M a0 1) ≤ p4) ∧ x8 = 0) ∨ ((p4 < p2) ∧ (p4 < (M a0 1)) ∧ x8 = (M (a0 + 1) p4))) → ((((p4 < (M p1 1) → (0 ≤ p4 ∧ p4 < 34)))) ∧ (∀ x16 : Int, ((((M p1 1) ≤ p4) ∧ x16 = 0) ∨ ((p4 < (M p1 1)) ∧ x16 = (M (p1 + 1) p4))) → (im_i32 ((p3 + x8) + x16)) ∧ ((∀ x22 : Int, (((((p3 + x8) + x16) < 1000000000) ∧ x22 = 0) ∨ ((1000000000 ≤ ((p3 + x8) + x16)) ∧ x22 = 1)) → (0 ≤ p4 ∧ p4 < 34) ∧ (im_i32 (((p3 + x8) + x16) - (x22 * 1000000000))) ∧ im_T g d 97 17 [some (.ref a0), some (.ref p1), some (vI p2), some (vI x22), some (vI (p4 + 1)), none] [] e (im_u M (a0 + 1) p4 (((p3 + x8) + x16) - (x22 * 1000000000))) K))))))) : im_T g d 97 17 [some (.ref a0), some (.ref p1), some (vI p2), some (vI p3), some (vI p4), none] [] e M K := by
  refine im_ld (q := 19) (i := 4) D97_17 rfl rfl rfl ?_
  refine im_ld (q := 20) (i := 2) D97_19 rfl rfl rfl ?_
  obtain ⟨hg1, hP⟩ := hP
  obtain ⟨hg2, hP⟩ := hP
  obtain ⟨hP, hJ9⟩ := hP
  have kJ10 : ∀ x8 : Int, (((p4 < p2) ∧ ((M a0 1) ≤ p4) ∧ x8 = 0) ∨ ((p4 < p2) ∧ (p4 < (M a0 1)) ∧ x8 = (M (a0 + 1) p4))) → im_T g d 97 44 [some (.ref a0), some (.ref p1), some (vI p2), none, some (vI p4), none] [vI x8, vI p3] e M K := by
    intro x8 hx11
    have hP := hJ9 x8 hx11
    refine im_iadd (q := 45) D97_44 ?_
    refine im_ld (q := 47) (i := 4) D97_45 rfl rfl rfl ?_
    refine im_ld (q := 48) (i := 1) D97_47 rfl rfl rfl ?_
    refine im_rng (j := 1) hp1.1 (by decide) (show (1 : Int) < ((3 : Nat) : Int) by decide) (fun hr12 => ?_)
    refine im_gfI (q := 51) D97_48 (im_fl cn_97 fl_3_19) hp1.1 rfl rfl tI_3_1 rfl ?_
    obtain ⟨hP, hJ17⟩ := hP
    have kJ18 : ∀ x16 : Int, ((((M p1 1) ≤ p4) ∧ x16 = 0) ∨ ((p4 < (M p1 1)) ∧ x16 = (M (p1 + 1) p4))) → im_T g d 97 65 [some (.ref a0), some (.ref p1), some (vI p2), none, some (vI p4), none] [vI x16, vI (p3 + x8)] e M K := by
      intro x16 hx19
      have hP := hJ17 x16 hx19
      refine im_iadd (q := 66) D97_65 ?_
      refine im_st1 (q := 68) (i := 5) (L' := [some (.ref a0), some (.ref p1), some (vI p2), none, some (vI p4), some (vI ((p3 + x8) + x16))]) D97_66 (Or.inr rfl) (Nat.le_of_ble_eq_true rfl) rfl ?_
      refine im_ld (q := 70) (i := 5) D97_68 rfl rfl rfl ?_
      refine im_ldc (q := 72) (n := 1000000000) (Or.inl rfl) D97_70 rfl rfl ?_
      obtain ⟨hg20, hP⟩ := hP
      have hJ23 := hP
      have kJ24 : ∀ x22 : Int, (((((p3 + x8) + x16) < 1000000000) ∧ x22 = 0) ∨ ((1000000000 ≤ ((p3 + x8) + x16)) ∧ x22 = 1)) → im_T g d 97 80 [some (.ref a0), some (.ref p1), some (vI p2), none, some (vI p4), some (vI ((p3 + x8) + x16))] [vI x22] e M K := by
        intro x22 hx25
        have hP := hJ23 x22 hx25
        refine im_st1 (q := 81) (i := 3) (L' := [some (.ref a0), some (.ref p1), some (vI p2), some (vI x22), some (vI p4), some (vI ((p3 + x8) + x16))]) D97_80 (Or.inl ⟨_, rfl, rfl⟩) (Nat.le_of_ble_eq_true rfl) rfl ?_
        refine im_ld (q := 82) (i := 0) D97_81 rfl rfl rfl ?_
        refine im_gfR (q := 85) (b := (a0 + 1)) D97_82 (im_fl cn_97 fl_3_9) ha0.1 rfl rfl tR_3_2 rfl ?_
        refine im_ld (q := 87) (i := 4) D97_85 rfl rfl rfl ?_
        refine im_ld (q := 89) (i := 5) D97_87 rfl rfl rfl ?_
        refine im_ld (q := 90) (i := 3) D97_89 rfl rfl rfl ?_
        refine im_ldc (q := 92) (n := 1000000000) (Or.inl rfl) D97_90 rfl rfl ?_
        refine im_imul (q := 93) D97_92 ?_
        refine im_isub (q := 94) D97_93 ?_
        obtain ⟨hg26, hP⟩ := hP
        obtain ⟨hg27, hP⟩ := hP
        refine im_iast (q := 95) D97_94 ha0.2 hg26.1 hg26.2 (by decide) hg27 ?_
        refine im_iinc (q := 98) (i := 4) (L' := [some (.ref a0), some (.ref p1), some (vI p2), some (vI x22), some (vI (p4 + 1)), some (vI ((p3 + x8) + x16))]) D97_95 rfl (Nat.le_of_ble_eq_true rfl) rfl ?_
        refine im_goto (q := 101) (t := 17) D97_98 rfl ?_
        exact hP.wk ⟨rfl, rfl, rfl, rfl, rfl, trivial⟩
      refine im_icmp (q := 75) (t := 79) D97_72 rfl hg20 (by decide) (fun hc21 => ?_) (fun hc21 => ?_)
      · refine im_iconst (q := 80) D97_79 ?_
        exact (kJ24 (0) (Or.inl ⟨hc21, rfl⟩)).wk ⟨rfl, rfl, rfl, rfl, rfl, trivial⟩
      · refine im_iconst (q := 76) D97_75 ?_
        refine im_goto (q := 79) (t := 80) D97_76 rfl ?_
        exact (kJ24 (1) (Or.inr ⟨(Int.not_lt.mp hc21), rfl⟩)).wk ⟨rfl, rfl, rfl, rfl, rfl, trivial⟩
    refine im_icmp (q := 54) (t := 64) D97_51 rfl hg1 hr12 (fun hc13 => ?_) (fun hc13 => ?_)
    · refine im_iconst (q := 65) D97_64 ?_
      exact (kJ18 (0) (Or.inl ⟨hc13, rfl⟩)).wk ⟨rfl, rfl, rfl, rfl, trivial⟩
    · replace hP := hP (Int.not_le.mp hc13)
      refine im_ld (q := 55) (i := 1) D97_54 rfl rfl rfl ?_
      refine im_gfR (q := 58) (b := (p1 + 1)) D97_55 (im_fl cn_97 fl_3_9) hp1.1 rfl rfl tR_3_2 rfl ?_
      refine im_ld (q := 60) (i := 4) D97_58 rfl rfl rfl ?_
      have hg14 := hP
      refine im_rng (j := p4) hp1.2 hg14.1 hg14.2 (fun hr15 => ?_)
      refine im_iald (q := 61) D97_60 hp1.2 hg14.1 hg14.2 (by decide) rfl ?_
      refine im_goto (q := 64) (t := 65) D97_61 rfl ?_
      exact (kJ18 ((M (p1 + 1) p4)) (Or.inr ⟨(Int.not_le.mp hc13), rfl⟩)).wk ⟨rfl, rfl, rfl, rfl, trivial⟩
  refine im_icmp (q := 23) (t := 101) D97_20 rfl hg1 hg2 (fun hc3 => ?_) (fun hc3 => ?_)
  · replace hP := hP.1 hc3
    refine im_ld (q := 102) (i := 0) D97_101 rfl rfl rfl ?_
    refine im_ld (q := 103) (i := 2) D97_102 rfl rfl rfl ?_
    refine im_pfI (q := 106) D97_103 (im_fl cn_97 fl_3_19) ha0.1 rfl rfl ti_3_1 hg2 ?_
    refine im_ld (q := 107) (i := 3) D97_106 rfl rfl rfl ?_
    obtain ⟨hg28, hP⟩ := hP
    obtain ⟨hP, hJ33⟩ := hP
    have kJ34 : (((p3 ≤ 0)) ∨ ((0 < p3) ∧ (34 ≤ p2))) → im_T g d 97 139 [some (.ref a0), some (.ref p1), none, none, none, none] [] e (im_u M a0 1 p2) K := by
      intro  hx35
      have hP := hJ33  hx35
      refine im_ld (q := 140) (i := 0) D97_139 rfl rfl rfl ?_
      refine im_ld (q := 141) (i := 0) D97_140 rfl rfl rfl ?_
      refine im_rng (j := 0) ha0.1 (by decide) (show (0 : Int) < ((3 : Nat) : Int) by decide) (fun hr36 => ?_)
      refine im_gfI (q := 144) D97_141 (im_fl cn_97 fl_3_15) ha0.1 rfl rfl tI_3_0 (im_rdk _ _ _ (by decide)) ?_
      have hJ41 := hP
      have kJ42 : ∀ x40 : Int, (((¬ (M a0 0) = 0) ∧ x40 = (M a0 0)) ∨ (((M a0 0) = 0) ∧ x40 = ((im_u M a0 1 p2) p1 0))) → im_T g d 97 158 [some (.ref a0), none, none, none, none, none] [vI x40, .ref a0] e (im_u M a0 1 p2) K := by
        intro x40 hx43
        have hP := hJ41 x40 hx43
        obtain ⟨hg44, hP⟩ := hP
        refine im_pfI (q := 161) D97_158 (im_fl cn_97 fl_3_15) ha0.1 rfl rfl ti_3_0 hg44 ?_
        refine im_ld (q := 162) (i := 0) D97_161 rfl rfl rfl ?_
        refine im_callV (q := 165) (kd := 1) (y := 98) (n := 0) (ci := 3) (a := a0) (vs := [.ref a0]) (r := []) (L2 := [some (.ref a0), none]) D97_162 (im_cal cn_97 cl_3_42) (Or.inl rfl) rfl ha0.1 rfl rfl rfl rfl hd ⟨rfl, trivial⟩ ?_
        refine hP.mono ?_
        rintro _ e48 M45 ⟨x46, rfl, rfl, hP⟩
        refine im_bkS ?_
        obtain ⟨hg47, hP⟩ := hP
        exact im_zret (q := 166) D97_165 rfl hg47 hP
      refine im_ifc (q := 147) (t := 154) D97_144 rfl (im_rgc hr36 (im_rdk _ _ _ (by decide))) (fun hc37 => ?_) (fun hc37 => ?_)
      · refine im_ld (q := 155) (i := 0) D97_154 rfl rfl rfl ?_
        refine im_gfI (q := 158) D97_155 (im_fl cn_97 fl_3_15) ha0.1 rfl rfl tI_3_0 (im_rdk _ _ _ (by decide)) ?_
        exact (kJ42 ((M a0 0)) (Or.inl ⟨hc37, rfl⟩)).wk ⟨rfl, trivial⟩
      · refine im_ld (q := 148) (i := 1) D97_147 rfl rfl rfl ?_
        refine im_rng (j := 0) hp1.1 (by decide) (show (0 : Int) < ((3 : Nat) : Int) by decide) (fun hr39 => ?_)
        refine im_gfI (q := 151) D97_148 (im_fl cn_97 fl_3_15) hp1.1 rfl rfl tI_3_0 rfl ?_
        refine im_goto (q := 154) (t := 158) D97_151 rfl ?_
        exact (kJ42 (((im_u M a0 1 p2) p1 0)) (Or.inr ⟨(Decidable.not_not.mp hc37), rfl⟩)).wk ⟨rfl, trivial⟩
    refine im_ifc (q := 110) (t := 139) D97_107 rfl hg28 (fun hc29 => ?_) (fun hc29 => ?_)
    · exact (kJ34  (Or.inl hc29)).wk ⟨rfl, rfl, trivial⟩
    · replace hP := hP (Int.not_le.mp hc29)
      refine im_ld (q := 111) (i := 0) D97_110 rfl rfl rfl ?_
      refine im_gfI (q := 114) D97_111 (im_fl cn_97 fl_3_19) ha0.1 rfl rfl tI_3_1 (im_rds _ _ _ _) ?_
      refine im_bipush (q := 116) D97_114 rfl ?_
      refine im_icmp (q := 119) (t := 139) D97_116 rfl hg2 (by decide) (fun hc31 => ?_) (fun hc31 => ?_)
      · exact (kJ34  (Or.inr ⟨(Int.not_le.mp hc29), hc31⟩)).wk ⟨rfl, rfl, trivial⟩
      · replace hP := hP (Int.not_le.mp hc31)
        refine im_ld (q := 120) (i := 0) D97_119 rfl rfl rfl ?_
        refine im_gfR (q := 123) (b := (a0 + 1)) D97_120 (im_fl cn_97 fl_3_9) ha0.1 rfl rfl tR_3_2 rfl ?_
        refine im_ld (q := 124) (i := 0) D97_123 rfl rfl rfl ?_
        refine im_gfI (q := 127) D97_124 (im_fl cn_97 fl_3_19) ha0.1 rfl rfl tI_3_1 (im_rds _ _ _ _) ?_
        refine im_ld (q := 128) (i := 3) D97_127 rfl rfl rfl ?_
        obtain ⟨hg49, hP⟩ := hP
        refine im_iast (q := 129) D97_128 ha0.2 hg49.1 hg49.2 (by decide) hg28 ?_
        refine im_ld (q := 130) (i := 0) D97_129 rfl rfl rfl ?_
        refine im_dup (q := 131) D97_130 rfl ?_
        refine im_rng (j := 1) ha0.1 (by decide) (show (1 : Int) < ((3 : Nat) : Int) by decide) (fun hr50 => ?_)
        refine im_gfI (q := 134) D97_131 (im_fl cn_97 fl_3_19) ha0.1 rfl rfl tI_3_1 rfl ?_
        refine im_iconst (q := 135) D97_134 ?_
        refine im_iadd (q := 136) D97_135 ?_
        obtain ⟨hg51, hP⟩ := hP
        refine im_pfI (q := 139) D97_136 (im_fl cn_97 fl_3_19) ha0.1 rfl rfl ti_3_1 hg51 ?_
        refine im_ld (q := 140) (i := 0) D97_139 rfl rfl rfl ?_
        refine im_ld (q := 141) (i := 0) D97_140 rfl rfl rfl ?_
        refine im_rng (j := 0) ha0.1 (by decide) (show (0 : Int) < ((3 : Nat) : Int) by decide) (fun hr52 => ?_)
        refine im_gfI (q := 144) D97_141 (im_fl cn_97 fl_3_15) ha0.1 rfl rfl tI_3_0 (im_rdk _ _ _ (by decide)) ?_
        have hJ57 := hP
        have kJ58 : ∀ x56 : Int, (((¬ ((im_u (im_u M a0 1 p2) (a0 + 1) p2 p3) a0 0) = 0) ∧ x56 = ((im_u (im_u M a0 1 p2) (a0 + 1) p2 p3) a0 0)) ∨ ((((im_u (im_u M a0 1 p2) (a0 + 1) p2 p3) a0 0) = 0) ∧ x56 = ((im_u (im_u (im_u M a0 1 p2) (a0 + 1) p2 p3) a0 1 (((im_u (im_u M a0 1 p2) (a0 + 1) p2 p3) a0 1) + 1)) p1 0))) → im_T g d 97 158 [some (.ref a0), none, none, none, none, none] [vI x56, .ref a0] e (im_u (im_u (im_u M a0 1 p2) (a0 + 1) p2 p3) a0 1 (((im_u (im_u M a0 1 p2) (a0 + 1) p2 p3) a0 1) + 1)) K := by
          intro x56 hx59
          have hP := hJ57 x56 hx59
          obtain ⟨hg60, hP⟩ := hP
          refine im_pfI (q := 161) D97_158 (im_fl cn_97 fl_3_15) ha0.1 rfl rfl ti_3_0 hg60 ?_
          refine im_ld (q := 162) (i := 0) D97_161 rfl rfl rfl ?_
          refine im_callV (q := 165) (kd := 1) (y := 98) (n := 0) (ci := 3) (a := a0) (vs := [.ref a0]) (r := []) (L2 := [some (.ref a0), none]) D97_162 (im_cal cn_97 cl_3_42) (Or.inl rfl) rfl ha0.1 rfl rfl rfl rfl hd ⟨rfl, trivial⟩ ?_
          refine hP.mono ?_
          rintro _ e64 M61 ⟨x62, rfl, rfl, hP⟩
          refine im_bkS ?_
          obtain ⟨hg63, hP⟩ := hP
          exact im_zret (q := 166) D97_165 rfl hg63 hP
        refine im_ifc (q := 147) (t := 154) D97_144 rfl (im_rgc hr52 (im_rdk _ _ _ (by decide))) (fun hc53 => ?_) (fun hc53 => ?_)
        · refine im_ld (q := 155) (i := 0) D97_154 rfl rfl rfl ?_
          refine im_gfI (q := 158) D97_155 (im_fl cn_97 fl_3_15) ha0.1 rfl rfl tI_3_0 (im_rdk _ _ _ (by decide)) ?_
          exact (kJ58 (((im_u (im_u M a0 1 p2) (a0 + 1) p2 p3) a0 0)) (Or.inl ⟨hc53, rfl⟩)).wk ⟨rfl, trivial⟩
        · refine im_ld (q := 148) (i := 1) D97_147 rfl rfl rfl ?_
          refine im_rng (j := 0) hp1.1 (by decide) (show (0 : Int) < ((3 : Nat) : Int) by decide) (fun hr55 => ?_)
          refine im_gfI (q := 151) D97_148 (im_fl cn_97 fl_3_15) hp1.1 rfl rfl tI_3_0 rfl ?_
          refine im_goto (q := 154) (t := 158) D97_151 rfl ?_
          exact (kJ58 (((im_u (im_u (im_u M a0 1 p2) (a0 + 1) p2 p3) a0 1 (((im_u (im_u M a0 1 p2) (a0 + 1) p2 p3) a0 1) + 1)) p1 0)) (Or.inr ⟨(Decidable.not_not.mp hc53), rfl⟩)).wk ⟨rfl, trivial⟩
  · replace hP := hP.2 (Int.not_le.mp hc3)
    refine im_ld (q := 24) (i := 3) D97_23 rfl rfl rfl ?_
    refine im_ld (q := 26) (i := 4) D97_24 rfl rfl rfl ?_
    refine im_ld (q := 27) (i := 0) D97_26 rfl rfl rfl ?_
    refine im_rng (j := 1) ha0.1 (by decide) (show (1 : Int) < ((3 : Nat) : Int) by decide) (fun hr4 => ?_)
    refine im_gfI (q := 30) D97_27 (im_fl cn_97 fl_3_19) ha0.1 rfl rfl tI_3_1 rfl ?_
    refine im_icmp (q := 33) (t := 43) D97_30 rfl hg1 hr4 (fun hc5 => ?_) (fun hc5 => ?_)
    · refine im_iconst (q := 44) D97_43 ?_
      exact (kJ10 (0) (Or.inl ⟨(Int.not_le.mp hc3), hc5, rfl⟩)).wk ⟨rfl, rfl, rfl, rfl, trivial⟩
    · replace hP := hP (Int.not_le.mp hc5)
      refine im_ld (q := 34) (i := 0) D97_33 rfl rfl rfl ?_
      refine im_gfR (q := 37) (b := (a0 + 1)) D97_34 (im_fl cn_97 fl_3_9) ha0.1 rfl rfl tR_3_2 rfl ?_
      refine im_ld (q := 39) (i := 4) D97_37 rfl rfl rfl ?_
      have hg6 := hP
      refine im_rng (j := p4) ha0.2 hg6.1 hg6.2 (fun hr7 => ?_)
      refine im_iald (q := 40) D97_39 ha0.2 hg6.1 hg6.2 (by decide) rfl ?_
      refine im_goto (q := 43) (t := 44) D97_40 rfl ?_
      exact (kJ10 ((M (a0 + 1) p4)) (Or.inr ⟨(Int.not_le.mp hc3), (Int.not_le.mp hc5), rfl⟩)).wk ⟨rfl, rfl, rfl, rfl, trivial⟩
set_option maxRecDepth 20000 in
set_option maxHeartbeats 4000000 in
theorem k_Num_settle_0 {g : im_g} {d : Nat} {e : im_E} {M : im_M} {K : im_K} {a0 : Nat} (ha0 : im_num e a0) (hP : ((((0 < (M a0 1) → (0 ≤ ((M a0 1) - 1) ∧ ((M a0 1) - 1) < 34) ∧ (((M (a0 + 1) ((M a0 1) - 1)) = 0 → (im_i32 ((M a0 1) - 1)) ∧ im_T g d 98 0 [some (.ref a0), none] [] e (im_u M a0 1 ((M a0 1) - 1)) K))))) ∧ (((((M a0 1) ≤ 0)) ∨ ((0 < (M a0 1)) ∧ (¬ (M (a0 + 1) ((M a0 1) - 1)) = 0))) → ((((34 ≤ (M a0 1) → ((1000 ≤ (M (a0 + 1) 33) → K (.inl (some (vI 0))) e (im_u (im_u M a0 1 0) a0 0 0)))))) ∧ (((((M a0 1) < 34)) ∨ ((34 ≤ (M a0 1)) ∧ ((M (a0 + 1) 33) < 1000))) → ((∀ x23 : Int, (((¬ (M a0 1) = 0) ∧ x23 = (M a0 0)) ∨ (((M a0 1) = 0) ∧ x23 = 0)) → (im_i32 x23) ∧ K (.inl (some (vI 1))) e (im_u (im_u M a0 1 (M a0 1)) a0 0 x23)))))))) : im_T g d 98 0 [some (.ref a0), none] [] e M K := by
  refine im_ld (q := 1) (i := 0) D98_0 rfl rfl rfl ?_
  refine im_rng (j := 1) ha0.1 (by decide) (show (1 : Int) < ((3 : Nat) : Int) by decide) (fun hr1 => ?_)
  refine im_gfI (q := 4) D98_1 (im_fl cn_98 fl_3_19) ha0.1 rfl rfl tI_3_1 rfl ?_
  obtain ⟨hP, hJ8⟩ := hP
  have kJ9 : ((((M a0 1) ≤ 0)) ∨ ((0 < (M a0 1)) ∧ (¬ (M (a0 + 1) ((M a0 1) - 1)) = 0))) → im_T g d 98 34 [some (.ref a0), none] [] e M K := by
    intro  hx10
    have hP := hJ8  hx10
    refine im_ld (q := 35) (i := 0) D98_34 rfl rfl rfl ?_
    refine im_gfI (q := 38) D98_35 (im_fl cn_98 fl_3_19) ha0.1 rfl rfl tI_3_1 rfl ?_
    refine im_bipush (q := 40) D98_38 rfl ?_
    obtain ⟨hP, hJ15⟩ := hP
    have kJ16 : ((((M a0 1) < 34)) ∨ ((34 ≤ (M a0 1)) ∧ ((M (a0 + 1) 33) < 1000))) → im_T g d 98 56 [some (.ref a0), none] [] e M K := by
      intro  hx17
      have hP := hJ15  hx17
      refine im_iconst (q := 57) D98_56 ?_
      refine im_goto (q := 60) (t := 61) D98_57 rfl ?_
      refine im_st1 (q := 62) (i := 1) (L' := [some (.ref a0), some (vI 1)]) D98_61 (Or.inl ⟨_, rfl, rfl⟩) (Nat.le_of_ble_eq_true rfl) rfl ?_
      refine im_ld (q := 63) (i := 0) D98_62 rfl rfl rfl ?_
      refine im_ld (q := 64) (i := 1) D98_63 rfl rfl rfl ?_
      refine im_ifc (q := 67) (t := 74) D98_64 rfl (by decide) (fun hc => absurd hc (show ¬ ((1 : Int) = 0) by decide)) (fun _ => ?_)
      refine im_ld (q := 68) (i := 0) D98_67 rfl rfl rfl ?_
      refine im_gfI (q := 71) D98_68 (im_fl cn_98 fl_3_19) ha0.1 rfl rfl tI_3_1 rfl ?_
      refine im_goto (q := 74) (t := 75) D98_71 rfl ?_
      refine im_pfI (q := 78) D98_75 (im_fl cn_98 fl_3_19) ha0.1 rfl rfl ti_3_1 hr1 ?_
      refine im_ld (q := 79) (i := 0) D98_78 rfl rfl rfl ?_
      refine im_ld (q := 80) (i := 0) D98_79 rfl rfl rfl ?_
      refine im_gfI (q := 83) D98_80 (im_fl cn_98 fl_3_19) ha0.1 rfl rfl tI_3_1 (im_rds _ _ _ _) ?_
      have hJ24 := hP
      have kJ25 : ∀ x23 : Int, (((¬ (M a0 1) = 0) ∧ x23 = (M a0 0)) ∨ (((M a0 1) = 0) ∧ x23 = 0)) → im_T g d 98 94 [none, some (vI 1)] [vI x23, .ref a0] e (im_u M a0 1 (M a0 1)) K := by
        intro x23 hx26
        have hP := hJ24 x23 hx26
        obtain ⟨hg27, hP⟩ := hP
        refine im_pfI (q := 97) D98_94 (im_fl cn_98 fl_3_15) ha0.1 rfl rfl ti_3_0 hg27 ?_
        refine im_ld (q := 98) (i := 1) D98_97 rfl rfl rfl ?_
        exact im_zret (q := 99) D98_98 rfl (by decide) hP
      refine im_ifc (q := 86) (t := 90) D98_83 rfl hr1 (fun hc21 => ?_) (fun hc21 => ?_)
      · refine im_ld (q := 91) (i := 0) D98_90 rfl rfl rfl ?_
        refine im_rng (j := 0) ha0.1 (by decide) (show (0 : Int) < ((3 : Nat) : Int) by decide) (fun hr22 => ?_)
        refine im_gfI (q := 94) D98_91 (im_fl cn_98 fl_3_15) ha0.1 rfl rfl tI_3_0 (im_rdk _ _ _ (by decide)) ?_
        exact (kJ25 ((M a0 0)) (Or.inl ⟨hc21, rfl⟩)).wk ⟨rfl, trivial⟩
      · refine im_iconst (q := 87) D98_86 ?_
        refine im_goto (q := 90) (t := 94) D98_87 rfl ?_
        exact (kJ25 (0) (Or.inr ⟨(Decidable.not_not.mp hc21), rfl⟩)).wk ⟨rfl, trivial⟩
    refine im_icmp (q := 43) (t := 56) D98_40 rfl hr1 (by decide) (fun hc12 => ?_) (fun hc12 => ?_)
    · exact (kJ16  (Or.inl hc12)).wk ⟨rfl, trivial⟩
    · replace hP := hP (Int.not_lt.mp hc12)
      refine im_ld (q := 44) (i := 0) D98_43 rfl rfl rfl ?_
      refine im_gfR (q := 47) (b := (a0 + 1)) D98_44 (im_fl cn_98 fl_3_9) ha0.1 rfl rfl tR_3_2 rfl ?_
      refine im_bipush (q := 49) D98_47 rfl ?_
      refine im_rng (j := 33) ha0.2 (by decide) (by decide) (fun hr13 => ?_)
      refine im_iald (q := 50) D98_49 ha0.2 (by decide) (by decide) (by decide) rfl ?_
      refine im_sipush (q := 53) D98_50 rfl ?_
      refine im_icmp (q := 56) (t := 60) D98_53 rfl hr13 (by decide) (fun hc14 => ?_) (fun hc14 => ?_)
      · replace hP := hP hc14
        refine im_iconst (q := 61) D98_60 ?_
        refine im_st1 (q := 62) (i := 1) (L' := [some (.ref a0), some (vI 0)]) D98_61 (Or.inl ⟨_, rfl, rfl⟩) (Nat.le_of_ble_eq_true rfl) rfl ?_
        refine im_ld (q := 63) (i := 0) D98_62 rfl rfl rfl ?_
        refine im_ld (q := 64) (i := 1) D98_63 rfl rfl rfl ?_
        refine im_ifc (q := 67) (t := 74) D98_64 rfl (by decide) (fun _ => ?_) (fun hc => absurd (show (0 : Int) = 0 by decide) hc)
        refine im_iconst (q := 75) D98_74 ?_
        refine im_pfI (q := 78) D98_75 (im_fl cn_98 fl_3_19) ha0.1 rfl rfl ti_3_1 (by decide) ?_
        refine im_ld (q := 79) (i := 0) D98_78 rfl rfl rfl ?_
        refine im_ld (q := 80) (i := 0) D98_79 rfl rfl rfl ?_
        refine im_gfI (q := 83) D98_80 (im_fl cn_98 fl_3_19) ha0.1 rfl rfl tI_3_1 (im_rds _ _ _ _) ?_
        refine im_ifc (q := 86) (t := 90) D98_83 rfl (by decide) (fun hc => absurd hc (show ¬ (¬ (0 : Int) = 0) by decide)) (fun _ => ?_)
        refine im_iconst (q := 87) D98_86 ?_
        refine im_goto (q := 90) (t := 94) D98_87 rfl ?_
        refine im_pfI (q := 97) D98_94 (im_fl cn_98 fl_3_15) ha0.1 rfl rfl ti_3_0 (by decide) ?_
        refine im_ld (q := 98) (i := 1) D98_97 rfl rfl rfl ?_
        exact im_zret (q := 99) D98_98 rfl (by decide) hP
      · exact (kJ16  (Or.inr ⟨(Int.not_lt.mp hc12), (Int.not_le.mp hc14)⟩)).wk ⟨rfl, trivial⟩
  refine im_ifc (q := 7) (t := 34) D98_4 rfl hr1 (fun hc2 => ?_) (fun hc2 => ?_)
  · exact (kJ9  (Or.inl hc2)).wk ⟨rfl, trivial⟩
  · replace hP := hP (Int.not_le.mp hc2)
    refine im_ld (q := 8) (i := 0) D98_7 rfl rfl rfl ?_
    refine im_gfR (q := 11) (b := (a0 + 1)) D98_8 (im_fl cn_98 fl_3_9) ha0.1 rfl rfl tR_3_2 rfl ?_
    refine im_ld (q := 12) (i := 0) D98_11 rfl rfl rfl ?_
    refine im_gfI (q := 15) D98_12 (im_fl cn_98 fl_3_19) ha0.1 rfl rfl tI_3_1 rfl ?_
    refine im_iconst (q := 16) D98_15 ?_
    refine im_isub (q := 17) D98_16 ?_
    obtain ⟨hg4, hP⟩ := hP
    refine im_rng (j := ((M a0 1) - 1)) ha0.2 hg4.1 hg4.2 (fun hr5 => ?_)
    refine im_iald (q := 18) D98_17 ha0.2 hg4.1 hg4.2 (by decide) rfl ?_
    refine im_ifc (q := 21) (t := 34) D98_18 rfl hr5 (fun hc6 => ?_) (fun hc6 => ?_)
    · exact (kJ9  (Or.inr ⟨(Int.not_le.mp hc2), hc6⟩)).wk ⟨rfl, trivial⟩
    · replace hP := hP (Decidable.not_not.mp hc6)
      refine im_ld (q := 22) (i := 0) D98_21 rfl rfl rfl ?_
      refine im_dup (q := 23) D98_22 rfl ?_
      refine im_gfI (q := 26) D98_23 (im_fl cn_98 fl_3_19) ha0.1 rfl rfl tI_3_1 rfl ?_
      refine im_iconst (q := 27) D98_26 ?_
      refine im_isub (q := 28) D98_27 ?_
      obtain ⟨hg31, hP⟩ := hP
      refine im_pfI (q := 31) D98_28 (im_fl cn_98 fl_3_19) ha0.1 rfl rfl ti_3_1 hg31 ?_
      refine im_goto (q := 34) (t := 0) D98_31 rfl ?_
      exact hP.wk ⟨rfl, trivial⟩
set_option maxRecDepth 20000 in
set_option maxHeartbeats 4000000 in
theorem k_Book_credit_0 {g : im_g} {d : Nat} {e : im_E} {M : im_M} {K : im_K} {p1 p3 : Int} {a0 na0 : Nat} (ha0 : im_book e a0 na0) {p5 : Nat} (hp5 : im_num e p5) (hd : 1 ≤ d) (hP : im_T g (d - 1) 88 0 [some (.ref a0), some (vL p1), none, some (vL p3), none, none] [] e M (im_ri (fun x2 e_ M1 => e = e_ ∧ (im_i32 x2) ∧ ((0 ≤ x2 → (0 ≤ x2 ∧ x2 < na0) ∧ ∃ b6 : Nat, ((M1 (a0 + 5) x2) = (b6 : Int)) ∧ (im_num e b6) ∧ im_T g (d - 1) 97 0 [some (.ref b6), some (.ref p5), none, none, none, none] [] e M1 (im_ri (fun x10 e_ M9 => e = e_ ∧ (im_i32 x10) ∧ ((∀ x13 : Int, (((x10 = 0) ∧ x13 = (-8)) ∨ ((¬ x10 = 0) ∧ x13 = 0)) → K (.inl (some (vI x13))) e M9))))) ∧ (x2 < 0 → im_T g (d - 1) 100 0 [some (.ref a0), some (vI ((-1) - x2)), some (vL p1), none, some (vL p3), none, none, none] [] e M1 (im_ri (fun x19 e_ M18 => e = e_ ∧ (im_i32 x19) ∧ ((¬ x19 = 0 → (0 ≤ ((-1) - x2) ∧ ((-1) - x2) < na0) ∧ ∃ b23 : Nat, ((M18 (a0 + 5) ((-1) - x2)) = (b23 : Int)) ∧ (im_num e b23) ∧ im_T g (d - 1) 101 0 [some (.ref b23)] [] e M18 (im_r0 (fun  e_ M26 => e = e_ ∧ ∃ b27 : Nat, ((M26 (a0 + 5) ((-1) - x2)) = (b27 : Int)) ∧ (im_num e b27) ∧ im_T g (d - 1) 97 0 [some (.ref b27), some (.ref p5), none, none, none, none] [] e M26 (im_ri (fun x31 e_ M30 => e = e_ ∧ (im_i32 x31) ∧ ((∀ x34 : Int, (((x31 = 0) ∧ x34 = (-8)) ∨ ((¬ x31 = 0) ∧ x34 = 0)) → K (.inl (some (vI x34))) e M30))))))) ∧ (x19 = 0 → K (.inl (some (vI (-9)))) e M18))))))))) : im_T g d 99 0 [some (.ref a0), some (vL p1), none, some (vL p3), none, some (.ref p5), none] [] e M K := by
  refine im_ld (q := 1) (i := 0) D99_0 rfl rfl rfl ?_
  refine im_ld (q := 2) (i := 1) D99_1 rfl rfl rfl ?_
  refine im_ld (q := 3) (i := 3) D99_2 rfl rfl rfl ?_
  refine im_callV (q := 6) (kd := 1) (y := 88) (n := 2) (ci := 0) (a := a0) (vs := [.ref a0, vL p1, vL p3]) (r := []) (L2 := [some (.ref a0), some (vL p1), none, some (vL p3), none, none]) D99_3 (im_cal cn_99 cl_0_43) (Or.inl rfl) rfl ha0.1 rfl rfl rfl rfl hd ⟨rfl, rfl, rfl, trivial⟩ ?_
  refine hP.mono ?_
  rintro _ e41 M1 ⟨x2, rfl, rfl, hP⟩
  refine im_bkS ?_
  refine im_st1 (q := 8) (i := 6) (L' := [some (.ref a0), some (vL p1), none, some (vL p3), none, some (.ref p5), some (vI x2)]) D99_6 (Or.inr rfl) (Nat.le_of_ble_eq_true rfl) rfl ?_
  refine im_ld (q := 10) (i := 6) D99_8 rfl rfl rfl ?_
  obtain ⟨hg3, hP⟩ := hP
  refine im_ifc (q := 13) (t := 43) D99_10 rfl hg3 (fun hc4 => ?_) (fun hc4 => ?_)
  · replace hP := hP.1 hc4
    refine im_ld (q := 44) (i := 0) D99_43 rfl rfl rfl ?_
    refine im_gfR (q := 47) (b := (a0 + 5)) D99_44 (im_fl cn_99 fl_0_25) ha0.1 rfl rfl tR_0_2 rfl ?_
    refine im_ld (q := 49) (i := 6) D99_47 rfl rfl rfl ?_
    obtain ⟨hg5, hP⟩ := hP
    obtain ⟨b6, hb7, hP⟩ := hP
    obtain ⟨hb8, hP⟩ := hP
    refine im_aald (q := 50) D99_49 ha0.2.2.2.1 (Or.inl rfl) hg5.1 hg5.2 (Nat.le_trans ha0.2.2.2.2.2 (by decide)) hb7 ?_
    refine im_ld (q := 52) (i := 5) D99_50 rfl rfl rfl ?_
    refine im_callV (q := 55) (kd := 1) (y := 97) (n := 1) (ci := 3) (a := b6) (vs := [.ref b6, .ref p5]) (r := []) (L2 := [some (.ref b6), some (.ref p5), none, none, none, none]) D99_52 (im_cal cn_99 cl_0_54) (Or.inl rfl) rfl hb8.1 rfl rfl rfl rfl hd ⟨rfl, rfl, trivial⟩ ?_
    refine hP.mono ?_
    rintro _ e17 M9 ⟨x10, rfl, rfl, hP⟩
    refine im_bkS ?_
    obtain ⟨hg11, hP⟩ := hP
    have hJ14 := hP
    have kJ15 : ∀ x13 : Int, (((x10 = 0) ∧ x13 = (-8)) ∨ ((¬ x10 = 0) ∧ x13 = 0)) → im_T g d 99 64 [none, none, none, none, none, none, none] [vI x13] e M9 K := by
      intro x13 hx16
      have hP := hJ14 x13 hx16
      exact im_iret (q := 65) D99_64 rfl hP
    refine im_ifc (q := 58) (t := 62) D99_55 rfl hg11 (fun hc12 => ?_) (fun hc12 => ?_)
    · refine im_bipush (q := 64) D99_62 rfl ?_
      exact (kJ15 ((-8)) (Or.inl ⟨hc12, rfl⟩)).wk trivial
    · refine im_iconst (q := 59) D99_58 ?_
      refine im_goto (q := 62) (t := 64) D99_59 rfl ?_
      exact (kJ15 (0) (Or.inr ⟨hc12, rfl⟩)).wk trivial
  · replace hP := hP.2 (Int.not_le.mp hc4)
    refine im_iconst (q := 14) D99_13 ?_
    refine im_ld (q := 16) (i := 6) D99_14 rfl rfl rfl ?_
    refine im_isub (q := 17) D99_16 ?_
    refine im_st1 (q := 19) (i := 6) (L' := [some (.ref a0), some (vL p1), none, some (vL p3), none, some (.ref p5), some (vI ((-1) - x2))]) D99_17 (Or.inr rfl) (Nat.le_of_ble_eq_true rfl) rfl ?_
    refine im_ld (q := 20) (i := 0) D99_19 rfl rfl rfl ?_
    refine im_ld (q := 22) (i := 6) D99_20 rfl rfl rfl ?_
    refine im_ld (q := 23) (i := 1) D99_22 rfl rfl rfl ?_
    refine im_ld (q := 24) (i := 3) D99_23 rfl rfl rfl ?_
    refine im_callV (q := 27) (kd := 1) (y := 100) (n := 3) (ci := 0) (a := a0) (vs := [.ref a0, vI ((-1) - x2), vL p1, vL p3]) (r := []) (L2 := [some (.ref a0), some (vI ((-1) - x2)), some (vL p1), none, some (vL p3), none, none, none]) D99_24 (im_cal cn_99 cl_0_47) (Or.inl rfl) rfl ha0.1 rfl rfl rfl rfl hd ⟨rfl, rfl, rfl, rfl, trivial⟩ ?_
    refine hP.mono ?_
    rintro _ e40 M18 ⟨x19, rfl, rfl, hP⟩
    refine im_bkS ?_
    obtain ⟨hg20, hP⟩ := hP
    refine im_ifc (q := 30) (t := 33) D99_27 rfl hg20 (fun hc21 => ?_) (fun hc21 => ?_)
    · replace hP := hP.1 hc21
      refine im_ld (q := 34) (i := 0) D99_33 rfl rfl rfl ?_
      refine im_gfR (q := 37) (b := (a0 + 5)) D99_34 (im_fl cn_99 fl_0_25) ha0.1 rfl rfl tR_0_2 rfl ?_
      refine im_ld (q := 39) (i := 6) D99_37 rfl rfl rfl ?_
      obtain ⟨hg22, hP⟩ := hP
      obtain ⟨b23, hb24, hP⟩ := hP
      obtain ⟨hb25, hP⟩ := hP
      refine im_aald (q := 40) D99_39 ha0.2.2.2.1 (Or.inl rfl) hg22.1 hg22.2 (Nat.le_trans ha0.2.2.2.2.2 (by decide)) hb24 ?_
      refine im_callV (q := 43) (kd := 1) (y := 101) (n := 0) (ci := 3) (a := b23) (vs := [.ref b23]) (r := []) (L2 := [some (.ref b23)]) D99_40 (im_cal cn_99 cl_0_51) (Or.inl rfl) rfl hb25.1 rfl rfl rfl rfl hd ⟨rfl, trivial⟩ ?_
      refine hP.mono ?_
      rintro _ e39 M26 ⟨rfl, rfl, hP⟩
      refine im_bkN ?_
      refine im_ld (q := 44) (i := 0) D99_43 rfl rfl rfl ?_
      refine im_gfR (q := 47) (b := (a0 + 5)) D99_44 (im_fl cn_99 fl_0_25) ha0.1 rfl rfl tR_0_2 rfl ?_
      refine im_ld (q := 49) (i := 6) D99_47 rfl rfl rfl ?_
      obtain ⟨b27, hb28, hP⟩ := hP
      obtain ⟨hb29, hP⟩ := hP
      refine im_aald (q := 50) D99_49 ha0.2.2.2.1 (Or.inl rfl) hg22.1 hg22.2 (Nat.le_trans ha0.2.2.2.2.2 (by decide)) hb28 ?_
      refine im_ld (q := 52) (i := 5) D99_50 rfl rfl rfl ?_
      refine im_callV (q := 55) (kd := 1) (y := 97) (n := 1) (ci := 3) (a := b27) (vs := [.ref b27, .ref p5]) (r := []) (L2 := [some (.ref b27), some (.ref p5), none, none, none, none]) D99_52 (im_cal cn_99 cl_0_54) (Or.inl rfl) rfl hb29.1 rfl rfl rfl rfl hd ⟨rfl, rfl, trivial⟩ ?_
      refine hP.mono ?_
      rintro _ e38 M30 ⟨x31, rfl, rfl, hP⟩
      refine im_bkS ?_
      obtain ⟨hg32, hP⟩ := hP
      have hJ35 := hP
      have kJ36 : ∀ x34 : Int, (((x31 = 0) ∧ x34 = (-8)) ∨ ((¬ x31 = 0) ∧ x34 = 0)) → im_T g d 99 64 [none, none, none, none, none, none, none] [vI x34] e M30 K := by
        intro x34 hx37
        have hP := hJ35 x34 hx37
        exact im_iret (q := 65) D99_64 rfl hP
      refine im_ifc (q := 58) (t := 62) D99_55 rfl hg32 (fun hc33 => ?_) (fun hc33 => ?_)
      · refine im_bipush (q := 64) D99_62 rfl ?_
        exact (kJ36 ((-8)) (Or.inl ⟨hc33, rfl⟩)).wk trivial
      · refine im_iconst (q := 59) D99_58 ?_
        refine im_goto (q := 62) (t := 64) D99_59 rfl ?_
        exact (kJ36 (0) (Or.inr ⟨hc33, rfl⟩)).wk trivial
    · replace hP := hP.2 (Decidable.not_not.mp hc21)
      refine im_bipush (q := 32) D99_30 rfl ?_
      exact im_iret (q := 33) D99_32 rfl hP
set_option maxRecDepth 20000 in
set_option maxHeartbeats 4000000 in
theorem k_Book_insert_0 {g : im_g} {d : Nat} {e : im_E} {M : im_M} {K : im_K} {p1 p2 p4 : Int} {a0 na0 : Nat} (ha0 : im_book e a0 na0) (hP : (im_i32 na0) ∧ (((M a0 4) < na0 → (0 ≤ (M a0 4) ∧ (M a0 4) < na0) ∧ ∃ b6 : Nat, ((M (a0 + 5) (M a0 4)) = (b6 : Int)) ∧ (im_num e b6) ∧ im_T g d 100 31 [some (.ref a0), some (vI p1), some (vL p2), none, some (vL p4), none, some (.ref b6), some (vI (M a0 4))] [] e M K) ∧ (na0 ≤ (M a0 4) → K (.inl (some (vI 0))) e M))) : im_T g d 100 0 [some (.ref a0), some (vI p1), some (vL p2), none, some (vL p4), none, none, none] [] e M K := by
  refine im_ld (q := 1) (i := 0) D100_0 rfl rfl rfl ?_
  refine im_rng (j := 4) ha0.1 (by decide) (show (4 : Int) < ((5 : Nat) : Int) by decide) (fun hr1 => ?_)
  refine im_gfI (q := 4) D100_1 (im_fl cn_100 fl_0_29) ha0.1 rfl rfl tI_0_4 rfl ?_
  refine im_ld (q := 5) (i := 0) D100_4 rfl rfl rfl ?_
  refine im_gfR (q := 8) (b := (a0 + 5)) D100_5 (im_fl cn_100 fl_0_25) ha0.1 rfl rfl tR_0_2 rfl ?_
  refine im_alen (q := 9) D100_8 ha0.2.2.2.1 (by decide) ?_
  obtain ⟨hg2, hP⟩ := hP
  refine im_icmp (q := 12) (t := 14) D100_9 rfl hr1 hg2 (fun hc3 => ?_) (fun hc3 => ?_)
  · replace hP := hP.1 hc3
    refine im_ld (q := 15) (i := 0) D100_14 rfl rfl rfl ?_
    refine im_gfR (q := 18) (b := (a0 + 5)) D100_15 (im_fl cn_100 fl_0_25) ha0.1 rfl rfl tR_0_2 rfl ?_
    refine im_ld (q := 19) (i := 0) D100_18 rfl rfl rfl ?_
    refine im_gfI (q := 22) D100_19 (im_fl cn_100 fl_0_29) ha0.1 rfl rfl tI_0_4 rfl ?_
    obtain ⟨hg5, hP⟩ := hP
    obtain ⟨b6, hb7, hP⟩ := hP
    obtain ⟨hb8, hP⟩ := hP
    refine im_aald (q := 23) D100_22 ha0.2.2.2.1 (Or.inl rfl) hg5.1 hg5.2 (Nat.le_trans ha0.2.2.2.2.2 (by decide)) hb7 ?_
    refine im_stR (q := 25) (i := 6) (L' := [some (.ref a0), some (vI p1), some (vL p2), none, some (vL p4), none, some (.ref b6), none]) D100_23 (Or.inr rfl) (Nat.le_of_ble_eq_true rfl) rfl ?_
    refine im_ld (q := 26) (i := 0) D100_25 rfl rfl rfl ?_
    refine im_gfI (q := 29) D100_26 (im_fl cn_100 fl_0_29) ha0.1 rfl rfl tI_0_4 rfl ?_
    refine im_st1 (q := 31) (i := 7) (L' := [some (.ref a0), some (vI p1), some (vL p2), none, some (vL p4), none, some (.ref b6), some (vI (M a0 4))]) D100_29 (Or.inr rfl) (Nat.le_of_ble_eq_true rfl) rfl ?_
    exact hP.wk ⟨rfl, rfl, rfl, rfl, rfl, rfl, trivial⟩
  · replace hP := hP.2 (Int.not_lt.mp hc3)
    refine im_iconst (q := 13) D100_12 ?_
    exact im_zret (q := 14) D100_13 rfl (by decide) hP
set_option maxRecDepth 20000 in
set_option maxHeartbeats 4000000 in
theorem k_Book_insert_31 {g : im_g} {d : Nat} {e : im_E} {M : im_M} {K : im_K} {p1 p2 p4 p7 : Int} {a0 na0 : Nat} (ha0 : im_book e a0 na0) {p6 : Nat} (hp6 : im_num e p6) (hP : (im_i32 p7) ∧ (im_i32 p1) ∧ ((p7 ≤ p1 → (0 ≤ p1 ∧ p1 < na0) ∧ (im_i64 p2) ∧ (im_i64 p4) ∧ (im_i32 (((im_u (im_u (im_u M (a0 + 3) p1 p2) (a0 + 4) p1 p4) (a0 + 5) p1 (p6 : Nat)) a0 4) + 1)) ∧ K (.inl (some (vI 1))) e (im_u (im_u (im_u (im_u M (a0 + 3) p1 p2) (a0 + 4) p1 p4) (a0 + 5) p1 (p6 : Nat)) a0 4 (((im_u (im_u (im_u M (a0 + 3) p1 p2) (a0 + 4) p1 p4) (a0 + 5) p1 (p6 : Nat)) a0 4) + 1))) ∧ (p1 < p7 → (0 ≤ (p7 - 1) ∧ (p7 - 1) < na0) ∧ (0 ≤ p7 ∧ p7 < na0) ∧ ∃ b13 : Nat, (((im_u (im_u M (a0 + 3) p7 (M (a0 + 3) (p7 - 1))) (a0 + 4) p7 ((im_u M (a0 + 3) p7 (M (a0 + 3) (p7 - 1))) (a0 + 4) (p7 - 1))) (a0 + 5) (p7 - 1)) = (b13 : Int)) ∧ (im_num e b13) ∧ im_T g d 100 31 [some (.ref a0), some (vI p1), some (vL p2), none, some (vL p4), none, some (.ref p6), some (vI (p7 + (-1)))] [] e (im_u (im_u (im_u M (a0 + 3) p7 (M (a0 + 3) (p7 - 1))) (a0 + 4) p7 ((im_u M (a0 + 3) p7 (M (a0 + 3) (p7 - 1))) (a0 + 4) (p7 - 1))) (a0 + 5) p7 (b13 : Nat)) K))) : im_T g d 100 31 [some (.ref a0), some (vI p1), some (vL p2), none, some (vL p4), none, some (.ref p6), some (vI p7)] [] e M K := by
  refine im_ld (q := 33) (i := 7) D100_31 rfl rfl rfl ?_
  refine im_ld (q := 34) (i := 1) D100_33 rfl rfl rfl ?_
  obtain ⟨hg1, hP⟩ := hP
  obtain ⟨hg2, hP⟩ := hP
  refine im_icmp (q := 37) (t := 91) D100_34 rfl hg1 hg2 (fun hc3 => ?_) (fun hc3 => ?_)
  · replace hP := hP.1 hc3
    refine im_ld (q := 92) (i := 0) D100_91 rfl rfl rfl ?_
    refine im_gfR (q := 95) (b := (a0 + 3)) D100_92 (im_fl cn_100 fl_0_18) ha0.1 rfl rfl tR_0_0 rfl ?_
    refine im_ld (q := 96) (i := 1) D100_95 rfl rfl rfl ?_
    refine im_ld (q := 97) (i := 2) D100_96 rfl rfl rfl ?_
    obtain ⟨hg6, hP⟩ := hP
    obtain ⟨hg7, hP⟩ := hP
    refine im_last (q := 98) D100_97 ha0.2.1 hg6.1 hg6.2 (Nat.le_trans ha0.2.2.2.2.2 (by decide)) hg7 ?_
    refine im_ld (q := 99) (i := 0) D100_98 rfl rfl rfl ?_
    refine im_gfR (q := 102) (b := (a0 + 4)) D100_99 (im_fl cn_100 fl_0_22) ha0.1 rfl rfl tR_0_1 rfl ?_
    refine im_ld (q := 103) (i := 1) D100_102 rfl rfl rfl ?_
    refine im_ld (q := 105) (i := 4) D100_103 rfl rfl rfl ?_
    obtain ⟨hg8, hP⟩ := hP
    refine im_last (q := 106) D100_105 ha0.2.2.1 hg6.1 hg6.2 (Nat.le_trans ha0.2.2.2.2.2 (by decide)) hg8 ?_
    refine im_ld (q := 107) (i := 0) D100_106 rfl rfl rfl ?_
    refine im_gfR (q := 110) (b := (a0 + 5)) D100_107 (im_fl cn_100 fl_0_25) ha0.1 rfl rfl tR_0_2 rfl ?_
    refine im_ld (q := 111) (i := 1) D100_110 rfl rfl rfl ?_
    refine im_ld (q := 113) (i := 6) D100_111 rfl rfl rfl ?_
    refine im_aast (q := 114) D100_113 ha0.2.2.2.1 (Or.inl rfl) hp6.1 rfl hg6.1 hg6.2 (Nat.le_trans ha0.2.2.2.2.2 (by decide)) ?_
    refine im_ld (q := 115) (i := 0) D100_114 rfl rfl rfl ?_
    refine im_dup (q := 116) D100_115 rfl ?_
    refine im_rng (j := 4) ha0.1 (by decide) (show (4 : Int) < ((5 : Nat) : Int) by decide) (fun hr9 => ?_)
    refine im_gfI (q := 119) D100_116 (im_fl cn_100 fl_0_29) ha0.1 rfl rfl tI_0_4 rfl ?_
    refine im_iconst (q := 120) D100_119 ?_
    refine im_iadd (q := 121) D100_120 ?_
    obtain ⟨hg10, hP⟩ := hP
    refine im_pfI (q := 124) D100_121 (im_fl cn_100 fl_0_29) ha0.1 rfl rfl ti_0_4 hg10 ?_
    refine im_iconst (q := 125) D100_124 ?_
    exact im_zret (q := 126) D100_125 rfl (by decide) hP
  · replace hP := hP.2 (Int.not_le.mp hc3)
    refine im_ld (q := 38) (i := 0) D100_37 rfl rfl rfl ?_
    refine im_gfR (q := 41) (b := (a0 + 3)) D100_38 (im_fl cn_100 fl_0_18) ha0.1 rfl rfl tR_0_0 rfl ?_
    refine im_ld (q := 43) (i := 7) D100_41 rfl rfl rfl ?_
    refine im_ld (q := 44) (i := 0) D100_43 rfl rfl rfl ?_
    refine im_gfR (q := 47) (b := (a0 + 3)) D100_44 (im_fl cn_100 fl_0_18) ha0.1 rfl rfl tR_0_0 rfl ?_
    refine im_ld (q := 49) (i := 7) D100_47 rfl rfl rfl ?_
    refine im_iconst (q := 50) D100_49 ?_
    refine im_isub (q := 51) D100_50 ?_
    obtain ⟨hg4, hP⟩ := hP
    refine im_rng (j := (p7 - 1)) ha0.2.1 hg4.1 hg4.2 (fun hr5 => ?_)
    refine im_lald (q := 52) D100_51 ha0.2.1 hg4.1 hg4.2 (Nat.le_trans ha0.2.2.2.2.2 (by decide)) rfl ?_
    obtain ⟨hg11, hP⟩ := hP
    refine im_last (q := 53) D100_52 ha0.2.1 hg11.1 hg11.2 (Nat.le_trans ha0.2.2.2.2.2 (by decide)) hr5 ?_
    refine im_ld (q := 54) (i := 0) D100_53 rfl rfl rfl ?_
    refine im_gfR (q := 57) (b := (a0 + 4)) D100_54 (im_fl cn_100 fl_0_22) ha0.1 rfl rfl tR_0_1 rfl ?_
    refine im_ld (q := 59) (i := 7) D100_57 rfl rfl rfl ?_
    refine im_ld (q := 60) (i := 0) D100_59 rfl rfl rfl ?_
    refine im_gfR (q := 63) (b := (a0 + 4)) D100_60 (im_fl cn_100 fl_0_22) ha0.1 rfl rfl tR_0_1 rfl ?_
    refine im_ld (q := 65) (i := 7) D100_63 rfl rfl rfl ?_
    refine im_iconst (q := 66) D100_65 ?_
    refine im_isub (q := 67) D100_66 ?_
    refine im_rng (j := (p7 - 1)) ha0.2.2.1 hg4.1 hg4.2 (fun hr12 => ?_)
    refine im_lald (q := 68) D100_67 ha0.2.2.1 hg4.1 hg4.2 (Nat.le_trans ha0.2.2.2.2.2 (by decide)) rfl ?_
    refine im_last (q := 69) D100_68 ha0.2.2.1 hg11.1 hg11.2 (Nat.le_trans ha0.2.2.2.2.2 (by decide)) hr12 ?_
    refine im_ld (q := 70) (i := 0) D100_69 rfl rfl rfl ?_
    refine im_gfR (q := 73) (b := (a0 + 5)) D100_70 (im_fl cn_100 fl_0_25) ha0.1 rfl rfl tR_0_2 rfl ?_
    refine im_ld (q := 75) (i := 7) D100_73 rfl rfl rfl ?_
    refine im_ld (q := 76) (i := 0) D100_75 rfl rfl rfl ?_
    refine im_gfR (q := 79) (b := (a0 + 5)) D100_76 (im_fl cn_100 fl_0_25) ha0.1 rfl rfl tR_0_2 rfl ?_
    refine im_ld (q := 81) (i := 7) D100_79 rfl rfl rfl ?_
    refine im_iconst (q := 82) D100_81 ?_
    refine im_isub (q := 83) D100_82 ?_
    obtain ⟨b13, hb14, hP⟩ := hP
    obtain ⟨hb15, hP⟩ := hP
    refine im_aald (q := 84) D100_83 ha0.2.2.2.1 (Or.inl rfl) hg4.1 hg4.2 (Nat.le_trans ha0.2.2.2.2.2 (by decide)) hb14 ?_
    refine im_aast (q := 85) D100_84 ha0.2.2.2.1 (Or.inl rfl) hb15.1 rfl hg11.1 hg11.2 (Nat.le_trans ha0.2.2.2.2.2 (by decide)) ?_
    refine im_iinc (q := 88) (i := 7) (L' := [some (.ref a0), some (vI p1), some (vL p2), none, some (vL p4), none, some (.ref p6), some (vI (p7 + (-1)))]) D100_85 rfl (Nat.le_of_ble_eq_true rfl) rfl ?_
    refine im_goto (q := 91) (t := 31) D100_88 rfl ?_
    exact hP.wk ⟨rfl, rfl, rfl, rfl, rfl, rfl, trivial⟩
set_option maxRecDepth 20000 in
set_option maxHeartbeats 4000000 in
theorem k_Num_clear_0 {g : im_g} {d : Nat} {e : im_E} {M : im_M} {K : im_K} {a0 : Nat} (ha0 : im_num e a0) (hP : K (.inl none) e (im_u (im_u M a0 0 0) a0 1 0)) : im_T g d 101 0 [some (.ref a0)] [] e M K := by
  refine im_ld (q := 1) (i := 0) D101_0 rfl rfl rfl ?_
  refine im_iconst (q := 2) D101_1 ?_
  refine im_pfI (q := 5) D101_2 (im_fl cn_101 fl_3_15) ha0.1 rfl rfl ti_3_0 (by decide) ?_
  refine im_ld (q := 6) (i := 0) D101_5 rfl rfl rfl ?_
  refine im_iconst (q := 7) D101_6 ?_
  refine im_pfI (q := 10) D101_7 (im_fl cn_101 fl_3_19) ha0.1 rfl rfl ti_3_1 (by decide) ?_
  exact im_vret (q := 11) D101_10 rfl hP
set_option maxRecDepth 20000 in
set_option maxHeartbeats 4000000 in
theorem k_P_transactText_0 {g : im_g} {d : Nat} {e : im_E} {M : im_M} {K : im_K} {p1 p3 p5 p7 : Int} (hd : 1 ≤ d) (hP : (im_i64 p1) ∧ ((((0 ≤ p1 → ((p1 < 16 → (0 ≤ p1 ∧ p1 < 16) ∧ ∃ b8 : Nat, ((M 29 p1) = (b8 : Int)) ∧ (im_state e b8) ∧ ((¬ (M b8 6) = 0 → im_T g (d - 1) 103 0 [some (.ref 2), some (.ref 1), some (vI p7), some (.ref 328), none, none, none, none] [] e M (im_ri (fun x14 e_ M13 => e = e_ ∧ im_T g (d - 1) 76 0 [some (.ref 2), some (vI x14)] [] e M13 (im_ri (fun x16 e_ M15 => e = e_ ∧ (im_i32 x16) ∧ ((x16 = 0 → im_T g (d - 1) 107 0 [some (.ref 666), some (.ref b8)] [] e M15 (im_r0 (fun  e_ M19 => e = e_ ∧ im_T g (d - 1) 91 0 [some (.ref 1207), some (.ref 76), none] [] e M19 (im_r0 (fun  e_ M20 => e = e_ ∧ ∃ n21 : Nat, (im_book e (b8 + 259) n21) ∧ im_T g (d - 1) 108 0 [some (.ref 931), some (.ref 666), some (.ref (b8 + 259)), some (vI 0)] [] e M20 (im_r0 (fun  e_ M23 => e = e_ ∧ im_T g (d - 1) 109 0 [some (.ref 931), some (vL p3), none, some (vL p5), none, some (.ref 328), some (vI 0), some (vI (M23 328 5)), none, none, none] [] e M23 (im_ri (fun x26 e_ M25 => e = e_ ∧ (im_i32 x26) ∧ ((¬ x26 = 0 → ((¬ x26 = 0 → K (.inl (some (vI x26))) e M25) ∧ (x26 = 0 → im_T g (d - 1) 107 0 [some (.ref b8), some (.ref 666)] [] e M25 (im_r0 (fun  e_ M30 => e = e_ ∧ im_T g (d - 1) 91 0 [some (.ref 76), some (.ref 1207), none] [] e M30 (im_r0 (fun  e_ M31 => e = e_ ∧ im_T g (d - 1) 146 0 [some (.ref 414), some (.ref 1333), none] [] e M31 (im_r0 (fun  e_ M32 => e = e_ ∧ im_T g (d - 1) 146 0 [some (.ref 540), some (.ref 1459), none] [] e M32 (im_r0 (fun  e_ M33 => e = e_ ∧ K (.inl (some (vI x26))) e M33))))))))))) ∧ (x26 = 0 → im_T g (d - 1) 77 0 [some (.ref 0), some (vI 6), some (vL p1), none, some (vL p3), none, some (vL p5), none, some (vI p7)] [] e M25 (im_ri (fun x39 e_ M38 => e = e_ ∧ (im_i32 x39) ∧ ((¬ x39 = 0 → K (.inl (some (vI x39))) e M38) ∧ (x39 = 0 → im_T g (d - 1) 107 0 [some (.ref b8), some (.ref 666)] [] e M38 (im_r0 (fun  e_ M42 => e = e_ ∧ im_T g (d - 1) 91 0 [some (.ref 76), some (.ref 1207), none] [] e M42 (im_r0 (fun  e_ M43 => e = e_ ∧ im_T g (d - 1) 146 0 [some (.ref 414), some (.ref 1333), none] [] e M43 (im_r0 (fun  e_ M44 => e = e_ ∧ im_T g (d - 1) 146 0 [some (.ref 540), some (.ref 1459), none] [] e M44 (im_r0 (fun  e_ M45 => e = e_ ∧ K (.inl (some (vI x39))) e M45))))))))))))))))))))))) ∧ (¬ x16 = 0 → K (.inl (some (vI (-1)))) e M15))))))) ∧ ((M b8 6) = 0 → K (.inl (some (vI (-103)))) e M))))))) ∧ ((((p1 < 0)) ∨ ((0 ≤ p1) ∧ (16 ≤ p1))) → K (.inl (some (vI (-101)))) e M))) : im_T g d 102 0 [some (.ref 0), some (vL p1), none, some (vL p3), none, some (vL p5), none, some (vI p7), none, none] [] e M K := by
  refine im_ld (q := 1) (i := 1) D102_0 rfl rfl rfl ?_
  refine im_lconst (q := 2) (z := 0) D102_1 rfl ?_
  obtain ⟨hg1, hP⟩ := hP
  obtain ⟨hP, hJ4⟩ := hP
  have kJ5 : (((p1 < 0)) ∨ ((0 ≤ p1) ∧ (16 ≤ p1))) → im_T g d 102 14 [none, none, none, none, none, none, none, none, none, none] [] e M K := by
    intro  hx6
    have hP := hJ4  hx6
    refine im_bipush (q := 16) D102_14 rfl ?_
    exact im_iret (q := 17) D102_16 rfl hP
  refine im_lif (q := 3) (q2 := 6) (t := 14) D102_2 D102_3 rfl hg1 (by decide) (fun hc2 => ?_) (fun hc2 => ?_)
  · exact (kJ5  (Or.inl hc2)).wk trivial
  · replace hP := hP (Int.not_lt.mp hc2)
    refine im_ld (q := 7) (i := 1) D102_6 rfl rfl rfl ?_
    refine im_ldc2 (q := 10) (n := 16) D102_7 rfl ?_
    refine im_lif (q := 11) (q2 := 14) (t := 17) D102_10 D102_11 rfl hg1 (by decide) (fun hc3 => ?_) (fun hc3 => ?_)
    · replace hP := hP hc3
      refine im_ld (q := 18) (i := 0) D102_17 rfl rfl rfl ?_
      refine im_gfR (q := 21) (b := 29) D102_18 (im_fl cn_102 fl_11_55) sf_0 rfl rfl tR_11_7 rfl ?_
      refine im_ld (q := 22) (i := 1) D102_21 rfl rfl rfl ?_
      refine im_l2i (q := 23) D102_22 ?_
      obtain ⟨hg7, hP⟩ := hP
      obtain ⟨b8, hb9, hP⟩ := hP
      obtain ⟨hb10, hP⟩ := hP
      refine im_aald (q := 24) D102_23 sf_29 (Or.inr rfl) hg7.1 hg7.2 (by decide) hb9 ?_
      refine im_stR (q := 26) (i := 8) (L' := [some (.ref 0), some (vL p1), none, some (vL p3), none, some (vL p5), none, some (vI p7), some (.ref b8), none]) D102_24 (Or.inr rfl) (Nat.le_of_ble_eq_true rfl) rfl ?_
      refine im_ld (q := 28) (i := 8) D102_26 rfl rfl rfl ?_
      refine im_rng (j := 6) hb10.1 (by decide) (show (6 : Int) < ((7 : Nat) : Int) by decide) (fun hr11 => ?_)
      refine im_gfI (q := 31) D102_28 (im_fl cn_102 fl_11_290) hb10.1 rfl rfl tI_9_6 rfl ?_
      refine im_ifc (q := 34) (t := 37) D102_31 rfl (im_z32 hr11) (fun hc12 => ?_) (fun hc12 => ?_)
      · replace hP := hP.1 hc12
        refine im_ld (q := 38) (i := 0) D102_37 rfl rfl rfl ?_
        refine im_gfR (q := 41) (b := 2) D102_38 (im_fl cn_102 fl_11_16) sf_0 rfl rfl tR_11_2 rfl ?_
        refine im_ld (q := 42) (i := 0) D102_41 rfl rfl rfl ?_
        refine im_gfR (q := 45) (b := 2) D102_42 (im_fl cn_102 fl_11_16) sf_0 rfl rfl tR_11_2 rfl ?_
        refine im_ld (q := 46) (i := 0) D102_45 rfl rfl rfl ?_
        refine im_gfR (q := 49) (b := 1) D102_46 (im_fl cn_102 fl_11_9) sf_0 rfl rfl tR_11_0 rfl ?_
        refine im_ld (q := 51) (i := 7) D102_49 rfl rfl rfl ?_
        refine im_ld (q := 52) (i := 0) D102_51 rfl rfl rfl ?_
        refine im_gfR (q := 55) (b := 328) D102_52 (im_fl cn_102 fl_11_77) sf_0 rfl rfl tR_11_11 rfl ?_
        refine im_callV (q := 58) (kd := 1) (y := 103) (n := 3) (ci := 6) (a := 2) (vs := [.ref 2, .ref 1, vI p7, .ref 328]) (r := [.ref 2]) (L2 := [some (.ref 2), some (.ref 1), some (vI p7), some (.ref 328), none, none, none, none]) D102_55 (im_cal cn_102 cl_11_333) (Or.inl rfl) rfl sf_2 rfl rfl rfl rfl hd ⟨rfl, rfl, rfl, rfl, trivial⟩ ?_
        refine hP.mono ?_
        rintro _ e56 M13 ⟨x14, rfl, rfl, hP⟩
        refine im_bkS ?_
        refine im_callV (q := 61) (kd := 1) (y := 76) (n := 1) (ci := 6) (a := 2) (vs := [.ref 2, vI x14]) (r := []) (L2 := [some (.ref 2), some (vI x14)]) D102_58 (im_cal cn_102 cl_11_220) (Or.inl rfl) rfl sf_2 rfl rfl rfl rfl hd ⟨rfl, rfl, trivial⟩ ?_
        refine hP.mono ?_
        rintro _ e55 M15 ⟨x16, rfl, rfl, hP⟩
        refine im_bkS ?_
        obtain ⟨hg17, hP⟩ := hP
        refine im_ifc (q := 64) (t := 66) D102_61 rfl hg17 (fun hc18 => ?_) (fun hc18 => ?_)
        · replace hP := hP.1 hc18
          refine im_ld (q := 67) (i := 0) D102_66 rfl rfl rfl ?_
          refine im_gfR (q := 70) (b := 666) D102_67 (im_fl cn_102 fl_11_88) sf_0 rfl rfl tR_11_14 rfl ?_
          refine im_ld (q := 72) (i := 8) D102_70 rfl rfl rfl ?_
          refine im_callV (q := 75) (kd := 1) (y := 107) (n := 1) (ci := 9) (a := 666) (vs := [.ref 666, .ref b8]) (r := []) (L2 := [some (.ref 666), some (.ref b8)]) D102_72 (im_cal cn_102 cl_11_337) (Or.inl rfl) rfl sf_666 rfl rfl rfl rfl hd ⟨rfl, rfl, trivial⟩ ?_
          refine hP.mono ?_
          rintro _ e54 M19 ⟨rfl, rfl, hP⟩
          refine im_bkN ?_
          refine im_ld (q := 76) (i := 0) D102_75 rfl rfl rfl ?_
          refine im_gfR (q := 79) (b := 931) D102_76 (im_fl cn_102 fl_11_97) sf_0 rfl rfl tR_11_15 rfl ?_
          refine im_gfR (q := 82) (b := 1207) D102_79 (im_fl cn_102 fl_11_340) sf_931 rfl rfl tR_2_7 rfl ?_
          refine im_ld (q := 83) (i := 0) D102_82 rfl rfl rfl ?_
          refine im_gfR (q := 86) (b := 76) D102_83 (im_fl cn_102 fl_11_68) sf_0 rfl rfl tR_11_9 rfl ?_
          refine im_callV (q := 89) (kd := 1) (y := 91) (n := 1) (ci := 0) (a := 1207) (vs := [.ref 1207, .ref 76]) (r := []) (L2 := [some (.ref 1207), some (.ref 76), none]) D102_86 (im_cal cn_102 cl_11_329) (Or.inl rfl) rfl sf_1207 rfl rfl rfl rfl hd ⟨rfl, rfl, trivial⟩ ?_
          refine hP.mono ?_
          rintro _ e53 M20 ⟨rfl, rfl, hP⟩
          refine im_bkN ?_
          refine im_ld (q := 90) (i := 0) D102_89 rfl rfl rfl ?_
          refine im_gfR (q := 93) (b := 931) D102_90 (im_fl cn_102 fl_11_97) sf_0 rfl rfl tR_11_15 rfl ?_
          refine im_ld (q := 94) (i := 0) D102_93 rfl rfl rfl ?_
          refine im_gfR (q := 97) (b := 666) D102_94 (im_fl cn_102 fl_11_88) sf_0 rfl rfl tR_11_14 rfl ?_
          refine im_ld (q := 99) (i := 8) D102_97 rfl rfl rfl ?_
          obtain ⟨n21, hb22, hP⟩ := hP
          refine im_gfR (q := 102) (b := (b8 + 259)) D102_99 (im_fl cn_102 fl_11_326) hb10.1 rfl rfl tR_9_3 rfl ?_
          refine im_iconst (q := 103) D102_102 ?_
          refine im_callV (q := 106) (kd := 1) (y := 108) (n := 3) (ci := 2) (a := 931) (vs := [.ref 931, .ref 666, .ref (b8 + 259), vI 0]) (r := []) (L2 := [some (.ref 931), some (.ref 666), some (.ref (b8 + 259)), some (vI 0)]) D102_103 (im_cal cn_102 cl_11_343) (Or.inl rfl) rfl sf_931 rfl rfl rfl rfl hd ⟨rfl, rfl, rfl, rfl, trivial⟩ ?_
          refine hP.mono ?_
          rintro _ e52 M23 ⟨rfl, rfl, hP⟩
          refine im_bkN ?_
          refine im_ld (q := 107) (i := 0) D102_106 rfl rfl rfl ?_
          refine im_gfR (q := 110) (b := 931) D102_107 (im_fl cn_102 fl_11_97) sf_0 rfl rfl tR_11_15 rfl ?_
          refine im_ld (q := 111) (i := 3) D102_110 rfl rfl rfl ?_
          refine im_ld (q := 113) (i := 5) D102_111 rfl rfl rfl ?_
          refine im_ld (q := 114) (i := 0) D102_113 rfl rfl rfl ?_
          refine im_gfR (q := 117) (b := 328) D102_114 (im_fl cn_102 fl_11_77) sf_0 rfl rfl tR_11_11 rfl ?_
          refine im_iconst (q := 118) D102_117 ?_
          refine im_ld (q := 119) (i := 0) D102_118 rfl rfl rfl ?_
          refine im_gfR (q := 122) (b := 328) D102_119 (im_fl cn_102 fl_11_77) sf_0 rfl rfl tR_11_11 rfl ?_
          refine im_rng (j := 5) sf_328 (by decide) (by decide) (fun hr24 => ?_)
          refine im_gfI (q := 125) D102_122 (im_fl cn_102 fl_11_347) sf_328 rfl rfl tI_7_5 rfl ?_
          refine im_callV (q := 128) (kd := 1) (y := 109) (n := 5) (ci := 2) (a := 931) (vs := [.ref 931, vL p3, vL p5, .ref 328, vI 0, vI (M23 328 5)]) (r := []) (L2 := [some (.ref 931), some (vL p3), none, some (vL p5), none, some (.ref 328), some (vI 0), some (vI (M23 328 5)), none, none, none]) D102_125 (im_cal cn_102 cl_11_348) (Or.inl rfl) rfl sf_931 rfl rfl rfl rfl hd ⟨rfl, rfl, rfl, rfl, rfl, rfl, trivial⟩ ?_
          refine hP.mono ?_
          rintro _ e51 M25 ⟨x26, rfl, rfl, hP⟩
          refine im_bkS ?_
          refine im_st1 (q := 130) (i := 9) (L' := [some (.ref 0), some (vL p1), none, some (vL p3), none, some (vL p5), none, some (vI p7), some (.ref b8), some (vI x26)]) D102_128 (Or.inr rfl) (Nat.le_of_ble_eq_true rfl) rfl ?_
          refine im_ld (q := 132) (i := 9) D102_130 rfl rfl rfl ?_
          obtain ⟨hg27, hP⟩ := hP
          refine im_ifc (q := 135) (t := 149) D102_132 rfl hg27 (fun hc28 => ?_) (fun hc28 => ?_)
          · replace hP := hP.1 hc28
            refine im_ld (q := 151) (i := 9) D102_149 rfl rfl rfl ?_
            refine im_ifc (q := 154) (t := 205) D102_151 rfl hg27 (fun hc29 => ?_) (fun hc29 => ?_)
            · replace hP := hP.1 hc29
              refine im_ld (q := 207) (i := 9) D102_205 rfl rfl rfl ?_
              exact im_iret (q := 208) D102_207 rfl hP
            · replace hP := hP.2 (Decidable.not_not.mp hc29)
              refine im_ld (q := 156) (i := 8) D102_154 rfl rfl rfl ?_
              refine im_ld (q := 157) (i := 0) D102_156 rfl rfl rfl ?_
              refine im_gfR (q := 160) (b := 666) D102_157 (im_fl cn_102 fl_11_88) sf_0 rfl rfl tR_11_14 rfl ?_
              refine im_callV (q := 163) (kd := 1) (y := 107) (n := 1) (ci := 9) (a := b8) (vs := [.ref b8, .ref 666]) (r := []) (L2 := [some (.ref b8), some (.ref 666)]) D102_160 (im_cal cn_102 cl_11_337) (Or.inl rfl) rfl hb10.1 rfl rfl rfl rfl hd ⟨rfl, rfl, trivial⟩ ?_
              refine hP.mono ?_
              rintro _ e37 M30 ⟨rfl, rfl, hP⟩
              refine im_bkN ?_
              refine im_ld (q := 164) (i := 0) D102_163 rfl rfl rfl ?_
              refine im_gfR (q := 167) (b := 76) D102_164 (im_fl cn_102 fl_11_68) sf_0 rfl rfl tR_11_9 rfl ?_
              refine im_ld (q := 168) (i := 0) D102_167 rfl rfl rfl ?_
              refine im_gfR (q := 171) (b := 931) D102_168 (im_fl cn_102 fl_11_97) sf_0 rfl rfl tR_11_15 rfl ?_
              refine im_gfR (q := 174) (b := 1207) D102_171 (im_fl cn_102 fl_11_340) sf_931 rfl rfl tR_2_7 rfl ?_
              refine im_callV (q := 177) (kd := 1) (y := 91) (n := 1) (ci := 0) (a := 76) (vs := [.ref 76, .ref 1207]) (r := []) (L2 := [some (.ref 76), some (.ref 1207), none]) D102_174 (im_cal cn_102 cl_11_329) (Or.inl rfl) rfl sf_76 rfl rfl rfl rfl hd ⟨rfl, rfl, trivial⟩ ?_
              refine hP.mono ?_
              rintro _ e36 M31 ⟨rfl, rfl, hP⟩
              refine im_bkN ?_
              refine im_ld (q := 178) (i := 0) D102_177 rfl rfl rfl ?_
              refine im_gfR (q := 181) (b := 414) D102_178 (im_fl cn_102 fl_11_81) sf_0 rfl rfl tR_11_12 rfl ?_
              refine im_ld (q := 182) (i := 0) D102_181 rfl rfl rfl ?_
              refine im_gfR (q := 185) (b := 931) D102_182 (im_fl cn_102 fl_11_97) sf_0 rfl rfl tR_11_15 rfl ?_
              refine im_gfR (q := 188) (b := 1333) D102_185 (im_fl cn_102 fl_11_352) sf_931 rfl rfl tR_2_8 rfl ?_
              refine im_callV (q := 191) (kd := 1) (y := 146) (n := 1) (ci := 7) (a := 414) (vs := [.ref 414, .ref 1333]) (r := []) (L2 := [some (.ref 414), some (.ref 1333), none]) D102_188 (im_cal cn_102 cl_11_353) (Or.inl rfl) rfl sf_414 rfl rfl rfl rfl hd ⟨rfl, rfl, trivial⟩ ?_
              refine hP.mono ?_
              rintro _ e35 M32 ⟨rfl, rfl, hP⟩
              refine im_bkN ?_
              refine im_ld (q := 192) (i := 0) D102_191 rfl rfl rfl ?_
              refine im_gfR (q := 195) (b := 540) D102_192 (im_fl cn_102 fl_11_84) sf_0 rfl rfl tR_11_13 rfl ?_
              refine im_ld (q := 196) (i := 0) D102_195 rfl rfl rfl ?_
              refine im_gfR (q := 199) (b := 931) D102_196 (im_fl cn_102 fl_11_97) sf_0 rfl rfl tR_11_15 rfl ?_
              refine im_gfR (q := 202) (b := 1459) D102_199 (im_fl cn_102 fl_11_356) sf_931 rfl rfl tR_2_9 rfl ?_
              refine im_callV (q := 205) (kd := 1) (y := 146) (n := 1) (ci := 7) (a := 540) (vs := [.ref 540, .ref 1459]) (r := []) (L2 := [some (.ref 540), some (.ref 1459), none]) D102_202 (im_cal cn_102 cl_11_353) (Or.inl rfl) rfl sf_540 rfl rfl rfl rfl hd ⟨rfl, rfl, trivial⟩ ?_
              refine hP.mono ?_
              rintro _ e34 M33 ⟨rfl, rfl, hP⟩
              refine im_bkN ?_
              refine im_ld (q := 207) (i := 9) D102_205 rfl rfl rfl ?_
              exact im_iret (q := 208) D102_207 rfl hP
          · replace hP := hP.2 (Decidable.not_not.mp hc28)
            refine im_ld (q := 136) (i := 0) D102_135 rfl rfl rfl ?_
            refine im_bipush (q := 138) D102_136 rfl ?_
            refine im_ld (q := 139) (i := 1) D102_138 rfl rfl rfl ?_
            refine im_ld (q := 140) (i := 3) D102_139 rfl rfl rfl ?_
            refine im_ld (q := 142) (i := 5) D102_140 rfl rfl rfl ?_
            refine im_ld (q := 144) (i := 7) D102_142 rfl rfl rfl ?_
            refine im_callV (q := 147) (kd := 1) (y := 77) (n := 5) (ci := 11) (a := 0) (vs := [.ref 0, vI 6, vL p1, vL p3, vL p5, vI p7]) (r := []) (L2 := [some (.ref 0), some (vI 6), some (vL p1), none, some (vL p3), none, some (vL p5), none, some (vI p7)]) D102_144 (im_cal cn_102 cl_11_228) (Or.inl rfl) rfl sf_0 rfl rfl rfl rfl hd ⟨rfl, rfl, rfl, rfl, rfl, rfl, trivial⟩ ?_
            refine hP.mono ?_
            rintro _ e50 M38 ⟨x39, rfl, rfl, hP⟩
            refine im_bkS ?_
            refine im_st1 (q := 149) (i := 9) (L' := [some (.ref 0), some (vL p1), none, some (vL p3), none, some (vL p5), none, some (vI p7), some (.ref b8), some (vI x39)]) D102_147 (Or.inr rfl) (Nat.le_of_ble_eq_true rfl) rfl ?_
            refine im_ld (q := 151) (i := 9) D102_149 rfl rfl rfl ?_
            obtain ⟨hg40, hP⟩ := hP
            refine im_ifc (q := 154) (t := 205) D102_151 rfl hg40 (fun hc41 => ?_) (fun hc41 => ?_)
            · replace hP := hP.1 hc41
              refine im_ld (q := 207) (i := 9) D102_205 rfl rfl rfl ?_
              exact im_iret (q := 208) D102_207 rfl hP
            · replace hP := hP.2 (Decidable.not_not.mp hc41)
              refine im_ld (q := 156) (i := 8) D102_154 rfl rfl rfl ?_
              refine im_ld (q := 157) (i := 0) D102_156 rfl rfl rfl ?_
              refine im_gfR (q := 160) (b := 666) D102_157 (im_fl cn_102 fl_11_88) sf_0 rfl rfl tR_11_14 rfl ?_
              refine im_callV (q := 163) (kd := 1) (y := 107) (n := 1) (ci := 9) (a := b8) (vs := [.ref b8, .ref 666]) (r := []) (L2 := [some (.ref b8), some (.ref 666)]) D102_160 (im_cal cn_102 cl_11_337) (Or.inl rfl) rfl hb10.1 rfl rfl rfl rfl hd ⟨rfl, rfl, trivial⟩ ?_
              refine hP.mono ?_
              rintro _ e49 M42 ⟨rfl, rfl, hP⟩
              refine im_bkN ?_
              refine im_ld (q := 164) (i := 0) D102_163 rfl rfl rfl ?_
              refine im_gfR (q := 167) (b := 76) D102_164 (im_fl cn_102 fl_11_68) sf_0 rfl rfl tR_11_9 rfl ?_
              refine im_ld (q := 168) (i := 0) D102_167 rfl rfl rfl ?_
              refine im_gfR (q := 171) (b := 931) D102_168 (im_fl cn_102 fl_11_97) sf_0 rfl rfl tR_11_15 rfl ?_
              refine im_gfR (q := 174) (b := 1207) D102_171 (im_fl cn_102 fl_11_340) sf_931 rfl rfl tR_2_7 rfl ?_
              refine im_callV (q := 177) (kd := 1) (y := 91) (n := 1) (ci := 0) (a := 76) (vs := [.ref 76, .ref 1207]) (r := []) (L2 := [some (.ref 76), some (.ref 1207), none]) D102_174 (im_cal cn_102 cl_11_329) (Or.inl rfl) rfl sf_76 rfl rfl rfl rfl hd ⟨rfl, rfl, trivial⟩ ?_
              refine hP.mono ?_
              rintro _ e48 M43 ⟨rfl, rfl, hP⟩
              refine im_bkN ?_
              refine im_ld (q := 178) (i := 0) D102_177 rfl rfl rfl ?_
              refine im_gfR (q := 181) (b := 414) D102_178 (im_fl cn_102 fl_11_81) sf_0 rfl rfl tR_11_12 rfl ?_
              refine im_ld (q := 182) (i := 0) D102_181 rfl rfl rfl ?_
              refine im_gfR (q := 185) (b := 931) D102_182 (im_fl cn_102 fl_11_97) sf_0 rfl rfl tR_11_15 rfl ?_
              refine im_gfR (q := 188) (b := 1333) D102_185 (im_fl cn_102 fl_11_352) sf_931 rfl rfl tR_2_8 rfl ?_
              refine im_callV (q := 191) (kd := 1) (y := 146) (n := 1) (ci := 7) (a := 414) (vs := [.ref 414, .ref 1333]) (r := []) (L2 := [some (.ref 414), some (.ref 1333), none]) D102_188 (im_cal cn_102 cl_11_353) (Or.inl rfl) rfl sf_414 rfl rfl rfl rfl hd ⟨rfl, rfl, trivial⟩ ?_
              refine hP.mono ?_
              rintro _ e47 M44 ⟨rfl, rfl, hP⟩
              refine im_bkN ?_
              refine im_ld (q := 192) (i := 0) D102_191 rfl rfl rfl ?_
              refine im_gfR (q := 195) (b := 540) D102_192 (im_fl cn_102 fl_11_84) sf_0 rfl rfl tR_11_13 rfl ?_
              refine im_ld (q := 196) (i := 0) D102_195 rfl rfl rfl ?_
              refine im_gfR (q := 199) (b := 931) D102_196 (im_fl cn_102 fl_11_97) sf_0 rfl rfl tR_11_15 rfl ?_
              refine im_gfR (q := 202) (b := 1459) D102_199 (im_fl cn_102 fl_11_356) sf_931 rfl rfl tR_2_9 rfl ?_
              refine im_callV (q := 205) (kd := 1) (y := 146) (n := 1) (ci := 7) (a := 540) (vs := [.ref 540, .ref 1459]) (r := []) (L2 := [some (.ref 540), some (.ref 1459), none]) D102_202 (im_cal cn_102 cl_11_353) (Or.inl rfl) rfl sf_540 rfl rfl rfl rfl hd ⟨rfl, rfl, trivial⟩ ?_
              refine hP.mono ?_
              rintro _ e46 M45 ⟨rfl, rfl, hP⟩
              refine im_bkN ?_
              refine im_ld (q := 207) (i := 9) D102_205 rfl rfl rfl ?_
              exact im_iret (q := 208) D102_207 rfl hP
        · replace hP := hP.2 hc18
          refine im_iconst (q := 65) D102_64 ?_
          exact im_iret (q := 66) D102_65 rfl hP
      · replace hP := hP.2 (Decidable.not_not.mp hc12)
        refine im_bipush (q := 36) D102_34 rfl ?_
        exact im_iret (q := 37) D102_36 rfl hP
    · exact (kJ5  (Or.inr ⟨(Int.not_lt.mp hc2), (Int.not_lt.mp hc3)⟩)).wk trivial
set_option maxRecDepth 20000 in
set_option maxHeartbeats 4000000 in
theorem k_Reader_inputsText_0 {g : im_g} {d : Nat} {e : im_E} {M : im_M} {K : im_K} {p2 : Int} {p1 n1 : Nat} (hs1 : (im_sh0 ++ e)[p1]? = some (0, n1, [])) (hn1 : n1 ≤ 2147483647) {p3 np3 : Nat} (hp3 : im_row e p3 np3) (hd : 1 ≤ d) (hP : im_T g (d - 1) 38 0 [some (.ref 2), some (.ref p1), some (vI p2)] [] e M (im_r0 (fun  e_ M1 => e = e_ ∧ im_T g d 103 21 [some (.ref 2), none, none, some (.ref p3), some (.float 17), some (vI 0), some (vI 0), none] [] e (im_u M1 p3 5 0) K))) : im_T g d 103 0 [some (.ref 2), some (.ref p1), some (vI p2), some (.ref p3), none, none, none, none] [] e M K := by
  refine im_ld (q := 1) (i := 0) D103_0 rfl rfl rfl ?_
  refine im_ld (q := 2) (i := 1) D103_1 rfl rfl rfl ?_
  refine im_ld (q := 3) (i := 2) D103_2 rfl rfl rfl ?_
  refine im_callV (q := 6) (kd := 1) (y := 38) (n := 2) (ci := 6) (a := 2) (vs := [.ref 2, .ref p1, vI p2]) (r := []) (L2 := [some (.ref 2), some (.ref p1), some (vI p2)]) D103_3 (im_cal cn_103 cl_6_101) (Or.inl rfl) rfl sf_2 rfl rfl rfl rfl hd ⟨rfl, rfl, rfl, trivial⟩ ?_
  refine hP.mono ?_
  rintro _ e2 M1 ⟨rfl, rfl, hP⟩
  refine im_bkN ?_
  refine im_ld (q := 7) (i := 3) D103_6 rfl rfl rfl ?_
  refine im_iconst (q := 8) D103_7 ?_
  refine im_pfI (q := 11) D103_8 (im_fl cn_103 fl_6_108) hp3.1 rfl rfl ti_7_5 (by decide) ?_
  refine im_spc (q := 13) (st' := .float 17 :: _) rfl ?_
  refine im_stF (q := 15) (i := 4) (L' := [some (.ref 2), some (.ref p1), some (vI p2), some (.ref p3), some (.float 17), none, none, none]) D103_13 (Or.inr rfl) (Nat.le_of_ble_eq_true rfl) (Nat.le_of_ble_eq_true rfl) rfl ?_
  refine im_iconst (q := 16) D103_15 ?_
  refine im_st1 (q := 18) (i := 5) (L' := [some (.ref 2), some (.ref p1), some (vI p2), some (.ref p3), some (.float 17), some (vI 0), none, none]) D103_16 (Or.inr rfl) (Nat.le_of_ble_eq_true rfl) rfl ?_
  refine im_iconst (q := 19) D103_18 ?_
  refine im_st1 (q := 21) (i := 6) (L' := [some (.ref 2), some (.ref p1), some (vI p2), some (.ref p3), some (.float 17), some (vI 0), some (vI 0), none]) D103_19 (Or.inr rfl) (Nat.le_of_ble_eq_true rfl) rfl ?_
  exact hP.wk ⟨rfl, rfl, rfl, rfl, rfl, trivial⟩
set_option maxRecDepth 20000 in
set_option maxHeartbeats 4000000 in
theorem k_Reader_inputsText_21 {g : im_g} {d : Nat} {e : im_E} {M : im_M} {K : im_K} {p5 p6 : Int} {p3 np3 : Nat} (hp3 : im_row e p3 np3) {p4 : UInt32} (hu_p4 : Nat.blt p4.toNat 30 = true) (hd : 1 ≤ d) (hP : (im_i32 p6) ∧ (((M 2 2) < p6 → K (.inl (some (vI 0))) e M) ∧ (p6 ≤ (M 2 2) → im_T g (d - 1) 40 0 [some (.ref 2), none] [] e M (im_r0 (fun  e_ M4 => e = e_ ∧ ((0 ≤ (M4 2 4) → im_T g (d - 1) 3 0 [some (.float p4)] [] e M4 (im_ri (fun x9 e_ M8 => e = e_ ∧ (im_i32 p5) ∧ (im_i32 x9) ∧ ((x9 ≤ p5 → ((¬ (M8 2 4) = 41 → im_T g (d - 1) 105 0 [some (.ref 2), some (.ref p3)] [] e M8 (im_ri (fun x17 e_ M16 => e = e_ ∧ ((¬ (M16 2 4) = 28 → ((¬ (M16 2 4) = 29 → (im_i32 x17) ∧ ((x17 = 0 → im_T g d 103 21 [some (.ref 2), none, none, some (.ref p3), some (.float 17), some (vI 0), some (vI (p6 + 1)), none] [] e M16 K) ∧ (¬ x17 = 0 → K (.inl (some (vI x17))) e M16))) ∧ ((M16 2 4) = 29 → (im_i32 x17) ∧ ((x17 = 0 → im_T g d 103 21 [some (.ref 2), none, none, some (.ref p3), some (.float 19), some (vI 0), some (vI (p6 + 1)), none] [] e M16 K) ∧ (¬ x17 = 0 → K (.inl (some (vI x17))) e M16))))) ∧ ((M16 2 4) = 28 → (im_i32 x17) ∧ ((x17 = 0 → im_T g d 103 21 [some (.ref 2), none, none, some (.ref p3), some (.float 18), some (vI 0), some (vI (p6 + 1)), none] [] e M16 K) ∧ (¬ x17 = 0 → K (.inl (some (vI x17))) e M16))))))) ∧ ((M8 2 4) = 41 → K (.inl (some (vI 0))) e M8))) ∧ (p5 < x9 → im_T g (d - 1) 5 0 [some (.float p4), some (vI p5)] [] e M8 (im_ri (fun x30 e_ M29 => e = e_ ∧ im_T g (d - 1) 104 0 [some (.ref 2), some (.ref p3), some (vI ((M8 p3 5) - 1)), some (vI x30)] [] e M29 (im_ri (fun x32 e_ M31 => e = e_ ∧ (im_i32 x32) ∧ ((x32 = 0 → im_T g d 103 21 [some (.ref 2), none, none, some (.ref p3), some (.float p4), some (vI (p5 + 1)), some (vI (p6 + 1)), none] [] e M31 K) ∧ (¬ x32 = 0 → K (.inl (some (vI x32))) e M31))))))))))) ∧ ((M4 2 4) < 0 → K (.inl (some (vI (-(M4 2 4))))) e M4))))))) : im_T g d 103 21 [some (.ref 2), none, none, some (.ref p3), some (.float p4), some (vI p5), some (vI p6), none] [] e M K := by
  refine im_ld (q := 23) (i := 6) D103_21 rfl rfl rfl ?_
  refine im_ld (q := 24) (i := 0) D103_23 rfl rfl rfl ?_
  refine im_rng (j := 2) sf_2 (by decide) (by decide) (fun hr1 => ?_)
  refine im_gfI (q := 27) D103_24 (im_fl cn_103 fl_6_54) sf_2 rfl rfl tI_6_2 rfl ?_
  obtain ⟨hg2, hP⟩ := hP
  refine im_icmp (q := 30) (t := 150) D103_27 rfl hg2 hr1 (fun hc3 => ?_) (fun hc3 => ?_)
  · replace hP := hP.1 hc3
    refine im_iconst (q := 151) D103_150 ?_
    exact im_iret (q := 152) D103_151 rfl hP
  · replace hP := hP.2 (Int.not_lt.mp hc3)
    refine im_ld (q := 31) (i := 0) D103_30 rfl rfl rfl ?_
    refine im_callV (q := 34) (kd := 1) (y := 40) (n := 0) (ci := 6) (a := 2) (vs := [.ref 2]) (r := []) (L2 := [some (.ref 2), none]) D103_31 (im_cal cn_103 cl_6_98) (Or.inl rfl) rfl sf_2 rfl rfl rfl rfl hd ⟨rfl, trivial⟩ ?_
    refine hP.mono ?_
    rintro _ e38 M4 ⟨rfl, rfl, hP⟩
    refine im_bkN ?_
    refine im_ld (q := 35) (i := 0) D103_34 rfl rfl rfl ?_
    refine im_rng (j := 4) sf_2 (by decide) (by decide) (fun hr5 => ?_)
    refine im_gfI (q := 38) D103_35 (im_fl cn_103 fl_6_63) sf_2 rfl rfl tI_6_4 rfl ?_
    refine im_ifc (q := 41) (t := 47) D103_38 rfl hr5 (fun hc6 => ?_) (fun hc6 => ?_)
    · replace hP := hP.1 hc6
      refine im_ld (q := 49) (i := 5) D103_47 rfl rfl rfl ?_
      refine im_ld (q := 51) (i := 4) D103_49 rfl rfl (im_u9 hu_p4) ?_
      refine im_callF (q := 54) (kd := 9) (y := 3) (n := 0) (z := 0) (vs := [.float p4]) (r := [vI p5]) (L2 := [some (.float p4)]) D103_51 (im_cal cn_103 cl_6_35) rfl rfl hu_p4 rfl rfl rfl hd ⟨rfl, trivial⟩ ?_
      refine hP.mono ?_
      rintro _ e37 M8 ⟨x9, rfl, rfl, hP⟩
      refine im_bkS ?_
      obtain ⟨hg10, hP⟩ := hP
      obtain ⟨hg11, hP⟩ := hP
      refine im_icmp (q := 57) (t := 83) D103_54 rfl hg10 hg11 (fun hc12 => ?_) (fun hc12 => ?_)
      · replace hP := hP.1 hc12
        refine im_ld (q := 84) (i := 0) D103_83 rfl rfl rfl ?_
        refine im_rng (j := 4) sf_2 (by decide) (by decide) (fun hr13 => ?_)
        refine im_gfI (q := 87) D103_84 (im_fl cn_103 fl_6_63) sf_2 rfl rfl tI_6_4 rfl ?_
        refine im_bipush (q := 89) D103_87 rfl ?_
        refine im_icmp (q := 92) (t := 94) D103_89 rfl hr13 (by decide) (fun hc14 => ?_) (fun hc14 => ?_)
        · replace hP := hP.1 hc14
          refine im_ld (q := 95) (i := 0) D103_94 rfl rfl rfl ?_
          refine im_ld (q := 96) (i := 3) D103_95 rfl rfl rfl ?_
          refine im_callV (q := 99) (kd := 1) (y := 105) (n := 1) (ci := 6) (a := 2) (vs := [.ref 2, .ref p3]) (r := []) (L2 := [some (.ref 2), some (.ref p3)]) D103_96 (im_cal cn_103 cl_6_119) (Or.inl rfl) rfl sf_2 rfl rfl rfl rfl hd ⟨rfl, rfl, trivial⟩ ?_
          refine hP.mono ?_
          rintro _ e28 M16 ⟨x17, rfl, rfl, hP⟩
          refine im_bkS ?_
          refine im_st1 (q := 101) (i := 7) (L' := [some (.ref 2), none, none, some (.ref p3), some (.float p4), some (vI p5), some (vI p6), some (vI x17)]) D103_99 (Or.inr rfl) (Nat.le_of_ble_eq_true rfl) rfl ?_
          refine im_ld (q := 102) (i := 0) D103_101 rfl rfl rfl ?_
          refine im_rng (j := 4) sf_2 (by decide) (by decide) (fun hr18 => ?_)
          refine im_gfI (q := 105) D103_102 (im_fl cn_103 fl_6_63) sf_2 rfl rfl tI_6_4 rfl ?_
          refine im_bipush (q := 107) D103_105 rfl ?_
          refine im_icmp (q := 110) (t := 115) D103_107 rfl hr18 (by decide) (fun hc19 => ?_) (fun hc19 => ?_)
          · replace hP := hP.1 hc19
            refine im_ld (q := 116) (i := 0) D103_115 rfl rfl rfl ?_
            refine im_gfI (q := 119) D103_116 (im_fl cn_103 fl_6_63) sf_2 rfl rfl tI_6_4 rfl ?_
            refine im_bipush (q := 121) D103_119 rfl ?_
            refine im_icmp (q := 124) (t := 129) D103_121 rfl hr18 (by decide) (fun hc21 => ?_) (fun hc21 => ?_)
            · replace hP := hP.1 hc21
              refine im_spc (q := 131) (st' := .float 17 :: _) rfl ?_
              refine im_stF (q := 133) (i := 4) (L' := [some (.ref 2), none, none, some (.ref p3), some (.float 17), some (vI p5), some (vI p6), some (vI x17)]) D103_131 (Or.inr rfl) (Nat.le_of_ble_eq_true rfl) (Nat.le_of_ble_eq_true rfl) rfl ?_
              refine im_iconst (q := 134) D103_133 ?_
              refine im_st1 (q := 136) (i := 5) (L' := [some (.ref 2), none, none, some (.ref p3), some (.float 17), some (vI 0), some (vI p6), some (vI x17)]) D103_134 (Or.inr rfl) (Nat.le_of_ble_eq_true rfl) rfl ?_
              refine im_ld (q := 138) (i := 7) D103_136 rfl rfl rfl ?_
              obtain ⟨hg22, hP⟩ := hP
              refine im_ifc (q := 141) (t := 144) D103_138 rfl hg22 (fun hc23 => ?_) (fun hc23 => ?_)
              · replace hP := hP.1 hc23
                refine im_iinc (q := 147) (i := 6) (L' := [some (.ref 2), none, none, some (.ref p3), some (.float 17), some (vI 0), some (vI (p6 + 1)), some (vI x17)]) D103_144 rfl (Nat.le_of_ble_eq_true rfl) rfl ?_
                refine im_goto (q := 150) (t := 21) D103_147 rfl ?_
                exact hP.wk ⟨rfl, rfl, rfl, rfl, rfl, trivial⟩
              · replace hP := hP.2 hc23
                refine im_ld (q := 143) (i := 7) D103_141 rfl rfl rfl ?_
                exact im_iret (q := 144) D103_143 rfl hP
            · replace hP := hP.2 (Decidable.not_not.mp hc21)
              refine im_spc (q := 126) (st' := .float 19 :: _) rfl ?_
              refine im_goto (q := 129) (t := 131) D103_126 rfl ?_
              refine im_stF (q := 133) (i := 4) (L' := [some (.ref 2), none, none, some (.ref p3), some (.float 19), some (vI p5), some (vI p6), some (vI x17)]) D103_131 (Or.inr rfl) (Nat.le_of_ble_eq_true rfl) (Nat.le_of_ble_eq_true rfl) rfl ?_
              refine im_iconst (q := 134) D103_133 ?_
              refine im_st1 (q := 136) (i := 5) (L' := [some (.ref 2), none, none, some (.ref p3), some (.float 19), some (vI 0), some (vI p6), some (vI x17)]) D103_134 (Or.inr rfl) (Nat.le_of_ble_eq_true rfl) rfl ?_
              refine im_ld (q := 138) (i := 7) D103_136 rfl rfl rfl ?_
              obtain ⟨hg24, hP⟩ := hP
              refine im_ifc (q := 141) (t := 144) D103_138 rfl hg24 (fun hc25 => ?_) (fun hc25 => ?_)
              · replace hP := hP.1 hc25
                refine im_iinc (q := 147) (i := 6) (L' := [some (.ref 2), none, none, some (.ref p3), some (.float 19), some (vI 0), some (vI (p6 + 1)), some (vI x17)]) D103_144 rfl (Nat.le_of_ble_eq_true rfl) rfl ?_
                refine im_goto (q := 150) (t := 21) D103_147 rfl ?_
                exact hP.wk ⟨rfl, rfl, rfl, rfl, rfl, trivial⟩
              · replace hP := hP.2 hc25
                refine im_ld (q := 143) (i := 7) D103_141 rfl rfl rfl ?_
                exact im_iret (q := 144) D103_143 rfl hP
          · replace hP := hP.2 (Decidable.not_not.mp hc19)
            refine im_spc (q := 112) (st' := .float 18 :: _) rfl ?_
            refine im_goto (q := 115) (t := 131) D103_112 rfl ?_
            refine im_stF (q := 133) (i := 4) (L' := [some (.ref 2), none, none, some (.ref p3), some (.float 18), some (vI p5), some (vI p6), some (vI x17)]) D103_131 (Or.inr rfl) (Nat.le_of_ble_eq_true rfl) (Nat.le_of_ble_eq_true rfl) rfl ?_
            refine im_iconst (q := 134) D103_133 ?_
            refine im_st1 (q := 136) (i := 5) (L' := [some (.ref 2), none, none, some (.ref p3), some (.float 18), some (vI 0), some (vI p6), some (vI x17)]) D103_134 (Or.inr rfl) (Nat.le_of_ble_eq_true rfl) rfl ?_
            refine im_ld (q := 138) (i := 7) D103_136 rfl rfl rfl ?_
            obtain ⟨hg26, hP⟩ := hP
            refine im_ifc (q := 141) (t := 144) D103_138 rfl hg26 (fun hc27 => ?_) (fun hc27 => ?_)
            · replace hP := hP.1 hc27
              refine im_iinc (q := 147) (i := 6) (L' := [some (.ref 2), none, none, some (.ref p3), some (.float 18), some (vI 0), some (vI (p6 + 1)), some (vI x17)]) D103_144 rfl (Nat.le_of_ble_eq_true rfl) rfl ?_
              refine im_goto (q := 150) (t := 21) D103_147 rfl ?_
              exact hP.wk ⟨rfl, rfl, rfl, rfl, rfl, trivial⟩
            · replace hP := hP.2 hc27
              refine im_ld (q := 143) (i := 7) D103_141 rfl rfl rfl ?_
              exact im_iret (q := 144) D103_143 rfl hP
        · replace hP := hP.2 (Decidable.not_not.mp hc14)
          refine im_iconst (q := 93) D103_92 ?_
          exact im_iret (q := 94) D103_93 rfl hP
      · replace hP := hP.2 (Int.not_le.mp hc12)
        refine im_ld (q := 58) (i := 0) D103_57 rfl rfl rfl ?_
        refine im_ld (q := 59) (i := 3) D103_58 rfl rfl rfl ?_
        refine im_ld (q := 60) (i := 3) D103_59 rfl rfl rfl ?_
        refine im_rng (j := 5) hp3.1 (by decide) (show (5 : Int) < ((6 : Nat) : Int) by decide) (fun hr15 => ?_)
        refine im_gfI (q := 63) D103_60 (im_fl cn_103 fl_6_108) hp3.1 rfl rfl tI_7_5 rfl ?_
        refine im_iconst (q := 64) D103_63 ?_
        refine im_isub (q := 65) D103_64 ?_
        refine im_ld (q := 67) (i := 4) D103_65 rfl rfl (im_u9 hu_p4) ?_
        refine im_ld (q := 69) (i := 5) D103_67 rfl rfl rfl ?_
        refine im_callF (q := 72) (kd := 9) (y := 5) (n := 1) (z := 0) (vs := [.float p4, vI p5]) (r := [vI ((M8 p3 5) - 1), .ref p3, .ref 2]) (L2 := [some (.float p4), some (vI p5)]) D103_69 (im_cal cn_103 cl_6_41) rfl rfl hu_p4 rfl rfl rfl hd ⟨rfl, rfl, trivial⟩ ?_
        refine hP.mono ?_
        rintro _ e36 M29 ⟨x30, rfl, rfl, hP⟩
        refine im_bkS ?_
        refine im_callV (q := 75) (kd := 1) (y := 104) (n := 3) (ci := 6) (a := 2) (vs := [.ref 2, .ref p3, vI ((M8 p3 5) - 1), vI x30]) (r := []) (L2 := [some (.ref 2), some (.ref p3), some (vI ((M8 p3 5) - 1)), some (vI x30)]) D103_72 (im_cal cn_103 cl_6_115) (Or.inl rfl) rfl sf_2 rfl rfl rfl rfl hd ⟨rfl, rfl, rfl, rfl, trivial⟩ ?_
        refine hP.mono ?_
        rintro _ e35 M31 ⟨x32, rfl, rfl, hP⟩
        refine im_bkS ?_
        refine im_st1 (q := 77) (i := 7) (L' := [some (.ref 2), none, none, some (.ref p3), some (.float p4), some (vI p5), some (vI p6), some (vI x32)]) D103_75 (Or.inr rfl) (Nat.le_of_ble_eq_true rfl) rfl ?_
        refine im_iinc (q := 80) (i := 5) (L' := [some (.ref 2), none, none, some (.ref p3), some (.float p4), some (vI (p5 + 1)), some (vI p6), some (vI x32)]) D103_77 rfl (Nat.le_of_ble_eq_true rfl) rfl ?_
        refine im_goto (q := 83) (t := 136) D103_80 rfl ?_
        refine im_ld (q := 138) (i := 7) D103_136 rfl rfl rfl ?_
        obtain ⟨hg33, hP⟩ := hP
        refine im_ifc (q := 141) (t := 144) D103_138 rfl hg33 (fun hc34 => ?_) (fun hc34 => ?_)
        · replace hP := hP.1 hc34
          refine im_iinc (q := 147) (i := 6) (L' := [some (.ref 2), none, none, some (.ref p3), some (.float p4), some (vI (p5 + 1)), some (vI (p6 + 1)), some (vI x32)]) D103_144 rfl (Nat.le_of_ble_eq_true rfl) rfl ?_
          refine im_goto (q := 150) (t := 21) D103_147 rfl ?_
          exact hP.wk ⟨rfl, rfl, rfl, rfl, rfl, trivial⟩
        · replace hP := hP.2 hc34
          refine im_ld (q := 143) (i := 7) D103_141 rfl rfl rfl ?_
          exact im_iret (q := 144) D103_143 rfl hP
    · replace hP := hP.2 (Int.not_le.mp hc6)
      refine im_ld (q := 42) (i := 0) D103_41 rfl rfl rfl ?_
      refine im_gfI (q := 45) D103_42 (im_fl cn_103 fl_6_63) sf_2 rfl rfl tI_6_4 rfl ?_
      refine im_ineg (q := 46) D103_45 ?_
      exact im_iret (q := 47) D103_46 rfl hP
set_option maxRecDepth 20000 in
set_option maxHeartbeats 4000000 in
theorem k_Reader_inputPart_0 {g : im_g} {d : Nat} {e : im_E} {M : im_M} {K : im_K} {p2 p3 : Int} {p1 np1 : Nat} (hp1 : im_row e p1 np1) (hd : 1 ≤ d) (hP : ((((¬ (M 2 4) = 41 → (im_i32 p3)) ∧ ((M 2 4) = 41 → K (.inl (some (vI 3))) e M))) ∧ (∀ x6 : Int, (((¬ (M 2 4) = 41) ∧ (¬ p3 = 110) ∧ x6 = 36) ∨ ((¬ (M 2 4) = 41) ∧ (p3 = 110) ∧ x6 = 34)) → (((((M 2 4) = x6 → (im_i32 p2) ∧ ((0 ≤ p2 → (im_i32 p3) ∧ ((p3 = 49 → (0 ≤ p2 ∧ p2 < np1) ∧ K (.inl (some (vI 0))) e (im_u M (p1 + 2) p2 (M 2 6))) ∧ (p3 = 50 → (0 ≤ p2 ∧ p2 < np1) ∧ K (.inl (some (vI 0))) e (im_u M (p1 + 3) p2 (M 2 6))) ∧ (p3 = 51 → (0 ≤ p2 ∧ p2 < np1) ∧ K (.inl (some (vI 0))) e (im_u M (p1 + 4) p2 (M 2 6))) ∧ (p3 < 49 ∨ 51 < p3 → (0 ≤ p2 ∧ p2 < np1) ∧ ∃ b27 : Nat, ((M (p1 + 5) p2) = (b27 : Int)) ∧ (im_num e b27) ∧ im_T g (d - 1) 66 0 [some (.ref b27), some (.ref 5), none] [] e M (im_r0 (fun  e_ M30 => e = e_ ∧ K (.inl (some (vI 0))) e M30))))))))) ∧ ((((¬ (M 2 4) = x6)) ∨ (((M 2 4) = x6) ∧ (p2 < 0))) → K (.inl (some (vI 4))) e M))))) : im_T g d 104 0 [some (.ref 2), some (.ref p1), some (vI p2), some (vI p3)] [] e M K := by
  refine im_ld (q := 1) (i := 0) D104_0 rfl rfl rfl ?_
  refine im_rng (j := 4) sf_2 (by decide) (by decide) (fun hr1 => ?_)
  refine im_gfI (q := 4) D104_1 (im_fl cn_104 fl_6_63) sf_2 rfl rfl tI_6_4 rfl ?_
  refine im_bipush (q := 6) D104_4 rfl ?_
  obtain ⟨hP, hJ7⟩ := hP
  have kJ8 : ∀ x6 : Int, (((¬ (M 2 4) = 41) ∧ (¬ p3 = 110) ∧ x6 = 36) ∨ ((¬ (M 2 4) = 41) ∧ (p3 = 110) ∧ x6 = 34)) → im_T g d 104 28 [some (.ref 2), some (.ref p1), some (vI p2), some (vI p3)] [vI x6, vI (M 2 4)] e M K := by
    intro x6 hx9
    have hP := hJ7 x6 hx9
    obtain ⟨hP, hJ13⟩ := hP
    have kJ14 : (((¬ (M 2 4) = x6)) ∨ (((M 2 4) = x6) ∧ (p2 < 0))) → im_T g d 104 35 [none, none, none, none] [] e M K := by
      intro  hx15
      have hP := hJ13  hx15
      refine im_iconst (q := 36) D104_35 ?_
      exact im_iret (q := 37) D104_36 rfl hP
    refine im_icmp (q := 31) (t := 35) D104_28 rfl hr1 (by clear hP; omega) (fun hc10 => ?_) (fun hc10 => ?_)
    · exact (kJ14  (Or.inl hc10)).wk trivial
    · replace hP := hP (Decidable.not_not.mp hc10)
      refine im_ld (q := 32) (i := 2) D104_31 rfl rfl rfl ?_
      obtain ⟨hg11, hP⟩ := hP
      refine im_ifc (q := 35) (t := 37) D104_32 rfl hg11 (fun hc12 => ?_) (fun hc12 => ?_)
      · replace hP := hP hc12
        refine im_ld (q := 38) (i := 3) D104_37 rfl rfl rfl ?_
        obtain ⟨hg16, hP⟩ := hP
        by_cases hc19 : p3 = 49
        · refine im_tsw (q := 39) (t := 64) D104_38 hg16 (fun _ => by rcases hc19 with hc19 <;> (rw [hc19]; rfl)) (by rcases hc19 with hc19 <;> (rw [hc19]; rfl)) ?_
          replace hP := hP.1 hc19
          refine im_ld (q := 65) (i := 1) D104_64 rfl rfl rfl ?_
          refine im_gfR (q := 68) (b := (p1 + 2)) D104_65 (im_fl cn_104 fl_6_131) hp1.1 rfl rfl tR_7_1 rfl ?_
          refine im_ld (q := 69) (i := 2) D104_68 rfl rfl rfl ?_
          refine im_ld (q := 70) (i := 0) D104_69 rfl rfl rfl ?_
          refine im_rng (j := 6) sf_2 (by decide) (by decide) (fun hr17 => ?_)
          refine im_gfL (q := 73) D104_70 (im_fl cn_104 fl_6_83) sf_2 rfl rfl tL_6_6 rfl ?_
          obtain ⟨hg18, hP⟩ := hP
          refine im_last (q := 74) D104_73 hp1.2.2.1 hg18.1 hg18.2 (Nat.le_trans hp1.2.2.2.2.2.2 (by decide)) hr17 ?_
          refine im_goto (q := 77) (t := 116) D104_74 rfl ?_
          refine im_iconst (q := 117) D104_116 ?_
          exact im_iret (q := 118) D104_117 rfl hP
        by_cases hc22 : p3 = 50
        · refine im_tsw (q := 39) (t := 77) D104_38 hg16 (fun _ => by rcases hc22 with hc22 <;> (rw [hc22]; rfl)) (by rcases hc22 with hc22 <;> (rw [hc22]; rfl)) ?_
          replace hP := hP.2.1 hc22
          refine im_ld (q := 78) (i := 1) D104_77 rfl rfl rfl ?_
          refine im_gfR (q := 81) (b := (p1 + 3)) D104_78 (im_fl cn_104 fl_6_134) hp1.1 rfl rfl tR_7_2 rfl ?_
          refine im_ld (q := 82) (i := 2) D104_81 rfl rfl rfl ?_
          refine im_ld (q := 83) (i := 0) D104_82 rfl rfl rfl ?_
          refine im_rng (j := 6) sf_2 (by decide) (by decide) (fun hr20 => ?_)
          refine im_gfL (q := 86) D104_83 (im_fl cn_104 fl_6_83) sf_2 rfl rfl tL_6_6 rfl ?_
          obtain ⟨hg21, hP⟩ := hP
          refine im_last (q := 87) D104_86 hp1.2.2.2.1 hg21.1 hg21.2 (Nat.le_trans hp1.2.2.2.2.2.2 (by decide)) hr20 ?_
          refine im_goto (q := 90) (t := 116) D104_87 rfl ?_
          refine im_iconst (q := 117) D104_116 ?_
          exact im_iret (q := 118) D104_117 rfl hP
        by_cases hc25 : p3 = 51
        · refine im_tsw (q := 39) (t := 90) D104_38 hg16 (fun _ => by rcases hc25 with hc25 <;> (rw [hc25]; rfl)) (by rcases hc25 with hc25 <;> (rw [hc25]; rfl)) ?_
          replace hP := hP.2.2.1 hc25
          refine im_ld (q := 91) (i := 1) D104_90 rfl rfl rfl ?_
          refine im_gfR (q := 94) (b := (p1 + 4)) D104_91 (im_fl cn_104 fl_6_137) hp1.1 rfl rfl tR_7_3 rfl ?_
          refine im_ld (q := 95) (i := 2) D104_94 rfl rfl rfl ?_
          refine im_ld (q := 96) (i := 0) D104_95 rfl rfl rfl ?_
          refine im_rng (j := 6) sf_2 (by decide) (by decide) (fun hr23 => ?_)
          refine im_gfL (q := 99) D104_96 (im_fl cn_104 fl_6_83) sf_2 rfl rfl tL_6_6 rfl ?_
          obtain ⟨hg24, hP⟩ := hP
          refine im_last (q := 100) D104_99 hp1.2.2.2.2.1 hg24.1 hg24.2 (Nat.le_trans hp1.2.2.2.2.2.2 (by decide)) hr23 ?_
          refine im_goto (q := 103) (t := 116) D104_100 rfl ?_
          refine im_iconst (q := 117) D104_116 ?_
          exact im_iret (q := 118) D104_117 rfl hP
        have hd32 : p3 < 49 ∨ 51 < p3 := by clear hP; omega
        refine im_tsw (q := 39) (t := 103) D104_38 hg16 (fun z9 => absurd hd32 z9) (by rw [if_pos hd32]; rfl) ?_
        replace hP := hP.2.2.2 hd32
        refine im_ld (q := 104) (i := 1) D104_103 rfl rfl rfl ?_
        refine im_gfR (q := 107) (b := (p1 + 5)) D104_104 (im_fl cn_104 fl_6_140) hp1.1 rfl rfl tR_7_4 rfl ?_
        refine im_ld (q := 108) (i := 2) D104_107 rfl rfl rfl ?_
        obtain ⟨hg26, hP⟩ := hP
        obtain ⟨b27, hb28, hP⟩ := hP
        obtain ⟨hb29, hP⟩ := hP
        refine im_aald (q := 109) D104_108 hp1.2.2.2.2.2.1 (Or.inl rfl) hg26.1 hg26.2 (Nat.le_trans hp1.2.2.2.2.2.2 (by decide)) hb28 ?_
        refine im_ld (q := 110) (i := 0) D104_109 rfl rfl rfl ?_
        refine im_gfR (q := 113) (b := 5) D104_110 (im_fl cn_104 fl_6_22) sf_2 rfl rfl tR_6_7 rfl ?_
        refine im_callV (q := 116) (kd := 1) (y := 66) (n := 1) (ci := 3) (a := b27) (vs := [.ref b27, .ref 5]) (r := []) (L2 := [some (.ref b27), some (.ref 5), none]) D104_113 (im_cal cn_104 cl_6_144) (Or.inl rfl) rfl hb29.1 rfl rfl rfl rfl hd ⟨rfl, rfl, trivial⟩ ?_
        refine hP.mono ?_
        rintro _ e31 M30 ⟨rfl, rfl, hP⟩
        refine im_bkN ?_
        refine im_iconst (q := 117) D104_116 ?_
        exact im_iret (q := 118) D104_117 rfl hP
      · exact (kJ14  (Or.inr ⟨(Decidable.not_not.mp hc10), (Int.not_le.mp hc12)⟩)).wk trivial
  refine im_icmp (q := 9) (t := 11) D104_6 rfl hr1 (by decide) (fun hc2 => ?_) (fun hc2 => ?_)
  · replace hP := hP.1 hc2
    refine im_ld (q := 12) (i := 0) D104_11 rfl rfl rfl ?_
    refine im_gfI (q := 15) D104_12 (im_fl cn_104 fl_6_63) sf_2 rfl rfl tI_6_4 rfl ?_
    refine im_ld (q := 16) (i := 3) D104_15 rfl rfl rfl ?_
    refine im_bipush (q := 18) D104_16 rfl ?_
    have hg4 := hP
    refine im_icmp (q := 21) (t := 26) D104_18 rfl hg4 (by decide) (fun hc5 => ?_) (fun hc5 => ?_)
    · refine im_bipush (q := 28) D104_26 rfl ?_
      exact (kJ8 (36) (Or.inl ⟨hc2, hc5, rfl⟩)).wk ⟨rfl, rfl, rfl, rfl, trivial⟩
    · refine im_bipush (q := 23) D104_21 rfl ?_
      refine im_goto (q := 26) (t := 28) D104_23 rfl ?_
      exact (kJ8 (34) (Or.inr ⟨hc2, (Decidable.not_not.mp hc5), rfl⟩)).wk ⟨rfl, rfl, rfl, rfl, trivial⟩
  · replace hP := hP.2 (Decidable.not_not.mp hc2)
    refine im_iconst (q := 10) D104_9 ?_
    exact im_iret (q := 11) D104_10 rfl hP
set_option maxRecDepth 20000 in
set_option maxHeartbeats 4000000 in
theorem k_Reader_inputBegins_0 {g : im_g} {d : Nat} {e : im_E} {M : im_M} {K : im_K} {p1 np1 : Nat} (hp1 : im_row e p1 np1) (hd : 1 ≤ d) (hP : ((((28 ≤ (M 2 4) → (((M 2 4) ≤ 30 → (((M p1 5) < 40 → im_T g (d - 1) 106 0 [some (.ref p1), some (vI (M p1 5)), some (vI (M 2 4)), some (vL 0), none, some (vL 0), none, some (vL 0), none] [] e M (im_r0 (fun  e_ M12 => e = e_ ∧ (im_i32 ((M12 p1 5) + 1)) ∧ K (.inl (some (vI 0))) e (im_u M12 p1 5 ((M12 p1 5) + 1))))) ∧ (40 ≤ (M p1 5) → K (.inl (some (vI 9))) e M))))))) ∧ (((((M 2 4) < 28)) ∨ ((28 ≤ (M 2 4)) ∧ (30 < (M 2 4)))) → K (.inl (some (vI 4))) e M))) : im_T g d 105 0 [some (.ref 2), some (.ref p1)] [] e M K := by
  refine im_ld (q := 1) (i := 0) D105_0 rfl rfl rfl ?_
  refine im_rng (j := 4) sf_2 (by decide) (by decide) (fun hr1 => ?_)
  refine im_gfI (q := 4) D105_1 (im_fl cn_105 fl_6_63) sf_2 rfl rfl tI_6_4 rfl ?_
  refine im_bipush (q := 6) D105_4 rfl ?_
  obtain ⟨hP, hJ9⟩ := hP
  have kJ10 : ((((M 2 4) < 28)) ∨ ((28 ≤ (M 2 4)) ∧ (30 < (M 2 4)))) → im_T g d 105 18 [none, none] [] e M K := by
    intro  hx11
    have hP := hJ9  hx11
    refine im_iconst (q := 19) D105_18 ?_
    exact im_iret (q := 20) D105_19 rfl hP
  refine im_icmp (q := 9) (t := 18) D105_6 rfl hr1 (by decide) (fun hc2 => ?_) (fun hc2 => ?_)
  · exact (kJ10  (Or.inl hc2)).wk trivial
  · replace hP := hP (Int.not_lt.mp hc2)
    refine im_ld (q := 10) (i := 0) D105_9 rfl rfl rfl ?_
    refine im_gfI (q := 13) D105_10 (im_fl cn_105 fl_6_63) sf_2 rfl rfl tI_6_4 rfl ?_
    refine im_bipush (q := 15) D105_13 rfl ?_
    refine im_icmp (q := 18) (t := 20) D105_15 rfl hr1 (by decide) (fun hc4 => ?_) (fun hc4 => ?_)
    · replace hP := hP hc4
      refine im_ld (q := 21) (i := 1) D105_20 rfl rfl rfl ?_
      refine im_rng (j := 5) hp1.1 (by decide) (show (5 : Int) < ((6 : Nat) : Int) by decide) (fun hr5 => ?_)
      refine im_gfI (q := 24) D105_21 (im_fl cn_105 fl_6_108) hp1.1 rfl rfl tI_7_5 rfl ?_
      refine im_bipush (q := 26) D105_24 rfl ?_
      refine im_icmp (q := 29) (t := 32) D105_26 rfl hr5 (by decide) (fun hc6 => ?_) (fun hc6 => ?_)
      · replace hP := hP.1 hc6
        refine im_ld (q := 33) (i := 1) D105_32 rfl rfl rfl ?_
        refine im_ld (q := 34) (i := 1) D105_33 rfl rfl rfl ?_
        refine im_gfI (q := 37) D105_34 (im_fl cn_105 fl_6_108) hp1.1 rfl rfl tI_7_5 rfl ?_
        refine im_ld (q := 38) (i := 0) D105_37 rfl rfl rfl ?_
        refine im_gfI (q := 41) D105_38 (im_fl cn_105 fl_6_63) sf_2 rfl rfl tI_6_4 rfl ?_
        refine im_lconst (q := 42) (z := 0) D105_41 rfl ?_
        refine im_lconst (q := 43) (z := 0) D105_42 rfl ?_
        refine im_lconst (q := 44) (z := 0) D105_43 rfl ?_
        refine im_callV (q := 47) (kd := 1) (y := 106) (n := 5) (ci := 7) (a := p1) (vs := [.ref p1, vI (M p1 5), vI (M 2 4), vL 0, vL 0, vL 0]) (r := []) (L2 := [some (.ref p1), some (vI (M p1 5)), some (vI (M 2 4)), some (vL 0), none, some (vL 0), none, some (vL 0), none]) D105_44 (im_cal cn_105 cl_6_127) (Or.inl rfl) rfl hp1.1 rfl rfl rfl rfl hd ⟨rfl, rfl, rfl, rfl, rfl, rfl, trivial⟩ ?_
        refine hP.mono ?_
        rintro _ e15 M12 ⟨rfl, rfl, hP⟩
        refine im_bkN ?_
        refine im_ld (q := 48) (i := 1) D105_47 rfl rfl rfl ?_
        refine im_dup (q := 49) D105_48 rfl ?_
        refine im_rng (j := 5) hp1.1 (by decide) (show (5 : Int) < ((6 : Nat) : Int) by decide) (fun hr13 => ?_)
        refine im_gfI (q := 52) D105_49 (im_fl cn_105 fl_6_108) hp1.1 rfl rfl tI_7_5 rfl ?_
        refine im_iconst (q := 53) D105_52 ?_
        refine im_iadd (q := 54) D105_53 ?_
        obtain ⟨hg14, hP⟩ := hP
        refine im_pfI (q := 57) D105_54 (im_fl cn_105 fl_6_108) hp1.1 rfl rfl ti_7_5 hg14 ?_
        refine im_iconst (q := 58) D105_57 ?_
        exact im_iret (q := 59) D105_58 rfl hP
      · replace hP := hP.2 (Int.not_lt.mp hc6)
        refine im_bipush (q := 31) D105_29 rfl ?_
        exact im_iret (q := 32) D105_31 rfl hP
    · exact (kJ10  (Or.inr ⟨(Int.not_lt.mp hc2), (Int.not_le.mp hc4)⟩)).wk trivial
set_option maxRecDepth 20000 in
set_option maxHeartbeats 4000000 in
theorem k_Row_set_0 {g : im_g} {d : Nat} {e : im_E} {M : im_M} {K : im_K} {p1 p2 p3 p5 p7 : Int} {a0 na0 : Nat} (ha0 : im_row e a0 na0) (hP : (im_i32 p1) ∧ ((((0 ≤ p1 → (im_i32 na0) ∧ ((p1 < na0 → (0 ≤ p1 ∧ p1 < na0) ∧ (im_i32 p2) ∧ (im_i64 p3) ∧ (im_i64 p5) ∧ (im_i64 p7) ∧ K (.inl none) e (im_u (im_u (im_u (im_u M (a0 + 1) p1 p2) (a0 + 2) p1 p3) (a0 + 3) p1 p5) (a0 + 4) p1 p7)))))) ∧ ((((p1 < 0)) ∨ ((0 ≤ p1) ∧ (na0 ≤ p1))) → K (.inl none) e M))) : im_T g d 106 0 [some (.ref a0), some (vI p1), some (vI p2), some (vL p3), none, some (vL p5), none, some (vL p7), none] [] e M K := by
  refine im_ld (q := 1) (i := 1) D106_0 rfl rfl rfl ?_
  obtain ⟨hg1, hP⟩ := hP
  obtain ⟨hP, hJ5⟩ := hP
  have kJ6 : (((p1 < 0)) ∨ ((0 ≤ p1) ∧ (na0 ≤ p1))) → im_T g d 106 13 [none, none, none, none, none, none, none, none, none] [] e M K := by
    intro  hx7
    have hP := hJ5  hx7
    exact im_vret (q := 14) D106_13 rfl hP
  refine im_ifc (q := 4) (t := 13) D106_1 rfl hg1 (fun hc2 => ?_) (fun hc2 => ?_)
  · exact (kJ6  (Or.inl hc2)).wk trivial
  · replace hP := hP (Int.not_lt.mp hc2)
    refine im_ld (q := 5) (i := 1) D106_4 rfl rfl rfl ?_
    refine im_ld (q := 6) (i := 0) D106_5 rfl rfl rfl ?_
    refine im_gfR (q := 9) (b := (a0 + 5)) D106_6 (im_fl cn_106 fl_7_25) ha0.1 rfl rfl tR_7_4 rfl ?_
    refine im_alen (q := 10) D106_9 ha0.2.2.2.2.2.1 (by decide) ?_
    obtain ⟨hg3, hP⟩ := hP
    refine im_icmp (q := 13) (t := 14) D106_10 rfl hg1 hg3 (fun hc4 => ?_) (fun hc4 => ?_)
    · replace hP := hP hc4
      refine im_ld (q := 15) (i := 0) D106_14 rfl rfl rfl ?_
      refine im_gfR (q := 18) (b := (a0 + 1)) D106_15 (im_fl cn_106 fl_7_7) ha0.1 rfl rfl tR_7_0 rfl ?_
      refine im_ld (q := 19) (i := 1) D106_18 rfl rfl rfl ?_
      refine im_ld (q := 20) (i := 2) D106_19 rfl rfl rfl ?_
      obtain ⟨hg8, hP⟩ := hP
      obtain ⟨hg9, hP⟩ := hP
      refine im_iast (q := 21) D106_20 ha0.2.1 hg8.1 hg8.2 (Nat.le_trans ha0.2.2.2.2.2.2 (by decide)) hg9 ?_
      refine im_ld (q := 22) (i := 0) D106_21 rfl rfl rfl ?_
      refine im_gfR (q := 25) (b := (a0 + 2)) D106_22 (im_fl cn_106 fl_7_13) ha0.1 rfl rfl tR_7_1 rfl ?_
      refine im_ld (q := 26) (i := 1) D106_25 rfl rfl rfl ?_
      refine im_ld (q := 27) (i := 3) D106_26 rfl rfl rfl ?_
      obtain ⟨hg10, hP⟩ := hP
      refine im_last (q := 28) D106_27 ha0.2.2.1 hg8.1 hg8.2 (Nat.le_trans ha0.2.2.2.2.2.2 (by decide)) hg10 ?_
      refine im_ld (q := 29) (i := 0) D106_28 rfl rfl rfl ?_
      refine im_gfR (q := 32) (b := (a0 + 3)) D106_29 (im_fl cn_106 fl_7_17) ha0.1 rfl rfl tR_7_2 rfl ?_
      refine im_ld (q := 33) (i := 1) D106_32 rfl rfl rfl ?_
      refine im_ld (q := 35) (i := 5) D106_33 rfl rfl rfl ?_
      obtain ⟨hg11, hP⟩ := hP
      refine im_last (q := 36) D106_35 ha0.2.2.2.1 hg8.1 hg8.2 (Nat.le_trans ha0.2.2.2.2.2.2 (by decide)) hg11 ?_
      refine im_ld (q := 37) (i := 0) D106_36 rfl rfl rfl ?_
      refine im_gfR (q := 40) (b := (a0 + 4)) D106_37 (im_fl cn_106 fl_7_20) ha0.1 rfl rfl tR_7_3 rfl ?_
      refine im_ld (q := 41) (i := 1) D106_40 rfl rfl rfl ?_
      refine im_ld (q := 43) (i := 7) D106_41 rfl rfl rfl ?_
      obtain ⟨hg12, hP⟩ := hP
      refine im_last (q := 44) D106_43 ha0.2.2.2.2.1 hg8.1 hg8.2 (Nat.le_trans ha0.2.2.2.2.2.2 (by decide)) hg12 ?_
      exact im_vret (q := 45) D106_44 rfl hP
    · exact (kJ6  (Or.inr ⟨(Int.not_lt.mp hc2), (Int.not_lt.mp hc4)⟩)).wk trivial
set_option maxRecDepth 20000 in
set_option maxHeartbeats 4000000 in
theorem k_State_copy_0 {g : im_g} {d : Nat} {e : im_E} {M : im_M} {K : im_K} {a0 : Nat} (ha0 : im_state e a0) {p1 : Nat} (hp1 : im_state e p1) (hd : 1 ≤ d) (hP : im_T g (d - 1) 91 0 [some (.ref (a0 + 1)), some (.ref (p1 + 1)), none] [] e M (im_r0 (fun  e_ M1 => e = e_ ∧ im_T g (d - 1) 91 0 [some (.ref (a0 + 87)), some (.ref (p1 + 87)), none] [] e M1 (im_r0 (fun  e_ M2 => e = e_ ∧ im_T g (d - 1) 91 0 [some (.ref (a0 + 173)), some (.ref (p1 + 173)), none] [] e M2 (im_r0 (fun  e_ M3 => e = e_ ∧ K (.inl none) e (im_u (im_u M3 a0 4 (M3 p1 4)) a0 5 ((im_u M3 a0 4 (M3 p1 4)) p1 5))))))))) : im_T g d 107 0 [some (.ref a0), some (.ref p1)] [] e M K := by
  refine im_ld (q := 1) (i := 0) D107_0 rfl rfl rfl ?_
  refine im_gfR (q := 4) (b := (a0 + 1)) D107_1 (im_fl cn_107 fl_9_14) ha0.1 rfl rfl tR_9_0 rfl ?_
  refine im_ld (q := 5) (i := 1) D107_4 rfl rfl rfl ?_
  refine im_gfR (q := 8) (b := (p1 + 1)) D107_5 (im_fl cn_107 fl_9_14) hp1.1 rfl rfl tR_9_0 rfl ?_
  refine im_callV (q := 11) (kd := 1) (y := 91) (n := 1) (ci := 0) (a := (a0 + 1)) (vs := [.ref (a0 + 1), .ref (p1 + 1)]) (r := []) (L2 := [some (.ref (a0 + 1)), some (.ref (p1 + 1)), none]) D107_8 (im_cal cn_107 cl_9_44) (Or.inl rfl) rfl ha0.2.1.1 rfl rfl rfl rfl hd ⟨rfl, rfl, trivial⟩ ?_
  refine hP.mono ?_
  rintro _ e8 M1 ⟨rfl, rfl, hP⟩
  refine im_bkN ?_
  refine im_ld (q := 12) (i := 0) D107_11 rfl rfl rfl ?_
  refine im_gfR (q := 15) (b := (a0 + 87)) D107_12 (im_fl cn_107 fl_9_20) ha0.1 rfl rfl tR_9_1 rfl ?_
  refine im_ld (q := 16) (i := 1) D107_15 rfl rfl rfl ?_
  refine im_gfR (q := 19) (b := (p1 + 87)) D107_16 (im_fl cn_107 fl_9_20) hp1.1 rfl rfl tR_9_1 rfl ?_
  refine im_callV (q := 22) (kd := 1) (y := 91) (n := 1) (ci := 0) (a := (a0 + 87)) (vs := [.ref (a0 + 87), .ref (p1 + 87)]) (r := []) (L2 := [some (.ref (a0 + 87)), some (.ref (p1 + 87)), none]) D107_19 (im_cal cn_107 cl_9_44) (Or.inl rfl) rfl ha0.2.2.1.1 rfl rfl rfl rfl hd ⟨rfl, rfl, trivial⟩ ?_
  refine hP.mono ?_
  rintro _ e7 M2 ⟨rfl, rfl, hP⟩
  refine im_bkN ?_
  refine im_ld (q := 23) (i := 0) D107_22 rfl rfl rfl ?_
  refine im_gfR (q := 26) (b := (a0 + 173)) D107_23 (im_fl cn_107 fl_9_23) ha0.1 rfl rfl tR_9_2 rfl ?_
  refine im_ld (q := 27) (i := 1) D107_26 rfl rfl rfl ?_
  refine im_gfR (q := 30) (b := (p1 + 173)) D107_27 (im_fl cn_107 fl_9_23) hp1.1 rfl rfl tR_9_2 rfl ?_
  refine im_callV (q := 33) (kd := 1) (y := 91) (n := 1) (ci := 0) (a := (a0 + 173)) (vs := [.ref (a0 + 173), .ref (p1 + 173)]) (r := []) (L2 := [some (.ref (a0 + 173)), some (.ref (p1 + 173)), none]) D107_30 (im_cal cn_107 cl_9_44) (Or.inl rfl) rfl ha0.2.2.2.1 rfl rfl rfl rfl hd ⟨rfl, rfl, trivial⟩ ?_
  refine hP.mono ?_
  rintro _ e6 M3 ⟨rfl, rfl, hP⟩
  refine im_bkN ?_
  refine im_ld (q := 34) (i := 0) D107_33 rfl rfl rfl ?_
  refine im_ld (q := 35) (i := 1) D107_34 rfl rfl rfl ?_
  refine im_rng (j := 4) hp1.1 (by decide) (show (4 : Int) < ((7 : Nat) : Int) by decide) (fun hr4 => ?_)
  refine im_gfL (q := 38) D107_35 (im_fl cn_107 fl_9_33) hp1.1 rfl rfl tL_9_4 rfl ?_
  refine im_pfL (q := 41) D107_38 (im_fl cn_107 fl_9_33) ha0.1 rfl rfl tl_9_4 hr4 ?_
  refine im_ld (q := 42) (i := 0) D107_41 rfl rfl rfl ?_
  refine im_ld (q := 43) (i := 1) D107_42 rfl rfl rfl ?_
  refine im_rng (j := 5) hp1.1 (by decide) (show (5 : Int) < ((7 : Nat) : Int) by decide) (fun hr5 => ?_)
  refine im_gfI (q := 46) D107_43 (im_fl cn_107 fl_9_37) hp1.1 rfl rfl tI_9_5 rfl ?_
  refine im_pfI (q := 49) D107_46 (im_fl cn_107 fl_9_37) ha0.1 rfl rfl ti_9_5 hr5 ?_
  exact im_vret (q := 50) D107_49 rfl hP
set_option maxRecDepth 20000 in
set_option maxHeartbeats 4000000 in
theorem k_Machine_aim_0 {g : im_g} {d : Nat} {e : im_E} {M : im_M} {K : im_K} {p3 : Int} {p1 : Nat} (hp1 : im_state e p1) {p2 np2 : Nat} (hp2 : im_book e p2 np2) (hP : (0 ≤ p3 ∧ p3 ≤ 1) ∧ K (.inl none) e (im_u (im_u (im_u M 931 4 (p1 : Nat)) 931 5 (p2 : Nat)) 931 6 p3)) : im_T g d 108 0 [some (.ref 931), some (.ref p1), some (.ref p2), some (vI p3)] [] e M K := by
  refine im_ld (q := 1) (i := 0) D108_0 rfl rfl rfl ?_
  refine im_ld (q := 2) (i := 1) D108_1 rfl rfl rfl ?_
  refine im_pfR (q := 5) D108_2 (im_fl cn_108 fl_2_31) sf_931 rfl rfl tR_2_4 rfl ?_
  refine im_ld (q := 6) (i := 0) D108_5 rfl rfl rfl ?_
  refine im_ld (q := 7) (i := 2) D108_6 rfl rfl rfl ?_
  refine im_pfR (q := 10) D108_7 (im_fl cn_108 fl_2_38) sf_931 rfl rfl tR_2_5 rfl ?_
  refine im_ld (q := 11) (i := 0) D108_10 rfl rfl rfl ?_
  refine im_ld (q := 12) (i := 3) D108_11 rfl rfl rfl ?_
  obtain ⟨hg1, hP⟩ := hP
  refine im_pfZ (q := 15) D108_12 (im_fl cn_108 fl_2_59) sf_931 rfl rfl tz_2_6 hg1 ?_
  exact im_vret (q := 16) D108_15 rfl hP
set_option maxRecDepth 20000 in
set_option maxHeartbeats 4000000 in
theorem k_Machine_run_0 {g : im_g} {d : Nat} {e : im_E} {M : im_M} {K : im_K} {p1 p3 p6 p7 : Int} {p5 np5 : Nat} (hp5 : im_row e p5 np5) (hd : 1 ≤ d) (hP : (im_i64 p1) ∧ (im_i64 p3) ∧ ((((p1 ≤ p3 → ((0 ≤ p1 → ((p3 ≤ 1000000000000000 → ∃ b9 : Nat, ((M 931 4) = (b9 : Int)) ∧ (im_state e b9) ∧ ((((im_u (im_u M 1333 5 0) 1459 5 0) b9 4) ≤ p3 → ∃ b14 : Nat, ((M 931 4) = (b14 : Int)) ∧ (im_state e b14) ∧ im_T g (d - 1) 110 0 [some (.ref 931), some (vL (max p1 ((im_u (im_u M 1333 5 0) 1459 5 0) b14 4))), none, some (vL p3), none] [] e (im_u (im_u M 1333 5 0) 1459 5 0) (im_r0 (fun  e_ M18 => e = e_ ∧ ∃ b19 : Nat, ((M18 931 4) = (b19 : Int)) ∧ (im_state e b19) ∧ im_T g (d - 1) 111 0 [some (.ref 931), none, none, none, none, none, none] [] e (im_u M18 931 13 0) (im_ri (fun x24 e_ M23 => e = e_ ∧ im_T g d 109 94 [some (.ref 931), none, none, none, none, some (.ref p5), some (vI p6), some (vI p7), some (vI ((im_u M18 931 13 0) b19 5)), some (vI x24), some (vI p6)] [] e M23 K))))) ∧ (p3 < ((im_u (im_u M 1333 5 0) 1459 5 0) b9 4) → K (.inl (some (vI (-3)))) e (im_u (im_u M 1333 5 0) 1459 5 0)))))))))) ∧ ((((p3 < p1)) ∨ ((p1 ≤ p3) ∧ (p1 < 0)) ∨ ((p1 ≤ p3) ∧ (0 ≤ p1) ∧ (1000000000000000 < p3))) → K (.inl (some (vI (-2)))) e (im_u (im_u M 1333 5 0) 1459 5 0)))) : im_T g d 109 0 [some (.ref 931), some (vL p1), none, some (vL p3), none, some (.ref p5), some (vI p6), some (vI p7), none, none, none] [] e M K := by
  refine im_ld (q := 1) (i := 0) D109_0 rfl rfl rfl ?_
  refine im_gfR (q := 4) (b := 1333) D109_1 (im_fl cn_109 fl_2_48) sf_931 rfl rfl tR_2_8 rfl ?_
  refine im_iconst (q := 5) D109_4 ?_
  refine im_pfI (q := 8) D109_5 (im_fl cn_109 fl_2_162) sf_1333 rfl rfl ti_7_5 (by decide) ?_
  refine im_ld (q := 9) (i := 0) D109_8 rfl rfl rfl ?_
  refine im_gfR (q := 12) (b := 1459) D109_9 (im_fl cn_109 fl_2_52) sf_931 rfl rfl tR_2_9 rfl ?_
  refine im_iconst (q := 13) D109_12 ?_
  refine im_pfI (q := 16) D109_13 (im_fl cn_109 fl_2_162) sf_1459 rfl rfl ti_7_5 (by decide) ?_
  refine im_ld (q := 17) (i := 1) D109_16 rfl rfl rfl ?_
  refine im_ld (q := 18) (i := 3) D109_17 rfl rfl rfl ?_
  obtain ⟨hg1, hP⟩ := hP
  obtain ⟨hg2, hP⟩ := hP
  obtain ⟨hP, hJ6⟩ := hP
  have kJ7 : (((p3 < p1)) ∨ ((p1 ≤ p3) ∧ (p1 < 0)) ∨ ((p1 ≤ p3) ∧ (0 ≤ p1) ∧ (1000000000000000 < p3))) → im_T g d 109 36 [none, none, none, none, none, none, none, none, none, none, none] [] e (im_u (im_u M 1333 5 0) 1459 5 0) K := by
    intro  hx8
    have hP := hJ6  hx8
    refine im_bipush (q := 38) D109_36 rfl ?_
    exact im_iret (q := 39) D109_38 rfl hP
  refine im_lif (q := 19) (q2 := 22) (t := 36) D109_18 D109_19 rfl hg1 hg2 (fun hc3 => ?_) (fun hc3 => ?_)
  · exact (kJ7  (Or.inl hc3)).wk trivial
  · replace hP := hP (Int.not_lt.mp hc3)
    refine im_ld (q := 23) (i := 1) D109_22 rfl rfl rfl ?_
    refine im_lconst (q := 24) (z := 0) D109_23 rfl ?_
    refine im_lif (q := 25) (q2 := 28) (t := 36) D109_24 D109_25 rfl hg1 (by decide) (fun hc4 => ?_) (fun hc4 => ?_)
    · exact (kJ7  (Or.inr (Or.inl ⟨(Int.not_lt.mp hc3), hc4⟩))).wk trivial
    · replace hP := hP (Int.not_lt.mp hc4)
      refine im_ld (q := 29) (i := 3) D109_28 rfl rfl rfl ?_
      refine im_ldc2 (q := 32) (n := 1000000000000000) D109_29 rfl ?_
      refine im_lif (q := 33) (q2 := 36) (t := 39) D109_32 D109_33 rfl hg2 (by decide) (fun hc5 => ?_) (fun hc5 => ?_)
      · replace hP := hP hc5
        refine im_ld (q := 40) (i := 3) D109_39 rfl rfl rfl ?_
        refine im_ld (q := 41) (i := 0) D109_40 rfl rfl rfl ?_
        obtain ⟨b9, hb10, hP⟩ := hP
        obtain ⟨hb11, hP⟩ := hP
        refine im_gfD (q := 44) D109_41 (im_fl cn_109 fl_2_31) sf_931 rfl rfl tR_2_4 rfl ((((im_rdn _ _ _ _ (by decide)).trans (im_rdn _ _ _ _ (by decide)))).trans hb10) ?_
        refine im_rng (j := 4) hb11.1 (by decide) (show (4 : Int) < ((7 : Nat) : Int) by decide) (fun hr12 => ?_)
        refine im_gfL (q := 47) D109_44 (im_fl cn_109 fl_2_167) hb11.1 rfl rfl tL_9_4 rfl ?_
        refine im_lif (q := 48) (q2 := 51) (t := 54) D109_47 D109_48 rfl hg2 hr12 (fun hc13 => ?_) (fun hc13 => ?_)
        · replace hP := hP.1 hc13
          refine im_ld (q := 55) (i := 0) D109_54 rfl rfl rfl ?_
          refine im_ld (q := 56) (i := 1) D109_55 rfl rfl rfl ?_
          refine im_ld (q := 57) (i := 0) D109_56 rfl rfl rfl ?_
          obtain ⟨b14, hb15, hP⟩ := hP
          obtain ⟨hb16, hP⟩ := hP
          refine im_gfD (q := 60) D109_57 (im_fl cn_109 fl_2_31) sf_931 rfl rfl tR_2_4 rfl ((((im_rdn _ _ _ _ (by decide)).trans (im_rdn _ _ _ _ (by decide)))).trans hb15) ?_
          refine im_rng (j := 4) hb16.1 (by decide) (show (4 : Int) < ((7 : Nat) : Int) by decide) (fun hr17 => ?_)
          refine im_gfL (q := 63) D109_60 (im_fl cn_109 fl_2_167) hb16.1 rfl rfl tL_9_4 rfl ?_
          refine im_lmax (q := 66) D109_63 rfl hg1 hr17 rfl ?_
          refine im_ld (q := 67) (i := 3) D109_66 rfl rfl rfl ?_
          refine im_callV (q := 70) (kd := 1) (y := 110) (n := 2) (ci := 2) (a := 931) (vs := [.ref 931, vL (max p1 ((im_u (im_u M 1333 5 0) 1459 5 0) b14 4)), vL p3]) (r := []) (L2 := [some (.ref 931), some (vL (max p1 ((im_u (im_u M 1333 5 0) 1459 5 0) b14 4))), none, some (vL p3), none]) D109_67 (im_cal cn_109 cl_2_176) (Or.inl rfl) rfl sf_931 rfl rfl rfl rfl hd ⟨rfl, rfl, rfl, trivial⟩ ?_
          refine hP.mono ?_
          rintro _ e26 M18 ⟨rfl, rfl, hP⟩
          refine im_bkN ?_
          refine im_ld (q := 71) (i := 0) D109_70 rfl rfl rfl ?_
          refine im_iconst (q := 72) D109_71 ?_
          refine im_pfZ (q := 75) D109_72 (im_fl cn_109 fl_2_180) sf_931 rfl rfl tz_2_13 (by decide) ?_
          refine im_ld (q := 76) (i := 0) D109_75 rfl rfl rfl ?_
          obtain ⟨b19, hb20, hP⟩ := hP
          obtain ⟨hb21, hP⟩ := hP
          refine im_gfD (q := 79) D109_76 (im_fl cn_109 fl_2_31) sf_931 rfl rfl tR_2_4 rfl (((im_rdk _ _ _ (by decide))).trans hb20) ?_
          refine im_rng (j := 5) hb21.1 (by decide) (show (5 : Int) < ((7 : Nat) : Int) by decide) (fun hr22 => ?_)
          refine im_gfI (q := 82) D109_79 (im_fl cn_109 fl_2_183) hb21.1 rfl rfl tI_9_5 rfl ?_
          refine im_st1 (q := 84) (i := 8) (L' := [some (.ref 931), some (vL p1), none, some (vL p3), none, some (.ref p5), some (vI p6), some (vI p7), some (vI ((im_u M18 931 13 0) b19 5)), none, none]) D109_82 (Or.inr rfl) (Nat.le_of_ble_eq_true rfl) rfl ?_
          refine im_ld (q := 85) (i := 0) D109_84 rfl rfl rfl ?_
          refine im_callV (q := 88) (kd := 1) (y := 111) (n := 0) (ci := 2) (a := 931) (vs := [.ref 931]) (r := []) (L2 := [some (.ref 931), none, none, none, none, none, none]) D109_85 (im_cal cn_109 cl_2_186) (Or.inl rfl) rfl sf_931 rfl rfl rfl rfl hd ⟨rfl, trivial⟩ ?_
          refine hP.mono ?_
          rintro _ e25 M23 ⟨x24, rfl, rfl, hP⟩
          refine im_bkS ?_
          refine im_st1 (q := 90) (i := 9) (L' := [some (.ref 931), some (vL p1), none, some (vL p3), none, some (.ref p5), some (vI p6), some (vI p7), some (vI ((im_u M18 931 13 0) b19 5)), some (vI x24), none]) D109_88 (Or.inr rfl) (Nat.le_of_ble_eq_true rfl) rfl ?_
          refine im_ld (q := 92) (i := 6) D109_90 rfl rfl rfl ?_
          refine im_st1 (q := 94) (i := 10) (L' := [some (.ref 931), some (vL p1), none, some (vL p3), none, some (.ref p5), some (vI p6), some (vI p7), some (vI ((im_u M18 931 13 0) b19 5)), some (vI x24), some (vI p6)]) D109_92 (Or.inr rfl) (Nat.le_of_ble_eq_true rfl) rfl ?_
          exact hP.wk ⟨rfl, rfl, rfl, rfl, rfl, rfl, rfl, trivial⟩
        · replace hP := hP.2 (Int.not_le.mp hc13)
          refine im_bipush (q := 53) D109_51 rfl ?_
          exact im_iret (q := 54) D109_53 rfl hP
      · exact (kJ7  (Or.inr (Or.inr ⟨(Int.not_lt.mp hc3), (Int.not_lt.mp hc4), (Int.not_le.mp hc5)⟩))).wk trivial
set_option maxRecDepth 20000 in
set_option maxHeartbeats 4000000 in
theorem k_Machine_run_94 {g : im_g} {d : Nat} {e : im_E} {M : im_M} {K : im_K} {p6 p7 p8 p9 p10 : Int} {p5 np5 : Nat} (hp5 : im_row e p5 np5) (hd : 1 ≤ d) (hP : (im_i32 p10) ∧ (im_i32 (p6 + p7)) ∧ ((((p10 < (p6 + p7) → (im_i32 p9) ∧ ((p9 = 0 → im_T g (d - 1) 142 0 [some (.ref 931), some (.ref p5), some (vI p10), none, none, none, none] [] e M (im_ri (fun x39 e_ M38 => e = e_ ∧ (im_i32 x39) ∧ ((¬ x39 = 0 → im_T g d 109 94 [some (.ref 931), none, none, none, none, some (.ref p5), some (vI p6), some (vI p7), some (vI p8), some (vI x39), some (vI (p10 + 1))] [] e M38 K) ∧ (x39 = 0 → im_T g (d - 1) 111 0 [some (.ref 931), none, none, none, none, none, none] [] e M38 (im_ri (fun x43 e_ M42 => e = e_ ∧ im_T g d 109 94 [some (.ref 931), none, none, none, none, some (.ref p5), some (vI p6), some (vI p7), some (vI p8), some (vI x43), some (vI (p10 + 1))] [] e M42 K))))))))))) ∧ (((((p6 + p7) ≤ p10)) ∨ ((p10 < (p6 + p7)) ∧ (¬ p9 = 0))) → (im_i32 p9) ∧ ((((p9 = 0 → (im_i32 p7) ∧ ((p7 = 0 → ∃ b21 : Nat, ((M 931 4) = (b21 : Int)) ∧ (im_state e b21) ∧ (im_i32 p8) ∧ (((((M b21 5) = p8 → (((M 931 13) = 0 → K (.inl (some (vI (-6)))) e M))))) ∧ ((((¬ (M b21 5) = p8)) ∨ (((M b21 5) = p8) ∧ (¬ (M 931 13) = 0))) → ((¬ p9 = 0 → K (.inl (some (vI p9))) e M) ∧ (p9 = 0 → ∃ b33 : Nat, ((M 931 4) = (b33 : Int)) ∧ (im_state e b33) ∧ K (.inl (some (vI p9))) e (im_u M b33 4 (M 931 10))))))))))) ∧ ((((¬ p9 = 0)) ∨ ((p9 = 0) ∧ (¬ p7 = 0))) → ((¬ p9 = 0 → K (.inl (some (vI p9))) e M) ∧ (p9 = 0 → ∃ b17 : Nat, ((M 931 4) = (b17 : Int)) ∧ (im_state e b17) ∧ K (.inl (some (vI p9))) e (im_u M b17 4 (M 931 10))))))))) : im_T g d 109 94 [some (.ref 931), none, none, none, none, some (.ref p5), some (vI p6), some (vI p7), some (vI p8), some (vI p9), some (vI p10)] [] e M K := by
  refine im_ld (q := 96) (i := 10) D109_94 rfl rfl rfl ?_
  refine im_ld (q := 98) (i := 6) D109_96 rfl rfl rfl ?_
  refine im_ld (q := 100) (i := 7) D109_98 rfl rfl rfl ?_
  refine im_iadd (q := 101) D109_100 ?_
  obtain ⟨hg1, hP⟩ := hP
  obtain ⟨hg2, hP⟩ := hP
  obtain ⟨hP, hJ6⟩ := hP
  have kJ7 : ((((p6 + p7) ≤ p10)) ∨ ((p10 < (p6 + p7)) ∧ (¬ p9 = 0))) → im_T g d 109 136 [some (.ref 931), none, none, none, none, none, none, some (vI p7), some (vI p8), some (vI p9), none] [] e M K := by
    intro  hx8
    have hP := hJ6  hx8
    refine im_ld (q := 138) (i := 9) D109_136 rfl rfl rfl ?_
    obtain ⟨hg9, hP⟩ := hP
    obtain ⟨hP, hJ13⟩ := hP
    have kJ14 : (((¬ p9 = 0)) ∨ ((p9 = 0) ∧ (¬ p7 = 0))) → im_T g d 109 169 [some (.ref 931), none, none, none, none, none, none, none, none, some (vI p9), none] [] e M K := by
      intro  hx15
      have hP := hJ13  hx15
      refine im_ld (q := 171) (i := 9) D109_169 rfl rfl rfl ?_
      refine im_ifc (q := 174) (t := 185) D109_171 rfl hg9 (fun hc16 => ?_) (fun hc16 => ?_)
      · replace hP := hP.1 hc16
        refine im_ld (q := 187) (i := 9) D109_185 rfl rfl rfl ?_
        exact im_iret (q := 188) D109_187 rfl hP
      · replace hP := hP.2 (Decidable.not_not.mp hc16)
        refine im_ld (q := 175) (i := 0) D109_174 rfl rfl rfl ?_
        obtain ⟨b17, hb18, hP⟩ := hP
        obtain ⟨hb19, hP⟩ := hP
        refine im_gfD (q := 178) D109_175 (im_fl cn_109 fl_2_31) sf_931 rfl rfl tR_2_4 rfl hb18 ?_
        refine im_ld (q := 179) (i := 0) D109_178 rfl rfl rfl ?_
        refine im_rng (j := 10) sf_931 (by decide) (by decide) (fun hr20 => ?_)
        refine im_gfL (q := 182) D109_179 (im_fl cn_109 fl_2_79) sf_931 rfl rfl tL_2_10 rfl ?_
        refine im_pfL (q := 185) D109_182 (im_fl cn_109 fl_2_167) hb19.1 rfl rfl tl_9_4 hr20 ?_
        refine im_ld (q := 187) (i := 9) D109_185 rfl rfl rfl ?_
        exact im_iret (q := 188) D109_187 rfl hP
    refine im_ifc (q := 141) (t := 169) D109_138 rfl hg9 (fun hc10 => ?_) (fun hc10 => ?_)
    · exact (kJ14  (Or.inl hc10)).wk ⟨rfl, rfl, trivial⟩
    · replace hP := hP (Decidable.not_not.mp hc10)
      refine im_ld (q := 143) (i := 7) D109_141 rfl rfl rfl ?_
      obtain ⟨hg11, hP⟩ := hP
      refine im_ifc (q := 146) (t := 169) D109_143 rfl hg11 (fun hc12 => ?_) (fun hc12 => ?_)
      · exact (kJ14  (Or.inr ⟨(Decidable.not_not.mp hc10), hc12⟩)).wk ⟨rfl, rfl, trivial⟩
      · replace hP := hP (Decidable.not_not.mp hc12)
        refine im_ld (q := 147) (i := 0) D109_146 rfl rfl rfl ?_
        obtain ⟨b21, hb22, hP⟩ := hP
        obtain ⟨hb23, hP⟩ := hP
        refine im_gfD (q := 150) D109_147 (im_fl cn_109 fl_2_31) sf_931 rfl rfl tR_2_4 rfl hb22 ?_
        refine im_rng (j := 5) hb23.1 (by decide) (show (5 : Int) < ((7 : Nat) : Int) by decide) (fun hr24 => ?_)
        refine im_gfI (q := 153) D109_150 (im_fl cn_109 fl_2_183) hb23.1 rfl rfl tI_9_5 rfl ?_
        refine im_ld (q := 155) (i := 8) D109_153 rfl rfl rfl ?_
        obtain ⟨hg25, hP⟩ := hP
        obtain ⟨hP, hJ29⟩ := hP
        have kJ30 : (((¬ (M b21 5) = p8)) ∨ (((M b21 5) = p8) ∧ (¬ (M 931 13) = 0))) → im_T g d 109 169 [some (.ref 931), none, none, none, none, none, none, none, none, some (vI p9), none] [] e M K := by
          intro  hx31
          have hP := hJ29  hx31
          refine im_ld (q := 171) (i := 9) D109_169 rfl rfl rfl ?_
          refine im_ifc (q := 174) (t := 185) D109_171 rfl hg9 (fun hc32 => ?_) (fun hc32 => ?_)
          · replace hP := hP.1 hc32
            refine im_ld (q := 187) (i := 9) D109_185 rfl rfl rfl ?_
            exact im_iret (q := 188) D109_187 rfl hP
          · replace hP := hP.2 (Decidable.not_not.mp hc32)
            refine im_ld (q := 175) (i := 0) D109_174 rfl rfl rfl ?_
            obtain ⟨b33, hb34, hP⟩ := hP
            obtain ⟨hb35, hP⟩ := hP
            refine im_gfD (q := 178) D109_175 (im_fl cn_109 fl_2_31) sf_931 rfl rfl tR_2_4 rfl hb34 ?_
            refine im_ld (q := 179) (i := 0) D109_178 rfl rfl rfl ?_
            refine im_rng (j := 10) sf_931 (by decide) (by decide) (fun hr36 => ?_)
            refine im_gfL (q := 182) D109_179 (im_fl cn_109 fl_2_79) sf_931 rfl rfl tL_2_10 rfl ?_
            refine im_pfL (q := 185) D109_182 (im_fl cn_109 fl_2_167) hb35.1 rfl rfl tl_9_4 hr36 ?_
            refine im_ld (q := 187) (i := 9) D109_185 rfl rfl rfl ?_
            exact im_iret (q := 188) D109_187 rfl hP
        refine im_icmp (q := 158) (t := 169) D109_155 rfl hr24 hg25 (fun hc26 => ?_) (fun hc26 => ?_)
        · exact (kJ30  (Or.inl hc26)).wk ⟨rfl, rfl, trivial⟩
        · replace hP := hP (Decidable.not_not.mp hc26)
          refine im_ld (q := 159) (i := 0) D109_158 rfl rfl rfl ?_
          refine im_rng (j := 13) sf_931 (by decide) (by decide) (fun hr27 => ?_)
          refine im_gfI (q := 162) D109_159 (im_fl cn_109 fl_2_180) sf_931 rfl rfl tI_2_13 rfl ?_
          refine im_ifc (q := 165) (t := 169) D109_162 rfl (im_z32 hr27) (fun hc28 => ?_) (fun hc28 => ?_)
          · exact (kJ30  (Or.inr ⟨(Decidable.not_not.mp hc26), hc28⟩)).wk ⟨rfl, rfl, trivial⟩
          · replace hP := hP (Decidable.not_not.mp hc28)
            refine im_bipush (q := 167) D109_165 rfl ?_
            refine im_st1 (q := 169) (i := 9) (L' := [some (.ref 931), none, none, none, none, none, none, some (vI p7), some (vI p8), some (vI (-6)), none]) D109_167 (Or.inr rfl) (Nat.le_of_ble_eq_true rfl) rfl ?_
            refine im_ld (q := 171) (i := 9) D109_169 rfl rfl rfl ?_
            refine im_ifc (q := 174) (t := 185) D109_171 rfl (by decide) (fun _ => ?_) (fun hc => absurd (show ¬ ((-6) : Int) = 0 by decide) hc)
            refine im_ld (q := 187) (i := 9) D109_185 rfl rfl rfl ?_
            exact im_iret (q := 188) D109_187 rfl hP
  refine im_icmp (q := 104) (t := 136) D109_101 rfl hg1 hg2 (fun hc3 => ?_) (fun hc3 => ?_)
  · exact (kJ7  (Or.inl hc3)).wk ⟨rfl, rfl, rfl, rfl, trivial⟩
  · replace hP := hP (Int.not_le.mp hc3)
    refine im_ld (q := 106) (i := 9) D109_104 rfl rfl rfl ?_
    obtain ⟨hg4, hP⟩ := hP
    refine im_ifc (q := 109) (t := 136) D109_106 rfl hg4 (fun hc5 => ?_) (fun hc5 => ?_)
    · exact (kJ7  (Or.inr ⟨(Int.not_le.mp hc3), hc5⟩)).wk ⟨rfl, rfl, rfl, rfl, trivial⟩
    · replace hP := hP (Decidable.not_not.mp hc5)
      refine im_ld (q := 110) (i := 0) D109_109 rfl rfl rfl ?_
      refine im_ld (q := 112) (i := 5) D109_110 rfl rfl rfl ?_
      refine im_ld (q := 114) (i := 10) D109_112 rfl rfl rfl ?_
      refine im_callV (q := 117) (kd := 1) (y := 142) (n := 2) (ci := 2) (a := 931) (vs := [.ref 931, .ref p5, vI p10]) (r := []) (L2 := [some (.ref 931), some (.ref p5), some (vI p10), none, none, none, none]) D109_114 (im_cal cn_109 cl_2_190) (Or.inl rfl) rfl sf_931 rfl rfl rfl rfl hd ⟨rfl, rfl, rfl, trivial⟩ ?_
      refine hP.mono ?_
      rintro _ e45 M38 ⟨x39, rfl, rfl, hP⟩
      refine im_bkS ?_
      refine im_st1 (q := 119) (i := 9) (L' := [some (.ref 931), none, none, none, none, some (.ref p5), some (vI p6), some (vI p7), some (vI p8), some (vI x39), some (vI p10)]) D109_117 (Or.inr rfl) (Nat.le_of_ble_eq_true rfl) rfl ?_
      refine im_ld (q := 121) (i := 9) D109_119 rfl rfl rfl ?_
      obtain ⟨hg40, hP⟩ := hP
      refine im_ifc (q := 124) (t := 130) D109_121 rfl hg40 (fun hc41 => ?_) (fun hc41 => ?_)
      · replace hP := hP.1 hc41
        refine im_iinc (q := 133) (i := 10) (L' := [some (.ref 931), none, none, none, none, some (.ref p5), some (vI p6), some (vI p7), some (vI p8), some (vI x39), some (vI (p10 + 1))]) D109_130 rfl (Nat.le_of_ble_eq_true rfl) rfl ?_
        refine im_goto (q := 136) (t := 94) D109_133 rfl ?_
        exact hP.wk ⟨rfl, rfl, rfl, rfl, rfl, rfl, rfl, trivial⟩
      · replace hP := hP.2 (Decidable.not_not.mp hc41)
        refine im_ld (q := 125) (i := 0) D109_124 rfl rfl rfl ?_
        refine im_callV (q := 128) (kd := 1) (y := 111) (n := 0) (ci := 2) (a := 931) (vs := [.ref 931]) (r := []) (L2 := [some (.ref 931), none, none, none, none, none, none]) D109_125 (im_cal cn_109 cl_2_186) (Or.inl rfl) rfl sf_931 rfl rfl rfl rfl hd ⟨rfl, trivial⟩ ?_
        refine hP.mono ?_
        rintro _ e44 M42 ⟨x43, rfl, rfl, hP⟩
        refine im_bkS ?_
        refine im_st1 (q := 130) (i := 9) (L' := [some (.ref 931), none, none, none, none, some (.ref p5), some (vI p6), some (vI p7), some (vI p8), some (vI x43), some (vI p10)]) D109_128 (Or.inr rfl) (Nat.le_of_ble_eq_true rfl) rfl ?_
        refine im_iinc (q := 133) (i := 10) (L' := [some (.ref 931), none, none, none, none, some (.ref p5), some (vI p6), some (vI p7), some (vI p8), some (vI x43), some (vI (p10 + 1))]) D109_130 rfl (Nat.le_of_ble_eq_true rfl) rfl ?_
        refine im_goto (q := 136) (t := 94) D109_133 rfl ?_
        exact hP.wk ⟨rfl, rfl, rfl, rfl, rfl, rfl, rfl, trivial⟩
set_option maxRecDepth 20000 in
set_option maxHeartbeats 4000000 in
theorem k_Machine_stand_0 {g : im_g} {d : Nat} {e : im_E} {M : im_M} {K : im_K} {p1 p3 : Int} (hP : (im_i64 p1) ∧ (im_i64 p3) ∧ K (.inl none) e (im_u (im_u (im_u M 931 10 p1) 931 11 p3) 931 12 0)) : im_T g d 110 0 [some (.ref 931), some (vL p1), none, some (vL p3), none] [] e M K := by
  refine im_ld (q := 1) (i := 0) D110_0 rfl rfl rfl ?_
  refine im_ld (q := 2) (i := 1) D110_1 rfl rfl rfl ?_
  obtain ⟨hg1, hP⟩ := hP
  refine im_pfL (q := 5) D110_2 (im_fl cn_110 fl_2_79) sf_931 rfl rfl tl_2_10 hg1 ?_
  refine im_ld (q := 6) (i := 0) D110_5 rfl rfl rfl ?_
  refine im_ld (q := 7) (i := 3) D110_6 rfl rfl rfl ?_
  obtain ⟨hg2, hP⟩ := hP
  refine im_pfL (q := 10) D110_7 (im_fl cn_110 fl_2_83) sf_931 rfl rfl tl_2_11 hg2 ?_
  refine im_ld (q := 11) (i := 0) D110_10 rfl rfl rfl ?_
  refine im_iconst (q := 12) D110_11 ?_
  refine im_pfZ (q := 15) D110_12 (im_fl cn_110 fl_2_86) sf_931 rfl rfl tz_2_12 (by decide) ?_
  exact im_vret (q := 16) D110_15 rfl hP

/-! blocks of the class -/
theorem D37_0 {g : im_g} : im_D g 37 0 (.aload_n 0) 1 := im_D.of (by decide +kernel)
theorem D37_1 {g : im_g} : im_D g 37 1 (.getfield 29) 4 := im_D.of (by decide +kernel)
theorem D37_4 {g : im_g} : im_D g 37 4 (.aload_n 1) 5 := im_D.of (by decide +kernel)
theorem D37_5 {g : im_g} : im_D g 37 5 (.iload_n 2) 6 := im_D.of (by decide +kernel)
theorem D37_6 {g : im_g} : im_D g 37 6 (.invokevirtual 33) 9 := im_D.of (by decide +kernel)
theorem D37_9 {g : im_g} : im_D g 37 9 (.aload_n 0) 10 := im_D.of (by decide +kernel)
theorem D37_10 {g : im_g} : im_D g 37 10 (.iconst 0) 11 := im_D.of (by decide +kernel)
theorem D37_11 {g : im_g} : im_D g 37 11 (.putfield 39) 14 := im_D.of (by decide +kernel)
theorem D37_14 {g : im_g} : im_D g 37 14 (.aload_n 0) 15 := im_D.of (by decide +kernel)
theorem D37_15 {g : im_g} : im_D g 37 15 (.iconst 0) 16 := im_D.of (by decide +kernel)
theorem D37_16 {g : im_g} : im_D g 37 16 (.putfield 43) 19 := im_D.of (by decide +kernel)
theorem D37_19 {g : im_g} : im_D g 37 19 (.aload_n 0) 20 := im_D.of (by decide +kernel)
theorem D37_20 {g : im_g} : im_D g 37 20 (.iconst 0) 21 := im_D.of (by decide +kernel)
theorem D37_21 {g : im_g} : im_D g 37 21 (.putfield 46) 24 := im_D.of (by decide +kernel)
theorem D37_24 {g : im_g} : im_D g 37 24 (.aload_n 0) 25 := im_D.of (by decide +kernel)
theorem D37_25 {g : im_g} : im_D g 37 25 (.bipush 99) 27 := im_D.of (by decide +kernel)
theorem D37_27 {g : im_g} : im_D g 37 27 (.iconst (-1)) 28 := im_D.of (by decide +kernel)
theorem D37_28 {g : im_g} : im_D g 37 28 (.invokevirtual 49) 31 := im_D.of (by decide +kernel)
theorem D37_31 {g : im_g} : im_D g 37 31 (.iconst 0) 32 := im_D.of (by decide +kernel)
theorem D37_32 {g : im_g} : im_D g 37 32 (.istore_n 3) 33 := im_D.of (by decide +kernel)
theorem D37_33 {g : im_g} : im_D g 37 33 (.iconst 0) 34 := im_D.of (by decide +kernel)
theorem D37_34 {g : im_g} : im_D g 37 34 (.istore 4) 36 := im_D.of (by decide +kernel)
theorem D37_36 {g : im_g} : im_D g 37 36 (.iload 4) 38 := im_D.of (by decide +kernel)
theorem D37_38 {g : im_g} : im_D g 37 38 (.iload_n 2) 39 := im_D.of (by decide +kernel)
theorem D37_39 {g : im_g} : im_D g 37 39 (.if_icmp .gt 92) 42 := im_D.of (by decide +kernel)
theorem D37_42 {g : im_g} : im_D g 37 42 (.aload_n 0) 43 := im_D.of (by decide +kernel)
theorem D37_43 {g : im_g} : im_D g 37 43 (.getfield 46) 46 := im_D.of (by decide +kernel)
theorem D37_46 {g : im_g} : im_D g 37 46 (.ifCond .le 85) 49 := im_D.of (by decide +kernel)
theorem D37_49 {g : im_g} : im_D g 37 49 (.iload_n 3) 50 := im_D.of (by decide +kernel)
theorem D37_50 {g : im_g} : im_D g 37 50 (.ifCond .ne 81) 53 := im_D.of (by decide +kernel)
theorem D37_53 {g : im_g} : im_D g 37 53 (.aload_n 0) 54 := im_D.of (by decide +kernel)
theorem D37_54 {g : im_g} : im_D g 37 54 (.getfield 29) 57 := im_D.of (by decide +kernel)
theorem D37_57 {g : im_g} : im_D g 37 57 (.invokevirtual 53) 60 := im_D.of (by decide +kernel)
theorem D37_60 {g : im_g} : im_D g 37 60 (.aload_n 0) 61 := im_D.of (by decide +kernel)
theorem D37_61 {g : im_g} : im_D g 37 61 (.getfield 29) 64 := im_D.of (by decide +kernel)
theorem D37_64 {g : im_g} : im_D g 37 64 (.getfield 56) 67 := im_D.of (by decide +kernel)
theorem D37_67 {g : im_g} : im_D g 37 67 (.ifCond .ge 15) 70 := im_D.of (by decide +kernel)
theorem D37_70 {g : im_g} : im_D g 37 70 (.aload_n 0) 71 := im_D.of (by decide +kernel)
theorem D37_71 {g : im_g} : im_D g 37 71 (.getfield 29) 74 := im_D.of (by decide +kernel)
theorem D37_74 {g : im_g} : im_D g 37 74 (.getfield 56) 77 := im_D.of (by decide +kernel)
theorem D37_77 {g : im_g} : im_D g 37 77 (.ineg) 78 := im_D.of (by decide +kernel)
theorem D37_78 {g : im_g} : im_D g 37 78 (.istore_n 3) 79 := im_D.of (by decide +kernel)
theorem D37_79 {g : im_g} : im_D g 37 79 (.goto 46) 82 := im_D.of (by decide +kernel)
theorem D37_82 {g : im_g} : im_D g 37 82 (.aload_n 0) 83 := im_D.of (by decide +kernel)
theorem D37_83 {g : im_g} : im_D g 37 83 (.getfield 29) 86 := im_D.of (by decide +kernel)
theorem D37_86 {g : im_g} : im_D g 37 86 (.getfield 56) 89 := im_D.of (by decide +kernel)
theorem D37_89 {g : im_g} : im_D g 37 89 (.bipush 41) 91 := im_D.of (by decide +kernel)
theorem D37_91 {g : im_g} : im_D g 37 91 (.if_icmp .ne 7) 94 := im_D.of (by decide +kernel)
theorem D37_94 {g : im_g} : im_D g 37 94 (.iconst 3) 95 := im_D.of (by decide +kernel)
theorem D37_95 {g : im_g} : im_D g 37 95 (.goto 29) 98 := im_D.of (by decide +kernel)
theorem D37_98 {g : im_g} : im_D g 37 98 (.aload_n 0) 99 := im_D.of (by decide +kernel)
theorem D37_99 {g : im_g} : im_D g 37 99 (.aload_n 0) 100 := im_D.of (by decide +kernel)
theorem D37_100 {g : im_g} : im_D g 37 100 (.getfield 11) 103 := im_D.of (by decide +kernel)
theorem D37_103 {g : im_g} : im_D g 37 103 (.aload_n 0) 104 := im_D.of (by decide +kernel)
theorem D37_104 {g : im_g} : im_D g 37 104 (.getfield 46) 107 := im_D.of (by decide +kernel)
theorem D37_107 {g : im_g} : im_D g 37 107 (.iconst 1) 108 := im_D.of (by decide +kernel)
theorem D37_108 {g : im_g} : im_D g 37 108 (.isub) 109 := im_D.of (by decide +kernel)
theorem D37_109 {g : im_g} : im_D g 37 109 (.iaload) 110 := im_D.of (by decide +kernel)
theorem D37_110 {g : im_g} : im_D g 37 110 (.aload_n 0) 111 := im_D.of (by decide +kernel)
theorem D37_111 {g : im_g} : im_D g 37 111 (.getfield 15) 114 := im_D.of (by decide +kernel)
theorem D37_114 {g : im_g} : im_D g 37 114 (.aload_n 0) 115 := im_D.of (by decide +kernel)
theorem D37_115 {g : im_g} : im_D g 37 115 (.getfield 46) 118 := im_D.of (by decide +kernel)
theorem D37_118 {g : im_g} : im_D g 37 118 (.iconst 1) 119 := im_D.of (by decide +kernel)
theorem D37_119 {g : im_g} : im_D g 37 119 (.isub) 120 := im_D.of (by decide +kernel)
theorem D37_120 {g : im_g} : im_D g 37 120 (.iaload) 121 := im_D.of (by decide +kernel)
theorem D37_121 {g : im_g} : im_D g 37 121 (.invokevirtual 59) 124 := im_D.of (by decide +kernel)
theorem D37_124 {g : im_g} : im_D g 37 124 (.istore_n 3) 125 := im_D.of (by decide +kernel)
theorem D37_125 {g : im_g} : im_D g 37 125 (.iinc 4 1) 128 := im_D.of (by decide +kernel)
theorem D37_128 {g : im_g} : im_D g 37 128 (.goto (-92)) 131 := im_D.of (by decide +kernel)
theorem D37_131 {g : im_g} : im_D g 37 131 (.iload_n 3) 132 := im_D.of (by decide +kernel)
theorem D37_132 {g : im_g} : im_D g 37 132 (.ifCond .ne 11) 135 := im_D.of (by decide +kernel)
theorem D37_135 {g : im_g} : im_D g 37 135 (.aload_n 0) 136 := im_D.of (by decide +kernel)
theorem D37_136 {g : im_g} : im_D g 37 136 (.getfield 29) 139 := im_D.of (by decide +kernel)
theorem D37_139 {g : im_g} : im_D g 37 139 (.invokevirtual 63) 142 := im_D.of (by decide +kernel)
theorem D37_142 {g : im_g} : im_D g 37 142 (.istore_n 3) 143 := im_D.of (by decide +kernel)
theorem D37_143 {g : im_g} : im_D g 37 143 (.iload_n 3) 144 := im_D.of (by decide +kernel)
theorem D37_144 {g : im_g} : im_D g 37 144 (.ifCond .ne 7) 147 := im_D.of (by decide +kernel)
theorem D37_147 {g : im_g} : im_D g 37 147 (.aload_n 0) 148 := im_D.of (by decide +kernel)
theorem D37_148 {g : im_g} : im_D g 37 148 (.invokevirtual 67) 151 := im_D.of (by decide +kernel)
theorem D37_151 {g : im_g} : im_D g 37 151 (.iload_n 3) 152 := im_D.of (by decide +kernel)
theorem D37_152 {g : im_g} : im_D g 37 152 (.ireturn) 153 := im_D.of (by decide +kernel)
theorem D38_0 {g : im_g} : im_D g 38 0 (.aload_n 0) 1 := im_D.of (by decide +kernel)
theorem D38_1 {g : im_g} : im_D g 38 1 (.aload_n 1) 2 := im_D.of (by decide +kernel)
theorem D38_2 {g : im_g} : im_D g 38 2 (.putfield 15) 5 := im_D.of (by decide +kernel)
theorem D38_5 {g : im_g} : im_D g 38 5 (.aload_n 0) 6 := im_D.of (by decide +kernel)
theorem D38_6 {g : im_g} : im_D g 38 6 (.iload_n 2) 7 := im_D.of (by decide +kernel)
theorem D38_7 {g : im_g} : im_D g 38 7 (.aload_n 1) 8 := im_D.of (by decide +kernel)
theorem D38_8 {g : im_g} : im_D g 38 8 (.arraylength) 9 := im_D.of (by decide +kernel)
theorem D38_9 {g : im_g} : im_D g 38 9 (.invokestatic 48) 12 := im_D.of (by decide +kernel)
theorem D38_12 {g : im_g} : im_D g 38 12 (.putfield 54) 15 := im_D.of (by decide +kernel)
theorem D38_15 {g : im_g} : im_D g 38 15 (.aload_n 0) 16 := im_D.of (by decide +kernel)
theorem D38_16 {g : im_g} : im_D g 38 16 (.iconst 0) 17 := im_D.of (by decide +kernel)
theorem D38_17 {g : im_g} : im_D g 38 17 (.putfield 56) 20 := im_D.of (by decide +kernel)
theorem D38_20 {g : im_g} : im_D g 38 20 (.return_) 21 := im_D.of (by decide +kernel)
theorem D39_0 {g : im_g} : im_D g 39 0 (.aload_n 0) 1 := im_D.of (by decide +kernel)
theorem D39_1 {g : im_g} : im_D g 39 1 (.getfield 46) 4 := im_D.of (by decide +kernel)
theorem D39_4 {g : im_g} : im_D g 39 4 (.sipush 1024) 7 := im_D.of (by decide +kernel)
theorem D39_7 {g : im_g} : im_D g 39 7 (.if_icmp .ge 33) 10 := im_D.of (by decide +kernel)
theorem D39_10 {g : im_g} : im_D g 39 10 (.aload_n 0) 11 := im_D.of (by decide +kernel)
theorem D39_11 {g : im_g} : im_D g 39 11 (.getfield 11) 14 := im_D.of (by decide +kernel)
theorem D39_14 {g : im_g} : im_D g 39 14 (.aload_n 0) 15 := im_D.of (by decide +kernel)
theorem D39_15 {g : im_g} : im_D g 39 15 (.getfield 46) 18 := im_D.of (by decide +kernel)
theorem D39_18 {g : im_g} : im_D g 39 18 (.iload_n 1) 19 := im_D.of (by decide +kernel)
theorem D39_19 {g : im_g} : im_D g 39 19 (.iastore) 20 := im_D.of (by decide +kernel)
theorem D39_20 {g : im_g} : im_D g 39 20 (.aload_n 0) 21 := im_D.of (by decide +kernel)
theorem D39_21 {g : im_g} : im_D g 39 21 (.getfield 15) 24 := im_D.of (by decide +kernel)
theorem D39_24 {g : im_g} : im_D g 39 24 (.aload_n 0) 25 := im_D.of (by decide +kernel)
theorem D39_25 {g : im_g} : im_D g 39 25 (.getfield 46) 28 := im_D.of (by decide +kernel)
theorem D39_28 {g : im_g} : im_D g 39 28 (.iload_n 2) 29 := im_D.of (by decide +kernel)
theorem D39_29 {g : im_g} : im_D g 39 29 (.iastore) 30 := im_D.of (by decide +kernel)
theorem D39_30 {g : im_g} : im_D g 39 30 (.aload_n 0) 31 := im_D.of (by decide +kernel)
theorem D39_31 {g : im_g} : im_D g 39 31 (.dup) 32 := im_D.of (by decide +kernel)
theorem D39_32 {g : im_g} : im_D g 39 32 (.getfield 46) 35 := im_D.of (by decide +kernel)
theorem D39_35 {g : im_g} : im_D g 39 35 (.iconst 1) 36 := im_D.of (by decide +kernel)
theorem D39_36 {g : im_g} : im_D g 39 36 (.iadd) 37 := im_D.of (by decide +kernel)
theorem D39_37 {g : im_g} : im_D g 39 37 (.putfield 46) 40 := im_D.of (by decide +kernel)
theorem D39_40 {g : im_g} : im_D g 39 40 (.return_) 41 := im_D.of (by decide +kernel)
theorem D40_0 {g : im_g} : im_D g 40 0 (.aload_n 0) 1 := im_D.of (by decide +kernel)
theorem D40_1 {g : im_g} : im_D g 40 1 (.getfield 56) 4 := im_D.of (by decide +kernel)
theorem D40_4 {g : im_g} : im_D g 40 4 (.istore_n 1) 5 := im_D.of (by decide +kernel)
theorem D40_5 {g : im_g} : im_D g 40 5 (.iload_n 1) 6 := im_D.of (by decide +kernel)
theorem D40_6 {g : im_g} : im_D g 40 6 (.aload_n 0) 7 := im_D.of (by decide +kernel)
theorem D40_7 {g : im_g} : im_D g 40 7 (.getfield 54) 10 := im_D.of (by decide +kernel)
theorem D40_10 {g : im_g} : im_D g 40 10 (.if_icmp .ge 21) 13 := im_D.of (by decide +kernel)
theorem D40_13 {g : im_g} : im_D g 40 13 (.aload_n 0) 14 := im_D.of (by decide +kernel)
theorem D40_14 {g : im_g} : im_D g 40 14 (.getfield 15) 17 := im_D.of (by decide +kernel)
theorem D40_17 {g : im_g} : im_D g 40 17 (.iload_n 1) 18 := im_D.of (by decide +kernel)
theorem D40_18 {g : im_g} : im_D g 40 18 (.baload) 19 := im_D.of (by decide +kernel)
theorem D40_19 {g : im_g} : im_D g 40 19 (.invokestatic 59) 22 := im_D.of (by decide +kernel)
theorem D40_22 {g : im_g} : im_D g 40 22 (.ifCond .eq 9) 25 := im_D.of (by decide +kernel)
theorem D40_25 {g : im_g} : im_D g 40 25 (.iinc 1 1) 28 := im_D.of (by decide +kernel)
theorem D40_28 {g : im_g} : im_D g 40 28 (.goto (-23)) 31 := im_D.of (by decide +kernel)
theorem D40_31 {g : im_g} : im_D g 40 31 (.aload_n 0) 32 := im_D.of (by decide +kernel)
theorem D40_32 {g : im_g} : im_D g 40 32 (.iload_n 1) 33 := im_D.of (by decide +kernel)
theorem D40_33 {g : im_g} : im_D g 40 33 (.putfield 45) 36 := im_D.of (by decide +kernel)
theorem D40_36 {g : im_g} : im_D g 40 36 (.aload_n 0) 37 := im_D.of (by decide +kernel)
theorem D40_37 {g : im_g} : im_D g 40 37 (.iload_n 1) 38 := im_D.of (by decide +kernel)
theorem D40_38 {g : im_g} : im_D g 40 38 (.putfield 56) 41 := im_D.of (by decide +kernel)
theorem D40_41 {g : im_g} : im_D g 40 41 (.iload_n 1) 42 := im_D.of (by decide +kernel)
theorem D40_42 {g : im_g} : im_D g 40 42 (.aload_n 0) 43 := im_D.of (by decide +kernel)
theorem D40_43 {g : im_g} : im_D g 40 43 (.getfield 54) 46 := im_D.of (by decide +kernel)
theorem D40_46 {g : im_g} : im_D g 40 46 (.if_icmp .lt 10) 49 := im_D.of (by decide +kernel)
theorem D40_49 {g : im_g} : im_D g 40 49 (.aload_n 0) 50 := im_D.of (by decide +kernel)
theorem D40_50 {g : im_g} : im_D g 40 50 (.bipush 41) 52 := im_D.of (by decide +kernel)
theorem D40_52 {g : im_g} : im_D g 40 52 (.putfield 63) 55 := im_D.of (by decide +kernel)
theorem D40_55 {g : im_g} : im_D g 40 55 (.return_) 56 := im_D.of (by decide +kernel)
theorem D40_56 {g : im_g} : im_D g 40 56 (.aload_n 0) 57 := im_D.of (by decide +kernel)
theorem D40_57 {g : im_g} : im_D g 40 57 (.aload_n 0) 58 := im_D.of (by decide +kernel)
theorem D40_58 {g : im_g} : im_D g 40 58 (.getfield 15) 61 := im_D.of (by decide +kernel)
theorem D40_61 {g : im_g} : im_D g 40 61 (.iload_n 1) 62 := im_D.of (by decide +kernel)
theorem D40_62 {g : im_g} : im_D g 40 62 (.baload) 63 := im_D.of (by decide +kernel)
theorem D40_63 {g : im_g} : im_D g 40 63 (.invokestatic 66) 66 := im_D.of (by decide +kernel)
theorem D40_66 {g : im_g} : im_D g 40 66 (.putfield 63) 69 := im_D.of (by decide +kernel)
theorem D40_69 {g : im_g} : im_D g 40 69 (.aload_n 0) 70 := im_D.of (by decide +kernel)
theorem D40_70 {g : im_g} : im_D g 40 70 (.getfield 63) 73 := im_D.of (by decide +kernel)
theorem D40_73 {g : im_g} : im_D g 40 73 (.iconst (-1)) 74 := im_D.of (by decide +kernel)
theorem D40_74 {g : im_g} : im_D g 40 74 (.if_icmp .eq 11) 77 := im_D.of (by decide +kernel)
theorem D40_77 {g : im_g} : im_D g 40 77 (.aload_n 0) 78 := im_D.of (by decide +kernel)
theorem D40_78 {g : im_g} : im_D g 40 78 (.iload_n 1) 79 := im_D.of (by decide +kernel)
theorem D40_79 {g : im_g} : im_D g 40 79 (.iconst 1) 80 := im_D.of (by decide +kernel)
theorem D40_80 {g : im_g} : im_D g 40 80 (.iadd) 81 := im_D.of (by decide +kernel)
theorem D40_81 {g : im_g} : im_D g 40 81 (.putfield 56) 84 := im_D.of (by decide +kernel)
theorem D40_84 {g : im_g} : im_D g 40 84 (.return_) 85 := im_D.of (by decide +kernel)
theorem D40_85 {g : im_g} : im_D g 40 85 (.aload_n 0) 86 := im_D.of (by decide +kernel)
theorem D40_86 {g : im_g} : im_D g 40 86 (.getfield 56) 89 := im_D.of (by decide +kernel)
theorem D40_89 {g : im_g} : im_D g 40 89 (.aload_n 0) 90 := im_D.of (by decide +kernel)
theorem D40_90 {g : im_g} : im_D g 40 90 (.getfield 54) 93 := im_D.of (by decide +kernel)
theorem D40_93 {g : im_g} : im_D g 40 93 (.if_icmp .ge 47) 96 := im_D.of (by decide +kernel)
theorem D40_96 {g : im_g} : im_D g 40 96 (.aload_n 0) 97 := im_D.of (by decide +kernel)
theorem D40_97 {g : im_g} : im_D g 40 97 (.getfield 15) 100 := im_D.of (by decide +kernel)
theorem D40_100 {g : im_g} : im_D g 40 100 (.aload_n 0) 101 := im_D.of (by decide +kernel)
theorem D40_101 {g : im_g} : im_D g 40 101 (.getfield 56) 104 := im_D.of (by decide +kernel)
theorem D40_104 {g : im_g} : im_D g 40 104 (.baload) 105 := im_D.of (by decide +kernel)
theorem D40_105 {g : im_g} : im_D g 40 105 (.invokestatic 59) 108 := im_D.of (by decide +kernel)
theorem D40_108 {g : im_g} : im_D g 40 108 (.ifCond .ne 32) 111 := im_D.of (by decide +kernel)
theorem D40_111 {g : im_g} : im_D g 40 111 (.aload_n 0) 112 := im_D.of (by decide +kernel)
theorem D40_112 {g : im_g} : im_D g 40 112 (.getfield 15) 115 := im_D.of (by decide +kernel)
theorem D40_115 {g : im_g} : im_D g 40 115 (.aload_n 0) 116 := im_D.of (by decide +kernel)
theorem D40_116 {g : im_g} : im_D g 40 116 (.getfield 56) 119 := im_D.of (by decide +kernel)
theorem D40_119 {g : im_g} : im_D g 40 119 (.baload) 120 := im_D.of (by decide +kernel)
theorem D40_120 {g : im_g} : im_D g 40 120 (.invokestatic 66) 123 := im_D.of (by decide +kernel)
theorem D40_123 {g : im_g} : im_D g 40 123 (.iconst (-1)) 124 := im_D.of (by decide +kernel)
theorem D40_124 {g : im_g} : im_D g 40 124 (.if_icmp .ne 16) 127 := im_D.of (by decide +kernel)
theorem D40_127 {g : im_g} : im_D g 40 127 (.aload_n 0) 128 := im_D.of (by decide +kernel)
theorem D40_128 {g : im_g} : im_D g 40 128 (.dup) 129 := im_D.of (by decide +kernel)
theorem D40_129 {g : im_g} : im_D g 40 129 (.getfield 56) 132 := im_D.of (by decide +kernel)
theorem D40_132 {g : im_g} : im_D g 40 132 (.iconst 1) 133 := im_D.of (by decide +kernel)
theorem D40_133 {g : im_g} : im_D g 40 133 (.iadd) 134 := im_D.of (by decide +kernel)
theorem D40_134 {g : im_g} : im_D g 40 134 (.putfield 56) 137 := im_D.of (by decide +kernel)
theorem D40_137 {g : im_g} : im_D g 40 137 (.goto (-52)) 140 := im_D.of (by decide +kernel)
theorem D40_140 {g : im_g} : im_D g 40 140 (.aload_n 0) 141 := im_D.of (by decide +kernel)
theorem D40_141 {g : im_g} : im_D g 40 141 (.aload_n 0) 142 := im_D.of (by decide +kernel)
theorem D40_142 {g : im_g} : im_D g 40 142 (.iload_n 1) 143 := im_D.of (by decide +kernel)
theorem D40_143 {g : im_g} : im_D g 40 143 (.aload_n 0) 144 := im_D.of (by decide +kernel)
theorem D40_144 {g : im_g} : im_D g 40 144 (.getfield 56) 147 := im_D.of (by decide +kernel)
theorem D40_147 {g : im_g} : im_D g 40 147 (.invokevirtual 70) 150 := im_D.of (by decide +kernel)
theorem D40_150 {g : im_g} : im_D g 40 150 (.putfield 63) 153 := im_D.of (by decide +kernel)
theorem D40_153 {g : im_g} : im_D g 40 153 (.return_) 154 := im_D.of (by decide +kernel)
theorem D41_0 {g : im_g} : im_D g 41 0 (.iload_n 0) 1 := im_D.of (by decide +kernel)
theorem D41_1 {g : im_g} : im_D g 41 1 (.sipush 255) 4 := im_D.of (by decide +kernel)
theorem D41_4 {g : im_g} : im_D g 41 4 (.iand) 5 := im_D.of (by decide +kernel)
theorem D41_5 {g : im_g} : im_D g 41 5 (.bipush 32) 7 := im_D.of (by decide +kernel)
theorem D41_7 {g : im_g} : im_D g 41 7 (.if_icmp .gt 7) 10 := im_D.of (by decide +kernel)
theorem D41_10 {g : im_g} : im_D g 41 10 (.iconst 1) 11 := im_D.of (by decide +kernel)
theorem D41_11 {g : im_g} : im_D g 41 11 (.goto 4) 14 := im_D.of (by decide +kernel)
theorem D41_14 {g : im_g} : im_D g 41 14 (.iconst 0) 15 := im_D.of (by decide +kernel)
theorem D41_15 {g : im_g} : im_D g 41 15 (.ireturn) 16 := im_D.of (by decide +kernel)
theorem D42_0 {g : im_g} : im_D g 42 0 (.iload_n 0) 1 := im_D.of (by decide +kernel)
theorem D42_1 {g : im_g} : im_D g 42 1 (.lookupswitch 55 #[(40, 43), (41, 46), (91, 49), (93, 52)]) 2 := im_D.of (by decide +kernel)
theorem D42_44 {g : im_g} : im_D g 42 44 (.bipush 37) 46 := im_D.of (by decide +kernel)
theorem D42_46 {g : im_g} : im_D g 42 46 (.ireturn) 47 := im_D.of (by decide +kernel)
theorem D42_47 {g : im_g} : im_D g 42 47 (.bipush 38) 49 := im_D.of (by decide +kernel)
theorem D42_49 {g : im_g} : im_D g 42 49 (.ireturn) 50 := im_D.of (by decide +kernel)
theorem D42_50 {g : im_g} : im_D g 42 50 (.bipush 39) 52 := im_D.of (by decide +kernel)
theorem D42_52 {g : im_g} : im_D g 42 52 (.ireturn) 53 := im_D.of (by decide +kernel)
theorem D42_53 {g : im_g} : im_D g 42 53 (.bipush 40) 55 := im_D.of (by decide +kernel)
theorem D42_55 {g : im_g} : im_D g 42 55 (.ireturn) 56 := im_D.of (by decide +kernel)
theorem D42_56 {g : im_g} : im_D g 42 56 (.iconst (-1)) 57 := im_D.of (by decide +kernel)
theorem D42_57 {g : im_g} : im_D g 42 57 (.ireturn) 58 := im_D.of (by decide +kernel)
theorem D43_0 {g : im_g} : im_D g 43 0 (.aload_n 0) 1 := im_D.of (by decide +kernel)
theorem D43_1 {g : im_g} : im_D g 43 1 (.getfield 15) 4 := im_D.of (by decide +kernel)
theorem D43_4 {g : im_g} : im_D g 43 4 (.iload_n 1) 5 := im_D.of (by decide +kernel)
theorem D43_5 {g : im_g} : im_D g 43 5 (.baload) 6 := im_D.of (by decide +kernel)
theorem D43_6 {g : im_g} : im_D g 43 6 (.istore_n 3) 7 := im_D.of (by decide +kernel)
theorem D43_7 {g : im_g} : im_D g 43 7 (.iload_n 3) 8 := im_D.of (by decide +kernel)
theorem D43_8 {g : im_g} : im_D g 43 8 (.bipush 45) 10 := im_D.of (by decide +kernel)
theorem D43_10 {g : im_g} : im_D g 43 10 (.if_icmp .eq 10) 13 := im_D.of (by decide +kernel)
theorem D43_13 {g : im_g} : im_D g 43 13 (.iload_n 3) 14 := im_D.of (by decide +kernel)
theorem D43_14 {g : im_g} : im_D g 43 14 (.invokestatic 73) 17 := im_D.of (by decide +kernel)
theorem D43_17 {g : im_g} : im_D g 43 17 (.ifCond .eq 10) 20 := im_D.of (by decide +kernel)
theorem D43_20 {g : im_g} : im_D g 43 20 (.aload_n 0) 21 := im_D.of (by decide +kernel)
theorem D43_21 {g : im_g} : im_D g 43 21 (.iload_n 1) 22 := im_D.of (by decide +kernel)
theorem D43_22 {g : im_g} : im_D g 43 22 (.iload_n 2) 23 := im_D.of (by decide +kernel)
theorem D43_23 {g : im_g} : im_D g 43 23 (.invokevirtual 76) 26 := im_D.of (by decide +kernel)
theorem D43_26 {g : im_g} : im_D g 43 26 (.ireturn) 27 := im_D.of (by decide +kernel)
theorem D43_27 {g : im_g} : im_D g 43 27 (.iload_n 3) 28 := im_D.of (by decide +kernel)
theorem D43_28 {g : im_g} : im_D g 43 28 (.bipush 63) 30 := im_D.of (by decide +kernel)
theorem D43_30 {g : im_g} : im_D g 43 30 (.if_icmp .ne 7) 33 := im_D.of (by decide +kernel)
theorem D43_33 {g : im_g} : im_D g 43 33 (.iconst 1) 34 := im_D.of (by decide +kernel)
theorem D43_34 {g : im_g} : im_D g 43 34 (.goto 4) 37 := im_D.of (by decide +kernel)
theorem D43_37 {g : im_g} : im_D g 43 37 (.iconst 0) 38 := im_D.of (by decide +kernel)
theorem D43_38 {g : im_g} : im_D g 43 38 (.istore 4) 40 := im_D.of (by decide +kernel)
theorem D43_40 {g : im_g} : im_D g 43 40 (.aload_n 0) 41 := im_D.of (by decide +kernel)
theorem D43_41 {g : im_g} : im_D g 43 41 (.iload 4) 43 := im_D.of (by decide +kernel)
theorem D43_43 {g : im_g} : im_D g 43 43 (.ifCond .eq 9) 46 := im_D.of (by decide +kernel)
theorem D43_46 {g : im_g} : im_D g 43 46 (.iload_n 1) 47 := im_D.of (by decide +kernel)
theorem D43_47 {g : im_g} : im_D g 43 47 (.iconst 1) 48 := im_D.of (by decide +kernel)
theorem D43_48 {g : im_g} : im_D g 43 48 (.iadd) 49 := im_D.of (by decide +kernel)
theorem D43_49 {g : im_g} : im_D g 43 49 (.goto 4) 52 := im_D.of (by decide +kernel)
theorem D43_52 {g : im_g} : im_D g 43 52 (.iload_n 1) 53 := im_D.of (by decide +kernel)
theorem D43_53 {g : im_g} : im_D g 43 53 (.iload_n 2) 54 := im_D.of (by decide +kernel)
theorem D43_54 {g : im_g} : im_D g 43 54 (.invokevirtual 79) 57 := im_D.of (by decide +kernel)
theorem D43_57 {g : im_g} : im_D g 43 57 (.ifCond .ne 5) 60 := im_D.of (by decide +kernel)
theorem D43_60 {g : im_g} : im_D g 43 60 (.iconst (-1)) 61 := im_D.of (by decide +kernel)
theorem D43_61 {g : im_g} : im_D g 43 61 (.ireturn) 62 := im_D.of (by decide +kernel)
theorem D43_62 {g : im_g} : im_D g 43 62 (.aload_n 0) 63 := im_D.of (by decide +kernel)
theorem D43_63 {g : im_g} : im_D g 43 63 (.aload_n 0) 64 := im_D.of (by decide +kernel)
theorem D43_64 {g : im_g} : im_D g 43 64 (.getfield 83) 67 := im_D.of (by decide +kernel)
theorem D43_67 {g : im_g} : im_D g 43 67 (.invokevirtual 87) 70 := im_D.of (by decide +kernel)
theorem D43_70 {g : im_g} : im_D g 43 70 (.istore 5) 72 := im_D.of (by decide +kernel)
theorem D43_72 {g : im_g} : im_D g 43 72 (.iload 4) 74 := im_D.of (by decide +kernel)
theorem D43_74 {g : im_g} : im_D g 43 74 (.ifCond .eq 16) 77 := im_D.of (by decide +kernel)
theorem D43_77 {g : im_g} : im_D g 43 77 (.iload 5) 79 := im_D.of (by decide +kernel)
theorem D43_79 {g : im_g} : im_D g 43 79 (.iconst (-1)) 80 := im_D.of (by decide +kernel)
theorem D43_80 {g : im_g} : im_D g 43 80 (.if_icmp .ne 8) 83 := im_D.of (by decide +kernel)
theorem D43_83 {g : im_g} : im_D g 43 83 (.bipush 35) 85 := im_D.of (by decide +kernel)
theorem D43_85 {g : im_g} : im_D g 43 85 (.goto 4) 88 := im_D.of (by decide +kernel)
theorem D43_88 {g : im_g} : im_D g 43 88 (.iconst (-1)) 89 := im_D.of (by decide +kernel)
theorem D43_89 {g : im_g} : im_D g 43 89 (.ireturn) 90 := im_D.of (by decide +kernel)
theorem D43_90 {g : im_g} : im_D g 43 90 (.iload 5) 92 := im_D.of (by decide +kernel)
theorem D43_92 {g : im_g} : im_D g 43 92 (.iconst (-1)) 93 := im_D.of (by decide +kernel)
theorem D43_93 {g : im_g} : im_D g 43 93 (.if_icmp .ne 8) 96 := im_D.of (by decide +kernel)
theorem D43_96 {g : im_g} : im_D g 43 96 (.bipush 36) 98 := im_D.of (by decide +kernel)
theorem D43_98 {g : im_g} : im_D g 43 98 (.goto 5) 101 := im_D.of (by decide +kernel)
theorem D43_101 {g : im_g} : im_D g 43 101 (.iload 5) 103 := im_D.of (by decide +kernel)
theorem D43_103 {g : im_g} : im_D g 43 103 (.ireturn) 104 := im_D.of (by decide +kernel)
theorem D44_0 {g : im_g} : im_D g 44 0 (.iload_n 0) 1 := im_D.of (by decide +kernel)
theorem D44_1 {g : im_g} : im_D g 44 1 (.bipush 48) 3 := im_D.of (by decide +kernel)
theorem D44_3 {g : im_g} : im_D g 44 3 (.if_icmp .lt 13) 6 := im_D.of (by decide +kernel)
theorem D44_6 {g : im_g} : im_D g 44 6 (.iload_n 0) 7 := im_D.of (by decide +kernel)
theorem D44_7 {g : im_g} : im_D g 44 7 (.bipush 57) 9 := im_D.of (by decide +kernel)
theorem D44_9 {g : im_g} : im_D g 44 9 (.if_icmp .gt 7) 12 := im_D.of (by decide +kernel)
theorem D44_12 {g : im_g} : im_D g 44 12 (.iconst 1) 13 := im_D.of (by decide +kernel)
theorem D44_13 {g : im_g} : im_D g 44 13 (.goto 4) 16 := im_D.of (by decide +kernel)
theorem D44_16 {g : im_g} : im_D g 44 16 (.iconst 0) 17 := im_D.of (by decide +kernel)
theorem D44_17 {g : im_g} : im_D g 44 17 (.ireturn) 18 := im_D.of (by decide +kernel)
theorem D45_0 {g : im_g} : im_D g 45 0 (.aload_n 0) 1 := im_D.of (by decide +kernel)
theorem D45_1 {g : im_g} : im_D g 45 1 (.getfield 15) 4 := im_D.of (by decide +kernel)
theorem D45_4 {g : im_g} : im_D g 45 4 (.iload_n 1) 5 := im_D.of (by decide +kernel)
theorem D45_5 {g : im_g} : im_D g 45 5 (.baload) 6 := im_D.of (by decide +kernel)
theorem D45_6 {g : im_g} : im_D g 45 6 (.bipush 45) 8 := im_D.of (by decide +kernel)
theorem D45_8 {g : im_g} : im_D g 45 8 (.if_icmp .ne 7) 11 := im_D.of (by decide +kernel)
theorem D45_11 {g : im_g} : im_D g 45 11 (.iconst 1) 12 := im_D.of (by decide +kernel)
theorem D45_12 {g : im_g} : im_D g 45 12 (.goto 4) 15 := im_D.of (by decide +kernel)
theorem D45_15 {g : im_g} : im_D g 45 15 (.iconst 0) 16 := im_D.of (by decide +kernel)
theorem D45_16 {g : im_g} : im_D g 45 16 (.istore_n 3) 17 := im_D.of (by decide +kernel)
theorem D45_17 {g : im_g} : im_D g 45 17 (.iload_n 3) 18 := im_D.of (by decide +kernel)
theorem D45_18 {g : im_g} : im_D g 45 18 (.ifCond .eq 9) 21 := im_D.of (by decide +kernel)
theorem D45_21 {g : im_g} : im_D g 45 21 (.iload_n 1) 22 := im_D.of (by decide +kernel)
theorem D45_22 {g : im_g} : im_D g 45 22 (.iconst 1) 23 := im_D.of (by decide +kernel)
theorem D45_23 {g : im_g} : im_D g 45 23 (.iadd) 24 := im_D.of (by decide +kernel)
theorem D45_24 {g : im_g} : im_D g 45 24 (.goto 4) 27 := im_D.of (by decide +kernel)
theorem D45_27 {g : im_g} : im_D g 45 27 (.iload_n 1) 28 := im_D.of (by decide +kernel)
theorem D45_28 {g : im_g} : im_D g 45 28 (.istore 4) 30 := im_D.of (by decide +kernel)
theorem D45_30 {g : im_g} : im_D g 45 30 (.iload 4) 32 := im_D.of (by decide +kernel)
theorem D45_32 {g : im_g} : im_D g 45 32 (.iload_n 2) 33 := im_D.of (by decide +kernel)
theorem D45_33 {g : im_g} : im_D g 45 33 (.if_icmp .lt 5) 36 := im_D.of (by decide +kernel)
theorem D45_36 {g : im_g} : im_D g 45 36 (.iconst (-1)) 37 := im_D.of (by decide +kernel)
theorem D45_37 {g : im_g} : im_D g 45 37 (.ireturn) 38 := im_D.of (by decide +kernel)
theorem D45_38 {g : im_g} : im_D g 45 38 (.iload 4) 40 := im_D.of (by decide +kernel)
theorem D45_40 {g : im_g} : im_D g 45 40 (.istore 5) 42 := im_D.of (by decide +kernel)
theorem D45_42 {g : im_g} : im_D g 45 42 (.iload 5) 44 := im_D.of (by decide +kernel)
theorem D45_44 {g : im_g} : im_D g 45 44 (.iload_n 2) 45 := im_D.of (by decide +kernel)
theorem D45_45 {g : im_g} : im_D g 45 45 (.if_icmp .ge 24) 48 := im_D.of (by decide +kernel)
theorem D45_48 {g : im_g} : im_D g 45 48 (.aload_n 0) 49 := im_D.of (by decide +kernel)
theorem D45_49 {g : im_g} : im_D g 45 49 (.getfield 15) 52 := im_D.of (by decide +kernel)
theorem D45_52 {g : im_g} : im_D g 45 52 (.iload 5) 54 := im_D.of (by decide +kernel)
theorem D45_54 {g : im_g} : im_D g 45 54 (.baload) 55 := im_D.of (by decide +kernel)
theorem D45_55 {g : im_g} : im_D g 45 55 (.invokestatic 73) 58 := im_D.of (by decide +kernel)
theorem D45_58 {g : im_g} : im_D g 45 58 (.ifCond .ne 5) 61 := im_D.of (by decide +kernel)
theorem D45_61 {g : im_g} : im_D g 45 61 (.iconst (-1)) 62 := im_D.of (by decide +kernel)
theorem D45_62 {g : im_g} : im_D g 45 62 (.ireturn) 63 := im_D.of (by decide +kernel)
theorem D45_63 {g : im_g} : im_D g 45 63 (.iinc 5 1) 66 := im_D.of (by decide +kernel)
theorem D45_66 {g : im_g} : im_D g 45 66 (.goto (-24)) 69 := im_D.of (by decide +kernel)
theorem D45_69 {g : im_g} : im_D g 45 69 (.iload 4) 71 := im_D.of (by decide +kernel)
theorem D45_71 {g : im_g} : im_D g 45 71 (.iload_n 2) 72 := im_D.of (by decide +kernel)
theorem D45_72 {g : im_g} : im_D g 45 72 (.if_icmp .ge 21) 75 := im_D.of (by decide +kernel)
theorem D45_75 {g : im_g} : im_D g 45 75 (.aload_n 0) 76 := im_D.of (by decide +kernel)
theorem D45_76 {g : im_g} : im_D g 45 76 (.getfield 15) 79 := im_D.of (by decide +kernel)
theorem D45_79 {g : im_g} : im_D g 45 79 (.iload 4) 81 := im_D.of (by decide +kernel)
theorem D45_81 {g : im_g} : im_D g 45 81 (.baload) 82 := im_D.of (by decide +kernel)
theorem D45_82 {g : im_g} : im_D g 45 82 (.bipush 48) 84 := im_D.of (by decide +kernel)
theorem D45_84 {g : im_g} : im_D g 45 84 (.if_icmp .ne 9) 87 := im_D.of (by decide +kernel)
theorem D45_87 {g : im_g} : im_D g 45 87 (.iinc 4 1) 90 := im_D.of (by decide +kernel)
theorem D45_90 {g : im_g} : im_D g 45 90 (.goto (-21)) 93 := im_D.of (by decide +kernel)
theorem D45_93 {g : im_g} : im_D g 45 93 (.iload_n 2) 94 := im_D.of (by decide +kernel)
theorem D45_94 {g : im_g} : im_D g 45 94 (.iload 4) 96 := im_D.of (by decide +kernel)
theorem D45_96 {g : im_g} : im_D g 45 96 (.isub) 97 := im_D.of (by decide +kernel)
theorem D45_97 {g : im_g} : im_D g 45 97 (.sipush 300) 100 := im_D.of (by decide +kernel)
theorem D45_100 {g : im_g} : im_D g 45 100 (.if_icmp .le 6) 103 := im_D.of (by decide +kernel)
theorem D45_103 {g : im_g} : im_D g 45 103 (.bipush (-2)) 105 := im_D.of (by decide +kernel)
theorem D45_105 {g : im_g} : im_D g 45 105 (.ireturn) 106 := im_D.of (by decide +kernel)
theorem D45_106 {g : im_g} : im_D g 45 106 (.aload_n 0) 107 := im_D.of (by decide +kernel)
theorem D45_107 {g : im_g} : im_D g 45 107 (.getfield 22) 110 := im_D.of (by decide +kernel)
theorem D45_110 {g : im_g} : im_D g 45 110 (.aload_n 0) 111 := im_D.of (by decide +kernel)
theorem D45_111 {g : im_g} : im_D g 45 111 (.getfield 15) 114 := im_D.of (by decide +kernel)
theorem D45_114 {g : im_g} : im_D g 45 114 (.iload 4) 116 := im_D.of (by decide +kernel)
theorem D45_116 {g : im_g} : im_D g 45 116 (.iload_n 2) 117 := im_D.of (by decide +kernel)
theorem D45_117 {g : im_g} : im_D g 45 117 (.iload_n 3) 118 := im_D.of (by decide +kernel)
theorem D45_118 {g : im_g} : im_D g 45 118 (.invokevirtual 91) 121 := im_D.of (by decide +kernel)
theorem D45_121 {g : im_g} : im_D g 45 121 (.bipush 34) 123 := im_D.of (by decide +kernel)
theorem D45_123 {g : im_g} : im_D g 45 123 (.ireturn) 124 := im_D.of (by decide +kernel)
theorem D46_0 {g : im_g} : im_D g 46 0 (.aload_n 0) 1 := im_D.of (by decide +kernel)
theorem D46_1 {g : im_g} : im_D g 46 1 (.iconst 0) 2 := im_D.of (by decide +kernel)
theorem D46_2 {g : im_g} : im_D g 46 2 (.putfield 19) 5 := im_D.of (by decide +kernel)
theorem D46_5 {g : im_g} : im_D g 46 5 (.iload_n 3) 6 := im_D.of (by decide +kernel)
theorem D46_6 {g : im_g} : im_D g 46 6 (.istore 5) 8 := im_D.of (by decide +kernel)
theorem D46_8 {g : im_g} : im_D g 46 8 (.iload 5) 10 := im_D.of (by decide +kernel)
theorem D46_10 {g : im_g} : im_D g 46 10 (.iload_n 2) 11 := im_D.of (by decide +kernel)
theorem D46_11 {g : im_g} : im_D g 46 11 (.if_icmp .le 81) 14 := im_D.of (by decide +kernel)
theorem D46_14 {g : im_g} : im_D g 46 14 (.aload_n 0) 15 := im_D.of (by decide +kernel)
theorem D46_15 {g : im_g} : im_D g 46 15 (.getfield 19) 18 := im_D.of (by decide +kernel)
theorem D46_18 {g : im_g} : im_D g 46 18 (.bipush 34) 20 := im_D.of (by decide +kernel)
theorem D46_20 {g : im_g} : im_D g 46 20 (.if_icmp .ge 72) 23 := im_D.of (by decide +kernel)
theorem D46_23 {g : im_g} : im_D g 46 23 (.iconst 0) 24 := im_D.of (by decide +kernel)
theorem D46_24 {g : im_g} : im_D g 46 24 (.istore 6) 26 := im_D.of (by decide +kernel)
theorem D46_26 {g : im_g} : im_D g 46 26 (.iload_n 2) 27 := im_D.of (by decide +kernel)
theorem D46_27 {g : im_g} : im_D g 46 27 (.iload 5) 29 := im_D.of (by decide +kernel)
theorem D46_29 {g : im_g} : im_D g 46 29 (.bipush 9) 31 := im_D.of (by decide +kernel)
theorem D46_31 {g : im_g} : im_D g 46 31 (.isub) 32 := im_D.of (by decide +kernel)
theorem D46_32 {g : im_g} : im_D g 46 32 (.invokestatic 31) 35 := im_D.of (by decide +kernel)
theorem D46_35 {g : im_g} : im_D g 46 35 (.istore 7) 37 := im_D.of (by decide +kernel)
theorem D46_37 {g : im_g} : im_D g 46 37 (.iload 7) 39 := im_D.of (by decide +kernel)
theorem D46_39 {g : im_g} : im_D g 46 39 (.iload 5) 41 := im_D.of (by decide +kernel)
theorem D46_41 {g : im_g} : im_D g 46 41 (.if_icmp .ge 24) 44 := im_D.of (by decide +kernel)
theorem D46_44 {g : im_g} : im_D g 46 44 (.iload 6) 46 := im_D.of (by decide +kernel)
theorem D46_46 {g : im_g} : im_D g 46 46 (.bipush 10) 48 := im_D.of (by decide +kernel)
theorem D46_48 {g : im_g} : im_D g 46 48 (.imul) 49 := im_D.of (by decide +kernel)
theorem D46_49 {g : im_g} : im_D g 46 49 (.aload_n 1) 50 := im_D.of (by decide +kernel)
theorem D46_50 {g : im_g} : im_D g 46 50 (.iload 7) 52 := im_D.of (by decide +kernel)
theorem D46_52 {g : im_g} : im_D g 46 52 (.baload) 53 := im_D.of (by decide +kernel)
theorem D46_53 {g : im_g} : im_D g 46 53 (.bipush 48) 55 := im_D.of (by decide +kernel)
theorem D46_55 {g : im_g} : im_D g 46 55 (.isub) 56 := im_D.of (by decide +kernel)
theorem D46_56 {g : im_g} : im_D g 46 56 (.iadd) 57 := im_D.of (by decide +kernel)
theorem D46_57 {g : im_g} : im_D g 46 57 (.istore 6) 59 := im_D.of (by decide +kernel)
theorem D46_59 {g : im_g} : im_D g 46 59 (.iinc 7 1) 62 := im_D.of (by decide +kernel)
theorem D46_62 {g : im_g} : im_D g 46 62 (.goto (-25)) 65 := im_D.of (by decide +kernel)
theorem D46_65 {g : im_g} : im_D g 46 65 (.aload_n 0) 66 := im_D.of (by decide +kernel)
theorem D46_66 {g : im_g} : im_D g 46 66 (.getfield 9) 69 := im_D.of (by decide +kernel)
theorem D46_69 {g : im_g} : im_D g 46 69 (.aload_n 0) 70 := im_D.of (by decide +kernel)
theorem D46_70 {g : im_g} : im_D g 46 70 (.getfield 19) 73 := im_D.of (by decide +kernel)
theorem D46_73 {g : im_g} : im_D g 46 73 (.iload 6) 75 := im_D.of (by decide +kernel)
theorem D46_75 {g : im_g} : im_D g 46 75 (.iastore) 76 := im_D.of (by decide +kernel)
theorem D46_76 {g : im_g} : im_D g 46 76 (.aload_n 0) 77 := im_D.of (by decide +kernel)
theorem D46_77 {g : im_g} : im_D g 46 77 (.dup) 78 := im_D.of (by decide +kernel)
theorem D46_78 {g : im_g} : im_D g 46 78 (.getfield 19) 81 := im_D.of (by decide +kernel)
theorem D46_81 {g : im_g} : im_D g 46 81 (.iconst 1) 82 := im_D.of (by decide +kernel)
theorem D46_82 {g : im_g} : im_D g 46 82 (.iadd) 83 := im_D.of (by decide +kernel)
theorem D46_83 {g : im_g} : im_D g 46 83 (.putfield 19) 86 := im_D.of (by decide +kernel)
theorem D46_86 {g : im_g} : im_D g 46 86 (.iinc 5 (-9)) 89 := im_D.of (by decide +kernel)
theorem D46_89 {g : im_g} : im_D g 46 89 (.goto (-81)) 92 := im_D.of (by decide +kernel)
theorem D46_92 {g : im_g} : im_D g 46 92 (.aload_n 0) 93 := im_D.of (by decide +kernel)
theorem D46_93 {g : im_g} : im_D g 46 93 (.aload_n 0) 94 := im_D.of (by decide +kernel)
theorem D46_94 {g : im_g} : im_D g 46 94 (.getfield 19) 97 := im_D.of (by decide +kernel)
theorem D46_97 {g : im_g} : im_D g 46 97 (.ifCond .ne 7) 100 := im_D.of (by decide +kernel)
theorem D46_100 {g : im_g} : im_D g 46 100 (.iconst 0) 101 := im_D.of (by decide +kernel)
theorem D46_101 {g : im_g} : im_D g 46 101 (.goto 13) 104 := im_D.of (by decide +kernel)
theorem D46_104 {g : im_g} : im_D g 46 104 (.iload 4) 106 := im_D.of (by decide +kernel)
theorem D46_106 {g : im_g} : im_D g 46 106 (.ifCond .eq 7) 109 := im_D.of (by decide +kernel)
theorem D46_109 {g : im_g} : im_D g 46 109 (.iconst (-1)) 110 := im_D.of (by decide +kernel)
theorem D46_110 {g : im_g} : im_D g 46 110 (.goto 4) 113 := im_D.of (by decide +kernel)
theorem D46_113 {g : im_g} : im_D g 46 113 (.iconst 1) 114 := im_D.of (by decide +kernel)
theorem D46_114 {g : im_g} : im_D g 46 114 (.putfield 15) 117 := im_D.of (by decide +kernel)
theorem D46_117 {g : im_g} : im_D g 46 117 (.return_) 118 := im_D.of (by decide +kernel)
theorem D47_0 {g : im_g} : im_D g 47 0 (.iload_n 1) 1 := im_D.of (by decide +kernel)
theorem D47_1 {g : im_g} : im_D g 47 1 (.iload_n 2) 2 := im_D.of (by decide +kernel)
theorem D47_2 {g : im_g} : im_D g 47 2 (.if_icmp .ge 23) 5 := im_D.of (by decide +kernel)
theorem D47_5 {g : im_g} : im_D g 47 5 (.iload_n 2) 6 := im_D.of (by decide +kernel)
theorem D47_6 {g : im_g} : im_D g 47 6 (.iload_n 1) 7 := im_D.of (by decide +kernel)
theorem D47_7 {g : im_g} : im_D g 47 7 (.isub) 8 := im_D.of (by decide +kernel)
theorem D47_8 {g : im_g} : im_D g 47 8 (.bipush 8) 10 := im_D.of (by decide +kernel)
theorem D47_10 {g : im_g} : im_D g 47 10 (.if_icmp .gt 15) 13 := im_D.of (by decide +kernel)
theorem D47_13 {g : im_g} : im_D g 47 13 (.aload_n 0) 14 := im_D.of (by decide +kernel)
theorem D47_14 {g : im_g} : im_D g 47 14 (.getfield 15) 17 := im_D.of (by decide +kernel)
theorem D47_17 {g : im_g} : im_D g 47 17 (.iload_n 1) 18 := im_D.of (by decide +kernel)
theorem D47_18 {g : im_g} : im_D g 47 18 (.baload) 19 := im_D.of (by decide +kernel)
theorem D47_19 {g : im_g} : im_D g 47 19 (.invokestatic 95) 22 := im_D.of (by decide +kernel)
theorem D47_22 {g : im_g} : im_D g 47 22 (.ifCond .ne 5) 25 := im_D.of (by decide +kernel)
theorem D47_25 {g : im_g} : im_D g 47 25 (.iconst 0) 26 := im_D.of (by decide +kernel)
theorem D47_26 {g : im_g} : im_D g 47 26 (.ireturn) 27 := im_D.of (by decide +kernel)
theorem D47_27 {g : im_g} : im_D g 47 27 (.aload_n 0) 28 := im_D.of (by decide +kernel)
theorem D47_28 {g : im_g} : im_D g 47 28 (.lconst 0) 29 := im_D.of (by decide +kernel)
theorem D47_29 {g : im_g} : im_D g 47 29 (.putfield 83) 32 := im_D.of (by decide +kernel)
theorem D47_32 {g : im_g} : im_D g 47 32 (.iload_n 1) 33 := im_D.of (by decide +kernel)
theorem D47_33 {g : im_g} : im_D g 47 33 (.istore_n 3) 34 := im_D.of (by decide +kernel)
theorem D47_34 {g : im_g} : im_D g 47 34 (.iload_n 3) 35 := im_D.of (by decide +kernel)
theorem D47_35 {g : im_g} : im_D g 47 35 (.iload_n 2) 36 := im_D.of (by decide +kernel)
theorem D47_36 {g : im_g} : im_D g 47 36 (.if_icmp .ge 54) 39 := im_D.of (by decide +kernel)
theorem D47_39 {g : im_g} : im_D g 47 39 (.aload_n 0) 40 := im_D.of (by decide +kernel)
theorem D47_40 {g : im_g} : im_D g 47 40 (.getfield 15) 43 := im_D.of (by decide +kernel)
theorem D47_43 {g : im_g} : im_D g 47 43 (.iload_n 3) 44 := im_D.of (by decide +kernel)
theorem D47_44 {g : im_g} : im_D g 47 44 (.baload) 45 := im_D.of (by decide +kernel)
theorem D47_45 {g : im_g} : im_D g 47 45 (.invokestatic 95) 48 := im_D.of (by decide +kernel)
theorem D47_48 {g : im_g} : im_D g 47 48 (.ifCond .ne 17) 51 := im_D.of (by decide +kernel)
theorem D47_51 {g : im_g} : im_D g 47 51 (.aload_n 0) 52 := im_D.of (by decide +kernel)
theorem D47_52 {g : im_g} : im_D g 47 52 (.getfield 15) 55 := im_D.of (by decide +kernel)
theorem D47_55 {g : im_g} : im_D g 47 55 (.iload_n 3) 56 := im_D.of (by decide +kernel)
theorem D47_56 {g : im_g} : im_D g 47 56 (.baload) 57 := im_D.of (by decide +kernel)
theorem D47_57 {g : im_g} : im_D g 47 57 (.invokestatic 73) 60 := im_D.of (by decide +kernel)
theorem D47_60 {g : im_g} : im_D g 47 60 (.ifCond .ne 5) 63 := im_D.of (by decide +kernel)
theorem D47_63 {g : im_g} : im_D g 47 63 (.iconst 0) 64 := im_D.of (by decide +kernel)
theorem D47_64 {g : im_g} : im_D g 47 64 (.ireturn) 65 := im_D.of (by decide +kernel)
theorem D47_65 {g : im_g} : im_D g 47 65 (.aload_n 0) 66 := im_D.of (by decide +kernel)
theorem D47_66 {g : im_g} : im_D g 47 66 (.aload_n 0) 67 := im_D.of (by decide +kernel)
theorem D47_67 {g : im_g} : im_D g 47 67 (.getfield 83) 70 := im_D.of (by decide +kernel)
theorem D47_70 {g : im_g} : im_D g 47 70 (.bipush 8) 72 := im_D.of (by decide +kernel)
theorem D47_72 {g : im_g} : im_D g 47 72 (.lshl) 73 := im_D.of (by decide +kernel)
theorem D47_73 {g : im_g} : im_D g 47 73 (.aload_n 0) 74 := im_D.of (by decide +kernel)
theorem D47_74 {g : im_g} : im_D g 47 74 (.getfield 15) 77 := im_D.of (by decide +kernel)
theorem D47_77 {g : im_g} : im_D g 47 77 (.iload_n 3) 78 := im_D.of (by decide +kernel)
theorem D47_78 {g : im_g} : im_D g 47 78 (.baload) 79 := im_D.of (by decide +kernel)
theorem D47_79 {g : im_g} : im_D g 47 79 (.i2l) 80 := im_D.of (by decide +kernel)
theorem D47_80 {g : im_g} : im_D g 47 80 (.lor) 81 := im_D.of (by decide +kernel)
theorem D47_81 {g : im_g} : im_D g 47 81 (.putfield 83) 84 := im_D.of (by decide +kernel)
theorem D47_84 {g : im_g} : im_D g 47 84 (.iinc 3 1) 87 := im_D.of (by decide +kernel)
theorem D47_87 {g : im_g} : im_D g 47 87 (.goto (-53)) 90 := im_D.of (by decide +kernel)
theorem D47_90 {g : im_g} : im_D g 47 90 (.iconst 1) 91 := im_D.of (by decide +kernel)
theorem D47_91 {g : im_g} : im_D g 47 91 (.ireturn) 92 := im_D.of (by decide +kernel)
theorem D48_0 {g : im_g} : im_D g 48 0 (.iload_n 0) 1 := im_D.of (by decide +kernel)
theorem D48_1 {g : im_g} : im_D g 48 1 (.bipush 97) 3 := im_D.of (by decide +kernel)
theorem D48_3 {g : im_g} : im_D g 48 3 (.if_icmp .lt 13) 6 := im_D.of (by decide +kernel)
theorem D48_6 {g : im_g} : im_D g 48 6 (.iload_n 0) 7 := im_D.of (by decide +kernel)
theorem D48_7 {g : im_g} : im_D g 48 7 (.bipush 122) 9 := im_D.of (by decide +kernel)
theorem D48_9 {g : im_g} : im_D g 48 9 (.if_icmp .gt 7) 12 := im_D.of (by decide +kernel)
theorem D48_12 {g : im_g} : im_D g 48 12 (.iconst 1) 13 := im_D.of (by decide +kernel)
theorem D48_13 {g : im_g} : im_D g 48 13 (.goto 4) 16 := im_D.of (by decide +kernel)
theorem D48_16 {g : im_g} : im_D g 48 16 (.iconst 0) 17 := im_D.of (by decide +kernel)
theorem D48_17 {g : im_g} : im_D g 48 17 (.ireturn) 18 := im_D.of (by decide +kernel)
theorem D49_0 {g : im_g} : im_D g 49 0 (.iconst 0) 1 := im_D.of (by decide +kernel)
theorem D49_1 {g : im_g} : im_D g 49 1 (.istore_n 3) 2 := im_D.of (by decide +kernel)
theorem D49_2 {g : im_g} : im_D g 49 2 (.iload_n 3) 3 := im_D.of (by decide +kernel)
theorem D49_3 {g : im_g} : im_D g 49 3 (.bipush 34) 5 := im_D.of (by decide +kernel)
theorem D49_5 {g : im_g} : im_D g 49 5 (.if_icmp .ge 22) 8 := im_D.of (by decide +kernel)
theorem D49_8 {g : im_g} : im_D g 49 8 (.aload_n 0) 9 := im_D.of (by decide +kernel)
theorem D49_9 {g : im_g} : im_D g 49 9 (.getfield 9) 12 := im_D.of (by decide +kernel)
theorem D49_12 {g : im_g} : im_D g 49 12 (.iload_n 3) 13 := im_D.of (by decide +kernel)
theorem D49_13 {g : im_g} : im_D g 49 13 (.laload) 14 := im_D.of (by decide +kernel)
theorem D49_14 {g : im_g} : im_D g 49 14 (.lload_n 1) 15 := im_D.of (by decide +kernel)
theorem D49_15 {g : im_g} : im_D g 49 15 (.lcmp) 16 := im_D.of (by decide +kernel)
theorem D49_16 {g : im_g} : im_D g 49 16 (.ifCond .ne 5) 19 := im_D.of (by decide +kernel)
theorem D49_19 {g : im_g} : im_D g 49 19 (.iload_n 3) 20 := im_D.of (by decide +kernel)
theorem D49_20 {g : im_g} : im_D g 49 20 (.ireturn) 21 := im_D.of (by decide +kernel)
theorem D49_21 {g : im_g} : im_D g 49 21 (.iinc 3 1) 24 := im_D.of (by decide +kernel)
theorem D49_24 {g : im_g} : im_D g 49 24 (.goto (-22)) 27 := im_D.of (by decide +kernel)
theorem D49_27 {g : im_g} : im_D g 49 27 (.iconst (-1)) 28 := im_D.of (by decide +kernel)
theorem D49_28 {g : im_g} : im_D g 49 28 (.ireturn) 29 := im_D.of (by decide +kernel)
theorem D50_0 {g : im_g} : im_D g 50 0 (.iload_n 1) 1 := im_D.of (by decide +kernel)
theorem D50_1 {g : im_g} : im_D g 50 1 (.lookupswitch 152 #[(41, 136), (91, 147), (97, 112), (98, 124), (99, 99), (100, 141), (104, 130), (107, 106), (111, 99), (116, 118), (118, 99)]) 2 := im_D.of (by decide +kernel)
theorem D50_100 {g : im_g} : im_D g 50 100 (.aload_n 0) 101 := im_D.of (by decide +kernel)
theorem D50_101 {g : im_g} : im_D g 50 101 (.iload_n 1) 102 := im_D.of (by decide +kernel)
theorem D50_102 {g : im_g} : im_D g 50 102 (.iload_n 2) 103 := im_D.of (by decide +kernel)
theorem D50_103 {g : im_g} : im_D g 50 103 (.invokevirtual 94) 106 := im_D.of (by decide +kernel)
theorem D50_106 {g : im_g} : im_D g 50 106 (.ireturn) 107 := im_D.of (by decide +kernel)
theorem D50_107 {g : im_g} : im_D g 50 107 (.aload_n 0) 108 := im_D.of (by decide +kernel)
theorem D50_108 {g : im_g} : im_D g 50 108 (.iload_n 2) 109 := im_D.of (by decide +kernel)
theorem D50_109 {g : im_g} : im_D g 50 109 (.invokevirtual 97) 112 := im_D.of (by decide +kernel)
theorem D50_112 {g : im_g} : im_D g 50 112 (.ireturn) 113 := im_D.of (by decide +kernel)
theorem D50_113 {g : im_g} : im_D g 50 113 (.aload_n 0) 114 := im_D.of (by decide +kernel)
theorem D50_114 {g : im_g} : im_D g 50 114 (.iload_n 2) 115 := im_D.of (by decide +kernel)
theorem D50_115 {g : im_g} : im_D g 50 115 (.invokevirtual 101) 118 := im_D.of (by decide +kernel)
theorem D50_118 {g : im_g} : im_D g 50 118 (.ireturn) 119 := im_D.of (by decide +kernel)
theorem D50_119 {g : im_g} : im_D g 50 119 (.aload_n 0) 120 := im_D.of (by decide +kernel)
theorem D50_120 {g : im_g} : im_D g 50 120 (.iload_n 2) 121 := im_D.of (by decide +kernel)
theorem D50_121 {g : im_g} : im_D g 50 121 (.invokevirtual 104) 124 := im_D.of (by decide +kernel)
theorem D50_124 {g : im_g} : im_D g 50 124 (.ireturn) 125 := im_D.of (by decide +kernel)
theorem D50_125 {g : im_g} : im_D g 50 125 (.aload_n 0) 126 := im_D.of (by decide +kernel)
theorem D50_126 {g : im_g} : im_D g 50 126 (.iload_n 2) 127 := im_D.of (by decide +kernel)
theorem D50_127 {g : im_g} : im_D g 50 127 (.invokevirtual 107) 130 := im_D.of (by decide +kernel)
theorem D50_130 {g : im_g} : im_D g 50 130 (.ireturn) 131 := im_D.of (by decide +kernel)
theorem D50_131 {g : im_g} : im_D g 50 131 (.aload_n 0) 132 := im_D.of (by decide +kernel)
theorem D50_132 {g : im_g} : im_D g 50 132 (.iload_n 2) 133 := im_D.of (by decide +kernel)
theorem D50_133 {g : im_g} : im_D g 50 133 (.invokevirtual 110) 136 := im_D.of (by decide +kernel)
theorem D50_136 {g : im_g} : im_D g 50 136 (.ireturn) 137 := im_D.of (by decide +kernel)
theorem D50_137 {g : im_g} : im_D g 50 137 (.aload_n 0) 138 := im_D.of (by decide +kernel)
theorem D50_138 {g : im_g} : im_D g 50 138 (.invokevirtual 113) 141 := im_D.of (by decide +kernel)
theorem D50_141 {g : im_g} : im_D g 50 141 (.ireturn) 142 := im_D.of (by decide +kernel)
theorem D50_142 {g : im_g} : im_D g 50 142 (.aload_n 0) 143 := im_D.of (by decide +kernel)
theorem D50_143 {g : im_g} : im_D g 50 143 (.iload_n 2) 144 := im_D.of (by decide +kernel)
theorem D50_144 {g : im_g} : im_D g 50 144 (.invokevirtual 116) 147 := im_D.of (by decide +kernel)
theorem D50_147 {g : im_g} : im_D g 50 147 (.ireturn) 148 := im_D.of (by decide +kernel)
theorem D50_148 {g : im_g} : im_D g 50 148 (.aload_n 0) 149 := im_D.of (by decide +kernel)
theorem D50_149 {g : im_g} : im_D g 50 149 (.invokevirtual 119) 152 := im_D.of (by decide +kernel)
theorem D50_152 {g : im_g} : im_D g 50 152 (.ireturn) 153 := im_D.of (by decide +kernel)
theorem D50_153 {g : im_g} : im_D g 50 153 (.aload_n 0) 154 := im_D.of (by decide +kernel)
theorem D50_154 {g : im_g} : im_D g 50 154 (.iload_n 1) 155 := im_D.of (by decide +kernel)
theorem D50_155 {g : im_g} : im_D g 50 155 (.iload_n 2) 156 := im_D.of (by decide +kernel)
theorem D50_156 {g : im_g} : im_D g 50 156 (.invokevirtual 122) 159 := im_D.of (by decide +kernel)
theorem D50_159 {g : im_g} : im_D g 50 159 (.ireturn) 160 := im_D.of (by decide +kernel)
theorem D51_0 {g : im_g} : im_D g 51 0 (.aload_n 0) 1 := im_D.of (by decide +kernel)
theorem D51_1 {g : im_g} : im_D g 51 1 (.getfield 29) 4 := im_D.of (by decide +kernel)
theorem D51_4 {g : im_g} : im_D g 51 4 (.getfield 56) 7 := im_D.of (by decide +kernel)
theorem D51_7 {g : im_g} : im_D g 51 7 (.bipush 37) 9 := im_D.of (by decide +kernel)
theorem D51_9 {g : im_g} : im_D g 51 9 (.if_icmp .ne 11) 12 := im_D.of (by decide +kernel)
theorem D51_12 {g : im_g} : im_D g 51 12 (.aload_n 0) 13 := im_D.of (by decide +kernel)
theorem D51_13 {g : im_g} : im_D g 51 13 (.iload_n 1) 14 := im_D.of (by decide +kernel)
theorem D51_14 {g : im_g} : im_D g 51 14 (.iload_n 2) 15 := im_D.of (by decide +kernel)
theorem D51_15 {g : im_g} : im_D g 51 15 (.invokevirtual 125) 18 := im_D.of (by decide +kernel)
theorem D51_18 {g : im_g} : im_D g 51 18 (.iconst 0) 19 := im_D.of (by decide +kernel)
theorem D51_19 {g : im_g} : im_D g 51 19 (.ireturn) 20 := im_D.of (by decide +kernel)
theorem D51_20 {g : im_g} : im_D g 51 20 (.aload_n 0) 21 := im_D.of (by decide +kernel)
theorem D51_21 {g : im_g} : im_D g 51 21 (.iload_n 1) 22 := im_D.of (by decide +kernel)
theorem D51_22 {g : im_g} : im_D g 51 22 (.invokevirtual 128) 25 := im_D.of (by decide +kernel)
theorem D51_25 {g : im_g} : im_D g 51 25 (.ifCond .ne 5) 28 := im_D.of (by decide +kernel)
theorem D51_28 {g : im_g} : im_D g 51 28 (.iconst 4) 29 := im_D.of (by decide +kernel)
theorem D51_29 {g : im_g} : im_D g 51 29 (.ireturn) 30 := im_D.of (by decide +kernel)
theorem D51_30 {g : im_g} : im_D g 51 30 (.aload_n 0) 31 := im_D.of (by decide +kernel)
theorem D51_31 {g : im_g} : im_D g 51 31 (.iload_n 2) 32 := im_D.of (by decide +kernel)
theorem D51_32 {g : im_g} : im_D g 51 32 (.invokevirtual 132) 35 := im_D.of (by decide +kernel)
theorem D51_35 {g : im_g} : im_D g 51 35 (.ifCond .eq 6) 38 := im_D.of (by decide +kernel)
theorem D51_38 {g : im_g} : im_D g 51 38 (.bipush 7) 40 := im_D.of (by decide +kernel)
theorem D51_40 {g : im_g} : im_D g 51 40 (.ireturn) 41 := im_D.of (by decide +kernel)
theorem D51_41 {g : im_g} : im_D g 51 41 (.aload_n 0) 42 := im_D.of (by decide +kernel)
theorem D51_42 {g : im_g} : im_D g 51 42 (.dup) 43 := im_D.of (by decide +kernel)
theorem D51_43 {g : im_g} : im_D g 51 43 (.getfield 46) 46 := im_D.of (by decide +kernel)
theorem D51_46 {g : im_g} : im_D g 51 46 (.iconst 1) 47 := im_D.of (by decide +kernel)
theorem D51_47 {g : im_g} : im_D g 51 47 (.isub) 48 := im_D.of (by decide +kernel)
theorem D51_48 {g : im_g} : im_D g 51 48 (.putfield 46) 51 := im_D.of (by decide +kernel)
theorem D51_51 {g : im_g} : im_D g 51 51 (.aload_n 0) 52 := im_D.of (by decide +kernel)
theorem D51_52 {g : im_g} : im_D g 51 52 (.aload_n 0) 53 := im_D.of (by decide +kernel)
theorem D51_53 {g : im_g} : im_D g 51 53 (.getfield 29) 56 := im_D.of (by decide +kernel)
theorem D51_56 {g : im_g} : im_D g 51 56 (.getfield 56) 59 := im_D.of (by decide +kernel)
theorem D51_59 {g : im_g} : im_D g 51 59 (.iload_n 2) 60 := im_D.of (by decide +kernel)
theorem D51_60 {g : im_g} : im_D g 51 60 (.invokevirtual 135) 63 := im_D.of (by decide +kernel)
theorem D51_63 {g : im_g} : im_D g 51 63 (.istore_n 3) 64 := im_D.of (by decide +kernel)
theorem D51_64 {g : im_g} : im_D g 51 64 (.aload_n 0) 65 := im_D.of (by decide +kernel)
theorem D51_65 {g : im_g} : im_D g 51 65 (.getfield 29) 68 := im_D.of (by decide +kernel)
theorem D51_68 {g : im_g} : im_D g 51 68 (.getfield 56) 71 := im_D.of (by decide +kernel)
theorem D51_71 {g : im_g} : im_D g 51 71 (.bipush 34) 73 := im_D.of (by decide +kernel)
theorem D51_73 {g : im_g} : im_D g 51 73 (.if_icmp .ne 28) 76 := im_D.of (by decide +kernel)
theorem D51_76 {g : im_g} : im_D g 51 76 (.aload_n 0) 77 := im_D.of (by decide +kernel)
theorem D51_77 {g : im_g} : im_D g 51 77 (.getfield 25) 80 := im_D.of (by decide +kernel)
theorem D51_80 {g : im_g} : im_D g 51 80 (.getfield 138) 83 := im_D.of (by decide +kernel)
theorem D51_83 {g : im_g} : im_D g 51 83 (.iload_n 3) 84 := im_D.of (by decide +kernel)
theorem D51_84 {g : im_g} : im_D g 51 84 (.aload_n 0) 85 := im_D.of (by decide +kernel)
theorem D51_85 {g : im_g} : im_D g 51 85 (.getfield 25) 88 := im_D.of (by decide +kernel)
theorem D51_88 {g : im_g} : im_D g 51 88 (.getfield 75) 91 := im_D.of (by decide +kernel)
theorem D51_91 {g : im_g} : im_D g 51 91 (.aload_n 0) 92 := im_D.of (by decide +kernel)
theorem D51_92 {g : im_g} : im_D g 51 92 (.getfield 43) 95 := im_D.of (by decide +kernel)
theorem D51_95 {g : im_g} : im_D g 51 95 (.iadd) 96 := im_D.of (by decide +kernel)
theorem D51_96 {g : im_g} : im_D g 51 96 (.iastore) 97 := im_D.of (by decide +kernel)
theorem D51_97 {g : im_g} : im_D g 51 97 (.aload_n 0) 98 := im_D.of (by decide +kernel)
theorem D51_98 {g : im_g} : im_D g 51 98 (.invokevirtual 141) 101 := im_D.of (by decide +kernel)
theorem D51_101 {g : im_g} : im_D g 51 101 (.aload_n 0) 102 := im_D.of (by decide +kernel)
theorem D51_102 {g : im_g} : im_D g 51 102 (.getfield 29) 105 := im_D.of (by decide +kernel)
theorem D51_105 {g : im_g} : im_D g 51 105 (.getfield 56) 108 := im_D.of (by decide +kernel)
theorem D51_108 {g : im_g} : im_D g 51 108 (.bipush 35) 110 := im_D.of (by decide +kernel)
theorem D51_110 {g : im_g} : im_D g 51 110 (.if_icmp .ne 19) 113 := im_D.of (by decide +kernel)
theorem D51_113 {g : im_g} : im_D g 51 113 (.aload_n 0) 114 := im_D.of (by decide +kernel)
theorem D51_114 {g : im_g} : im_D g 51 114 (.getfield 25) 117 := im_D.of (by decide +kernel)
theorem D51_117 {g : im_g} : im_D g 51 117 (.getfield 144) 120 := im_D.of (by decide +kernel)
theorem D51_120 {g : im_g} : im_D g 51 120 (.iload_n 3) 121 := im_D.of (by decide +kernel)
theorem D51_121 {g : im_g} : im_D g 51 121 (.aload_n 0) 122 := im_D.of (by decide +kernel)
theorem D51_122 {g : im_g} : im_D g 51 122 (.getfield 29) 125 := im_D.of (by decide +kernel)
theorem D51_125 {g : im_g} : im_D g 51 125 (.getfield 148) 128 := im_D.of (by decide +kernel)
theorem D51_128 {g : im_g} : im_D g 51 128 (.lastore) 129 := im_D.of (by decide +kernel)
theorem D51_129 {g : im_g} : im_D g 51 129 (.aload_n 0) 130 := im_D.of (by decide +kernel)
theorem D51_130 {g : im_g} : im_D g 51 130 (.iload_n 3) 131 := im_D.of (by decide +kernel)
theorem D51_131 {g : im_g} : im_D g 51 131 (.invokevirtual 152) 134 := im_D.of (by decide +kernel)
theorem D51_134 {g : im_g} : im_D g 51 134 (.iconst 0) 135 := im_D.of (by decide +kernel)
theorem D51_135 {g : im_g} : im_D g 51 135 (.ireturn) 136 := im_D.of (by decide +kernel)
theorem D52_0 {g : im_g} : im_D g 52 0 (.aload_n 0) 1 := im_D.of (by decide +kernel)
theorem D52_1 {g : im_g} : im_D g 52 1 (.dup) 2 := im_D.of (by decide +kernel)
theorem D52_2 {g : im_g} : im_D g 52 2 (.getfield 46) 5 := im_D.of (by decide +kernel)
theorem D52_5 {g : im_g} : im_D g 52 5 (.iconst 1) 6 := im_D.of (by decide +kernel)
theorem D52_6 {g : im_g} : im_D g 52 6 (.isub) 7 := im_D.of (by decide +kernel)
theorem D52_7 {g : im_g} : im_D g 52 7 (.putfield 46) 10 := im_D.of (by decide +kernel)
theorem D52_10 {g : im_g} : im_D g 52 10 (.aload_n 0) 11 := im_D.of (by decide +kernel)
theorem D52_11 {g : im_g} : im_D g 52 11 (.getfield 46) 14 := im_D.of (by decide +kernel)
theorem D52_14 {g : im_g} : im_D g 52 14 (.ifCond .le 37) 17 := im_D.of (by decide +kernel)
theorem D52_17 {g : im_g} : im_D g 52 17 (.aload_n 0) 18 := im_D.of (by decide +kernel)
theorem D52_18 {g : im_g} : im_D g 52 18 (.getfield 11) 21 := im_D.of (by decide +kernel)
theorem D52_21 {g : im_g} : im_D g 52 21 (.aload_n 0) 22 := im_D.of (by decide +kernel)
theorem D52_22 {g : im_g} : im_D g 52 22 (.getfield 46) 25 := im_D.of (by decide +kernel)
theorem D52_25 {g : im_g} : im_D g 52 25 (.iconst 1) 26 := im_D.of (by decide +kernel)
theorem D52_26 {g : im_g} : im_D g 52 26 (.isub) 27 := im_D.of (by decide +kernel)
theorem D52_27 {g : im_g} : im_D g 52 27 (.iaload) 28 := im_D.of (by decide +kernel)
theorem D52_28 {g : im_g} : im_D g 52 28 (.bipush 41) 30 := im_D.of (by decide +kernel)
theorem D52_30 {g : im_g} : im_D g 52 30 (.if_icmp .ne 21) 33 := im_D.of (by decide +kernel)
theorem D52_33 {g : im_g} : im_D g 52 33 (.aload_n 0) 34 := im_D.of (by decide +kernel)
theorem D52_34 {g : im_g} : im_D g 52 34 (.getfield 15) 37 := im_D.of (by decide +kernel)
theorem D52_37 {g : im_g} : im_D g 52 37 (.aload_n 0) 38 := im_D.of (by decide +kernel)
theorem D52_38 {g : im_g} : im_D g 52 38 (.getfield 46) 41 := im_D.of (by decide +kernel)
theorem D52_41 {g : im_g} : im_D g 52 41 (.iconst 1) 42 := im_D.of (by decide +kernel)
theorem D52_42 {g : im_g} : im_D g 52 42 (.isub) 43 := im_D.of (by decide +kernel)
theorem D52_43 {g : im_g} : im_D g 52 43 (.dup2) 44 := im_D.of (by decide +kernel)
theorem D52_44 {g : im_g} : im_D g 52 44 (.iaload) 45 := im_D.of (by decide +kernel)
theorem D52_45 {g : im_g} : im_D g 52 45 (.iconst 1) 46 := im_D.of (by decide +kernel)
theorem D52_46 {g : im_g} : im_D g 52 46 (.iadd) 47 := im_D.of (by decide +kernel)
theorem D52_47 {g : im_g} : im_D g 52 47 (.iastore) 48 := im_D.of (by decide +kernel)
theorem D52_48 {g : im_g} : im_D g 52 48 (.goto 10) 51 := im_D.of (by decide +kernel)
theorem D52_51 {g : im_g} : im_D g 52 51 (.aload_n 0) 52 := im_D.of (by decide +kernel)
theorem D52_52 {g : im_g} : im_D g 52 52 (.bipush 41) 54 := im_D.of (by decide +kernel)
theorem D52_54 {g : im_g} : im_D g 52 54 (.iconst 1) 55 := im_D.of (by decide +kernel)
theorem D52_55 {g : im_g} : im_D g 52 55 (.invokevirtual 49) 58 := im_D.of (by decide +kernel)
theorem D52_58 {g : im_g} : im_D g 52 58 (.aload_n 0) 59 := im_D.of (by decide +kernel)
theorem D52_59 {g : im_g} : im_D g 52 59 (.iload_n 1) 60 := im_D.of (by decide +kernel)
theorem D52_60 {g : im_g} : im_D g 52 60 (.iload_n 2) 61 := im_D.of (by decide +kernel)
theorem D52_61 {g : im_g} : im_D g 52 61 (.invokevirtual 49) 64 := im_D.of (by decide +kernel)
theorem D52_64 {g : im_g} : im_D g 52 64 (.return_) 65 := im_D.of (by decide +kernel)
theorem D53_0 {g : im_g} : im_D g 53 0 (.aload_n 0) 1 := im_D.of (by decide +kernel)
theorem D53_1 {g : im_g} : im_D g 53 1 (.getfield 29) 4 := im_D.of (by decide +kernel)
theorem D53_4 {g : im_g} : im_D g 53 4 (.getfield 56) 7 := im_D.of (by decide +kernel)
theorem D53_7 {g : im_g} : im_D g 53 7 (.istore_n 2) 8 := im_D.of (by decide +kernel)
theorem D53_8 {g : im_g} : im_D g 53 8 (.iload_n 1) 9 := im_D.of (by decide +kernel)
theorem D53_9 {g : im_g} : im_D g 53 9 (.lookupswitch 72 #[(99, 27), (118, 42)]) 10 := im_D.of (by decide +kernel)
theorem D53_36 {g : im_g} : im_D g 53 36 (.iload_n 2) 37 := im_D.of (by decide +kernel)
theorem D53_37 {g : im_g} : im_D g 53 37 (.ifCond .lt 12) 40 := im_D.of (by decide +kernel)
theorem D53_40 {g : im_g} : im_D g 53 40 (.iload_n 2) 41 := im_D.of (by decide +kernel)
theorem D53_41 {g : im_g} : im_D g 53 41 (.iconst 5) 42 := im_D.of (by decide +kernel)
theorem D53_42 {g : im_g} : im_D g 53 42 (.if_icmp .gt 7) 45 := im_D.of (by decide +kernel)
theorem D53_45 {g : im_g} : im_D g 53 45 (.iconst 1) 46 := im_D.of (by decide +kernel)
theorem D53_46 {g : im_g} : im_D g 53 46 (.goto 4) 49 := im_D.of (by decide +kernel)
theorem D53_49 {g : im_g} : im_D g 53 49 (.iconst 0) 50 := im_D.of (by decide +kernel)
theorem D53_50 {g : im_g} : im_D g 53 50 (.ireturn) 51 := im_D.of (by decide +kernel)
theorem D53_51 {g : im_g} : im_D g 53 51 (.iload_n 2) 52 := im_D.of (by decide +kernel)
theorem D53_52 {g : im_g} : im_D g 53 52 (.bipush 6) 54 := im_D.of (by decide +kernel)
theorem D53_54 {g : im_g} : im_D g 53 54 (.if_icmp .lt 9) 57 := im_D.of (by decide +kernel)
theorem D53_57 {g : im_g} : im_D g 53 57 (.iload_n 2) 58 := im_D.of (by decide +kernel)
theorem D53_58 {g : im_g} : im_D g 53 58 (.bipush 16) 60 := im_D.of (by decide +kernel)
theorem D53_60 {g : im_g} : im_D g 53 60 (.if_icmp .le 15) 63 := im_D.of (by decide +kernel)
theorem D53_63 {g : im_g} : im_D g 53 63 (.iload_n 2) 64 := im_D.of (by decide +kernel)
theorem D53_64 {g : im_g} : im_D g 53 64 (.bipush 34) 66 := im_D.of (by decide +kernel)
theorem D53_66 {g : im_g} : im_D g 53 66 (.if_icmp .eq 9) 69 := im_D.of (by decide +kernel)
theorem D53_69 {g : im_g} : im_D g 53 69 (.iload_n 2) 70 := im_D.of (by decide +kernel)
theorem D53_70 {g : im_g} : im_D g 53 70 (.bipush 35) 72 := im_D.of (by decide +kernel)
theorem D53_72 {g : im_g} : im_D g 53 72 (.if_icmp .ne 7) 75 := im_D.of (by decide +kernel)
theorem D53_75 {g : im_g} : im_D g 53 75 (.iconst 1) 76 := im_D.of (by decide +kernel)
theorem D53_76 {g : im_g} : im_D g 53 76 (.goto 4) 79 := im_D.of (by decide +kernel)
theorem D53_79 {g : im_g} : im_D g 53 79 (.iconst 0) 80 := im_D.of (by decide +kernel)
theorem D53_80 {g : im_g} : im_D g 53 80 (.ireturn) 81 := im_D.of (by decide +kernel)
theorem D53_81 {g : im_g} : im_D g 53 81 (.iload_n 2) 82 := im_D.of (by decide +kernel)
theorem D53_82 {g : im_g} : im_D g 53 82 (.bipush 17) 84 := im_D.of (by decide +kernel)
theorem D53_84 {g : im_g} : im_D g 53 84 (.if_icmp .lt 13) 87 := im_D.of (by decide +kernel)
theorem D53_87 {g : im_g} : im_D g 53 87 (.iload_n 2) 88 := im_D.of (by decide +kernel)
theorem D53_88 {g : im_g} : im_D g 53 88 (.bipush 27) 90 := im_D.of (by decide +kernel)
theorem D53_90 {g : im_g} : im_D g 53 90 (.if_icmp .gt 7) 93 := im_D.of (by decide +kernel)
theorem D53_93 {g : im_g} : im_D g 53 93 (.iconst 1) 94 := im_D.of (by decide +kernel)
theorem D53_94 {g : im_g} : im_D g 53 94 (.goto 4) 97 := im_D.of (by decide +kernel)
theorem D53_97 {g : im_g} : im_D g 53 97 (.iconst 0) 98 := im_D.of (by decide +kernel)
theorem D53_98 {g : im_g} : im_D g 53 98 (.ireturn) 99 := im_D.of (by decide +kernel)
set_option maxRecDepth 20000 in
set_option maxHeartbeats 4000000 in
theorem k_Parser_parse_0 {g : im_g} {d : Nat} {e : im_E} {M : im_M} {K : im_K} {p2 : Int} {p1 n1 : Nat} (hs1 : (im_sh0 ++ e)[p1]? = some (0, n1, [])) (hn1 : n1 ≤ 2147483647) (hd : 1 ≤ d) (hP : im_T g (d - 1) 38 0 [some (.ref 2), some (.ref p1), some (vI p2)] [] e M (im_r0 (fun  e_ M1 => e = e_ ∧ im_T g (d - 1) 39 0 [some (.ref 23), some (vI 99), some (vI (-1))] [] e (im_u (im_u (im_u M1 23 7 0) 23 5 0) 23 4 0) (im_r0 (fun  e_ M2 => e = e_ ∧ im_T g d 37 36 [some (.ref 23), none, some (vI p2), some (vI 0), some (vI 0)] [] e M2 K))))) : im_T g d 37 0 [some (.ref 23), some (.ref p1), some (vI p2), none, none] [] e M K := by
  refine im_ld (q := 1) (i := 0) D37_0 rfl rfl rfl ?_
  refine im_gfR (q := 4) (b := 2) D37_1 (im_fl cn_37 fl_4_29) sf_23 rfl rfl tR_4_1 rfl ?_
  refine im_ld (q := 5) (i := 1) D37_4 rfl rfl rfl ?_
  refine im_ld (q := 6) (i := 2) D37_5 rfl rfl rfl ?_
  refine im_callV (q := 9) (kd := 1) (y := 38) (n := 2) (ci := 6) (a := 2) (vs := [.ref 2, .ref p1, vI p2]) (r := []) (L2 := [some (.ref 2), some (.ref p1), some (vI p2)]) D37_6 (im_cal cn_37 cl_4_33) (Or.inl rfl) rfl sf_2 rfl rfl rfl rfl hd ⟨rfl, rfl, rfl, trivial⟩ ?_
  refine hP.mono ?_
  rintro _ e4 M1 ⟨rfl, rfl, hP⟩
  refine im_bkN ?_
  refine im_ld (q := 10) (i := 0) D37_9 rfl rfl rfl ?_
  refine im_iconst (q := 11) D37_10 ?_
  refine im_pfI (q := 14) D37_11 (im_fl cn_37 fl_4_39) sf_23 rfl rfl ti_4_7 (by decide) ?_
  refine im_ld (q := 15) (i := 0) D37_14 rfl rfl rfl ?_
  refine im_iconst (q := 16) D37_15 ?_
  refine im_pfI (q := 19) D37_16 (im_fl cn_37 fl_4_43) sf_23 rfl rfl ti_4_5 (by decide) ?_
  refine im_ld (q := 20) (i := 0) D37_19 rfl rfl rfl ?_
  refine im_iconst (q := 21) D37_20 ?_
  refine im_pfI (q := 24) D37_21 (im_fl cn_37 fl_4_46) sf_23 rfl rfl ti_4_4 (by decide) ?_
  refine im_ld (q := 25) (i := 0) D37_24 rfl rfl rfl ?_
  refine im_bipush (q := 27) D37_25 rfl ?_
  refine im_iconst (q := 28) D37_27 ?_
  refine im_callV (q := 31) (kd := 1) (y := 39) (n := 2) (ci := 4) (a := 23) (vs := [.ref 23, vI 99, vI (-1)]) (r := []) (L2 := [some (.ref 23), some (vI 99), some (vI (-1))]) D37_28 (im_cal cn_37 cl_4_49) (Or.inl rfl) rfl sf_23 rfl rfl rfl rfl hd ⟨rfl, rfl, rfl, trivial⟩ ?_
  refine hP.mono ?_
  rintro _ e3 M2 ⟨rfl, rfl, hP⟩
  refine im_bkN ?_
  refine im_iconst (q := 32) D37_31 ?_
  refine im_st1 (q := 33) (i := 3) (L' := [some (.ref 23), some (.ref p1), some (vI p2), some (vI 0), none]) D37_32 (Or.inl ⟨_, rfl, rfl⟩) (Nat.le_of_ble_eq_true rfl) rfl ?_
  refine im_iconst (q := 34) D37_33 ?_
  refine im_st1 (q := 36) (i := 4) (L' := [some (.ref 23), some (.ref p1), some (vI p2), some (vI 0), some (vI 0)]) D37_34 (Or.inr rfl) (Nat.le_of_ble_eq_true rfl) rfl ?_
  exact hP.wk ⟨rfl, rfl, rfl, rfl, trivial⟩
set_option maxRecDepth 20000 in
set_option maxHeartbeats 4000000 in
theorem k_Parser_parse_36 {g : im_g} {d : Nat} {e : im_E} {M : im_M} {K : im_K} {p2 p3 p4 : Int} (hd : 1 ≤ d) (hP : (im_i32 p4) ∧ (im_i32 p2) ∧ ((((p4 ≤ p2 → ((0 < (M 23 4) → (im_i32 p3) ∧ ((p3 = 0 → im_T g (d - 1) 40 0 [some (.ref 2), none] [] e M (im_r0 (fun  e_ M23 => e = e_ ∧ ((0 ≤ (M23 2 4) → ((¬ (M23 2 4) = 41 → (0 ≤ ((M23 23 4) - 1) ∧ ((M23 23 4) - 1) < 1024) ∧ im_T g (d - 1) 50 0 [some (.ref 23), some (vI (M23 24 ((M23 23 4) - 1))), some (vI (M23 25 ((M23 23 4) - 1)))] [] e M23 (im_ri (fun x35 e_ M34 => e = e_ ∧ im_T g d 37 36 [some (.ref 23), none, some (vI p2), some (vI x35), some (vI (p4 + 1))] [] e M34 K))) ∧ ((M23 2 4) = 41 → im_T g d 37 36 [some (.ref 23), none, some (vI p2), some (vI 3), some (vI (p4 + 1))] [] e M23 K))) ∧ ((M23 2 4) < 0 → im_T g d 37 36 [some (.ref 23), none, some (vI p2), some (vI (-(M23 2 4))), some (vI (p4 + 1))] [] e M23 K))))))))))) ∧ ((((p2 < p4)) ∨ ((p4 ≤ p2) ∧ ((M 23 4) ≤ 0)) ∨ ((p4 ≤ p2) ∧ (0 < (M 23 4)) ∧ (¬ p3 = 0))) → (im_i32 p3) ∧ ((¬ p3 = 0 → ((¬ p3 = 0 → K (.inl (some (vI p3))) e M) ∧ (p3 = 0 → im_T g (d - 1) 75 0 [some (.ref 23), none, none, none, none] [] e M (im_r0 (fun  e_ M14 => e = e_ ∧ K (.inl (some (vI p3))) e M14))))) ∧ (p3 = 0 → im_T g (d - 1) 74 0 [some (.ref 2)] [] e M (im_ri (fun x17 e_ M16 => e = e_ ∧ (im_i32 x17) ∧ ((¬ x17 = 0 → K (.inl (some (vI x17))) e M16) ∧ (x17 = 0 → im_T g (d - 1) 75 0 [some (.ref 23), none, none, none, none] [] e M16 (im_r0 (fun  e_ M20 => e = e_ ∧ K (.inl (some (vI x17))) e M20))))))))))) : im_T g d 37 36 [some (.ref 23), none, some (vI p2), some (vI p3), some (vI p4)] [] e M K := by
  refine im_ld (q := 38) (i := 4) D37_36 rfl rfl rfl ?_
  refine im_ld (q := 39) (i := 2) D37_38 rfl rfl rfl ?_
  obtain ⟨hg1, hP⟩ := hP
  obtain ⟨hg2, hP⟩ := hP
  obtain ⟨hP, hJ8⟩ := hP
  have kJ9 : (((p2 < p4)) ∨ ((p4 ≤ p2) ∧ ((M 23 4) ≤ 0)) ∨ ((p4 ≤ p2) ∧ (0 < (M 23 4)) ∧ (¬ p3 = 0))) → im_T g d 37 131 [some (.ref 23), none, none, some (vI p3), none] [] e M K := by
    intro  hx10
    have hP := hJ8  hx10
    refine im_ld (q := 132) (i := 3) D37_131 rfl rfl rfl ?_
    obtain ⟨hg11, hP⟩ := hP
    refine im_ifc (q := 135) (t := 143) D37_132 rfl hg11 (fun hc12 => ?_) (fun hc12 => ?_)
    · replace hP := hP.1 hc12
      refine im_ld (q := 144) (i := 3) D37_143 rfl rfl rfl ?_
      refine im_ifc (q := 147) (t := 151) D37_144 rfl hg11 (fun hc13 => ?_) (fun hc13 => ?_)
      · replace hP := hP.1 hc13
        refine im_ld (q := 152) (i := 3) D37_151 rfl rfl rfl ?_
        exact im_iret (q := 153) D37_152 rfl hP
      · replace hP := hP.2 (Decidable.not_not.mp hc13)
        refine im_ld (q := 148) (i := 0) D37_147 rfl rfl rfl ?_
        refine im_callV (q := 151) (kd := 1) (y := 75) (n := 0) (ci := 4) (a := 23) (vs := [.ref 23]) (r := []) (L2 := [some (.ref 23), none, none, none, none]) D37_148 (im_cal cn_37 cl_4_67) (Or.inl rfl) rfl sf_23 rfl rfl rfl rfl hd ⟨rfl, trivial⟩ ?_
        refine hP.mono ?_
        rintro _ e15 M14 ⟨rfl, rfl, hP⟩
        refine im_bkN ?_
        refine im_ld (q := 152) (i := 3) D37_151 rfl rfl rfl ?_
        exact im_iret (q := 153) D37_152 rfl hP
    · replace hP := hP.2 (Decidable.not_not.mp hc12)
      refine im_ld (q := 136) (i := 0) D37_135 rfl rfl rfl ?_
      refine im_gfR (q := 139) (b := 2) D37_136 (im_fl cn_37 fl_4_29) sf_23 rfl rfl tR_4_1 rfl ?_
      refine im_callV (q := 142) (kd := 1) (y := 74) (n := 0) (ci := 6) (a := 2) (vs := [.ref 2]) (r := []) (L2 := [some (.ref 2)]) D37_139 (im_cal cn_37 cl_4_63) (Or.inl rfl) rfl sf_2 rfl rfl rfl rfl hd ⟨rfl, trivial⟩ ?_
      refine hP.mono ?_
      rintro _ e22 M16 ⟨x17, rfl, rfl, hP⟩
      refine im_bkS ?_
      refine im_st1 (q := 143) (i := 3) (L' := [some (.ref 23), none, none, some (vI x17), none]) D37_142 (Or.inl ⟨_, rfl, rfl⟩) (Nat.le_of_ble_eq_true rfl) rfl ?_
      refine im_ld (q := 144) (i := 3) D37_143 rfl rfl rfl ?_
      obtain ⟨hg18, hP⟩ := hP
      refine im_ifc (q := 147) (t := 151) D37_144 rfl hg18 (fun hc19 => ?_) (fun hc19 => ?_)
      · replace hP := hP.1 hc19
        refine im_ld (q := 152) (i := 3) D37_151 rfl rfl rfl ?_
        exact im_iret (q := 153) D37_152 rfl hP
      · replace hP := hP.2 (Decidable.not_not.mp hc19)
        refine im_ld (q := 148) (i := 0) D37_147 rfl rfl rfl ?_
        refine im_callV (q := 151) (kd := 1) (y := 75) (n := 0) (ci := 4) (a := 23) (vs := [.ref 23]) (r := []) (L2 := [some (.ref 23), none, none, none, none]) D37_148 (im_cal cn_37 cl_4_67) (Or.inl rfl) rfl sf_23 rfl rfl rfl rfl hd ⟨rfl, trivial⟩ ?_
        refine hP.mono ?_
        rintro _ e21 M20 ⟨rfl, rfl, hP⟩
        refine im_bkN ?_
        refine im_ld (q := 152) (i := 3) D37_151 rfl rfl rfl ?_
        exact im_iret (q := 153) D37_152 rfl hP
  refine im_icmp (q := 42) (t := 131) D37_39 rfl hg1 hg2 (fun hc3 => ?_) (fun hc3 => ?_)
  · exact (kJ9  (Or.inl hc3)).wk ⟨rfl, rfl, trivial⟩
  · replace hP := hP (Int.not_lt.mp hc3)
    refine im_ld (q := 43) (i := 0) D37_42 rfl rfl rfl ?_
    refine im_rng (j := 4) sf_23 (by decide) (by decide) (fun hr4 => ?_)
    refine im_gfI (q := 46) D37_43 (im_fl cn_37 fl_4_46) sf_23 rfl rfl tI_4_4 rfl ?_
    refine im_ifc (q := 49) (t := 131) D37_46 rfl hr4 (fun hc5 => ?_) (fun hc5 => ?_)
    · exact (kJ9  (Or.inr (Or.inl ⟨(Int.not_lt.mp hc3), hc5⟩))).wk ⟨rfl, rfl, trivial⟩
    · replace hP := hP (Int.not_le.mp hc5)
      refine im_ld (q := 50) (i := 3) D37_49 rfl rfl rfl ?_
      obtain ⟨hg6, hP⟩ := hP
      refine im_ifc (q := 53) (t := 131) D37_50 rfl hg6 (fun hc7 => ?_) (fun hc7 => ?_)
      · exact (kJ9  (Or.inr (Or.inr ⟨(Int.not_lt.mp hc3), (Int.not_le.mp hc5), hc7⟩))).wk ⟨rfl, rfl, trivial⟩
      · replace hP := hP (Decidable.not_not.mp hc7)
        refine im_ld (q := 54) (i := 0) D37_53 rfl rfl rfl ?_
        refine im_gfR (q := 57) (b := 2) D37_54 (im_fl cn_37 fl_4_29) sf_23 rfl rfl tR_4_1 rfl ?_
        refine im_callV (q := 60) (kd := 1) (y := 40) (n := 0) (ci := 6) (a := 2) (vs := [.ref 2]) (r := []) (L2 := [some (.ref 2), none]) D37_57 (im_cal cn_37 cl_4_53) (Or.inl rfl) rfl sf_2 rfl rfl rfl rfl hd ⟨rfl, trivial⟩ ?_
        refine hP.mono ?_
        rintro _ e37 M23 ⟨rfl, rfl, hP⟩
        refine im_bkN ?_
        refine im_ld (q := 61) (i := 0) D37_60 rfl rfl rfl ?_
        refine im_gfR (q := 64) (b := 2) D37_61 (im_fl cn_37 fl_4_29) sf_23 rfl rfl tR_4_1 rfl ?_
        refine im_rng (j := 4) sf_2 (by decide) (by decide) (fun hr24 => ?_)
        refine im_gfI (q := 67) D37_64 (im_fl cn_37 fl_4_56) sf_2 rfl rfl tI_6_4 rfl ?_
        refine im_ifc (q := 70) (t := 82) D37_67 rfl hr24 (fun hc25 => ?_) (fun hc25 => ?_)
        · replace hP := hP.1 hc25
          refine im_ld (q := 83) (i := 0) D37_82 rfl rfl rfl ?_
          refine im_gfR (q := 86) (b := 2) D37_83 (im_fl cn_37 fl_4_29) sf_23 rfl rfl tR_4_1 rfl ?_
          refine im_gfI (q := 89) D37_86 (im_fl cn_37 fl_4_56) sf_2 rfl rfl tI_6_4 rfl ?_
          refine im_bipush (q := 91) D37_89 rfl ?_
          refine im_icmp (q := 94) (t := 98) D37_91 rfl hr24 (by decide) (fun hc27 => ?_) (fun hc27 => ?_)
          · replace hP := hP.1 hc27
            refine im_ld (q := 99) (i := 0) D37_98 rfl rfl rfl ?_
            refine im_ld (q := 100) (i := 0) D37_99 rfl rfl rfl ?_
            refine im_gfR (q := 103) (b := 24) D37_100 (im_fl cn_37 fl_4_11) sf_23 rfl rfl tR_4_2 rfl ?_
            refine im_ld (q := 104) (i := 0) D37_103 rfl rfl rfl ?_
            refine im_rng (j := 4) sf_23 (by decide) (by decide) (fun hr28 => ?_)
            refine im_gfI (q := 107) D37_104 (im_fl cn_37 fl_4_46) sf_23 rfl rfl tI_4_4 rfl ?_
            refine im_iconst (q := 108) D37_107 ?_
            refine im_isub (q := 109) D37_108 ?_
            obtain ⟨hg29, hP⟩ := hP
            refine im_rng (j := ((M23 23 4) - 1)) sf_24 hg29.1 hg29.2 (fun hr30 => ?_)
            refine im_iald (q := 110) D37_109 sf_24 hg29.1 hg29.2 (by decide) rfl ?_
            refine im_ld (q := 111) (i := 0) D37_110 rfl rfl rfl ?_
            refine im_gfR (q := 114) (b := 25) D37_111 (im_fl cn_37 fl_4_15) sf_23 rfl rfl tR_4_3 rfl ?_
            refine im_ld (q := 115) (i := 0) D37_114 rfl rfl rfl ?_
            refine im_gfI (q := 118) D37_115 (im_fl cn_37 fl_4_46) sf_23 rfl rfl tI_4_4 rfl ?_
            refine im_iconst (q := 119) D37_118 ?_
            refine im_isub (q := 120) D37_119 ?_
            refine im_rng (j := ((M23 23 4) - 1)) sf_25 hg29.1 hg29.2 (fun hr32 => ?_)
            refine im_iald (q := 121) D37_120 sf_25 hg29.1 hg29.2 (by decide) rfl ?_
            refine im_callV (q := 124) (kd := 1) (y := 50) (n := 2) (ci := 4) (a := 23) (vs := [.ref 23, vI (M23 24 ((M23 23 4) - 1)), vI (M23 25 ((M23 23 4) - 1))]) (r := []) (L2 := [some (.ref 23), some (vI (M23 24 ((M23 23 4) - 1))), some (vI (M23 25 ((M23 23 4) - 1)))]) D37_121 (im_cal cn_37 cl_4_59) (Or.inl rfl) rfl sf_23 rfl rfl rfl rfl hd ⟨rfl, rfl, rfl, trivial⟩ ?_
            refine hP.mono ?_
            rintro _ e36 M34 ⟨x35, rfl, rfl, hP⟩
            refine im_bkS ?_
            refine im_st1 (q := 125) (i := 3) (L' := [some (.ref 23), none, some (vI p2), some (vI x35), some (vI p4)]) D37_124 (Or.inl ⟨_, rfl, rfl⟩) (Nat.le_of_ble_eq_true rfl) rfl ?_
            refine im_iinc (q := 128) (i := 4) (L' := [some (.ref 23), none, some (vI p2), some (vI x35), some (vI (p4 + 1))]) D37_125 rfl (Nat.le_of_ble_eq_true rfl) rfl ?_
            refine im_goto (q := 131) (t := 36) D37_128 rfl ?_
            exact hP.wk ⟨rfl, rfl, rfl, rfl, trivial⟩
          · replace hP := hP.2 (Decidable.not_not.mp hc27)
            refine im_iconst (q := 95) D37_94 ?_
            refine im_goto (q := 98) (t := 124) D37_95 rfl ?_
            refine im_st1 (q := 125) (i := 3) (L' := [some (.ref 23), none, some (vI p2), some (vI 3), some (vI p4)]) D37_124 (Or.inl ⟨_, rfl, rfl⟩) (Nat.le_of_ble_eq_true rfl) rfl ?_
            refine im_iinc (q := 128) (i := 4) (L' := [some (.ref 23), none, some (vI p2), some (vI 3), some (vI (p4 + 1))]) D37_125 rfl (Nat.le_of_ble_eq_true rfl) rfl ?_
            refine im_goto (q := 131) (t := 36) D37_128 rfl ?_
            exact hP.wk ⟨rfl, rfl, rfl, rfl, trivial⟩
        · replace hP := hP.2 (Int.not_le.mp hc25)
          refine im_ld (q := 71) (i := 0) D37_70 rfl rfl rfl ?_
          refine im_gfR (q := 74) (b := 2) D37_71 (im_fl cn_37 fl_4_29) sf_23 rfl rfl tR_4_1 rfl ?_
          refine im_gfI (q := 77) D37_74 (im_fl cn_37 fl_4_56) sf_2 rfl rfl tI_6_4 rfl ?_
          refine im_ineg (q := 78) D37_77 ?_
          refine im_st1 (q := 79) (i := 3) (L' := [some (.ref 23), none, some (vI p2), some (vI (-(M23 2 4))), some (vI p4)]) D37_78 (Or.inl ⟨_, rfl, rfl⟩) (Nat.le_of_ble_eq_true rfl) rfl ?_
          refine im_goto (q := 82) (t := 125) D37_79 rfl ?_
          refine im_iinc (q := 128) (i := 4) (L' := [some (.ref 23), none, some (vI p2), some (vI (-(M23 2 4))), some (vI (p4 + 1))]) D37_125 rfl (Nat.le_of_ble_eq_true rfl) rfl ?_
          refine im_goto (q := 131) (t := 36) D37_128 rfl ?_
          exact hP.wk ⟨rfl, rfl, rfl, rfl, trivial⟩
set_option maxRecDepth 20000 in
set_option maxHeartbeats 4000000 in
theorem k_Reader_open_0 {g : im_g} {d : Nat} {e : im_E} {M : im_M} {K : im_K} {p2 : Int} {p1 n1 : Nat} (hs1 : (im_sh0 ++ e)[p1]? = some (0, n1, [])) (hn1 : n1 ≤ 2147483647) (hP : (im_i32 p2) ∧ (im_i32 n1) ∧ K (.inl none) e (im_u (im_u (im_u M 2 1 (p1 : Nat)) 2 2 (min p2 n1)) 2 3 0)) : im_T g d 38 0 [some (.ref 2), some (.ref p1), some (vI p2)] [] e M K := by
  refine im_ld (q := 1) (i := 0) D38_0 rfl rfl rfl ?_
  refine im_ld (q := 2) (i := 1) D38_1 rfl rfl rfl ?_
  refine im_pfR (q := 5) D38_2 (im_fl cn_38 fl_6_15) sf_2 rfl rfl tR_6_1 rfl ?_
  refine im_ld (q := 6) (i := 0) D38_5 rfl rfl rfl ?_
  refine im_ld (q := 7) (i := 2) D38_6 rfl rfl rfl ?_
  refine im_ld (q := 8) (i := 1) D38_7 rfl rfl rfl ?_
  refine im_alen (q := 9) D38_8 hs1 (by decide) ?_
  obtain ⟨hg1, hP⟩ := hP
  obtain ⟨hg2, hP⟩ := hP
  refine im_imin (q := 12) D38_9 rfl hg1 hg2 rfl ?_
  refine im_pfI (q := 15) D38_12 (im_fl cn_38 fl_6_54) sf_2 rfl rfl ti_6_2 (im_minr hg1 hg2) ?_
  refine im_ld (q := 16) (i := 0) D38_15 rfl rfl rfl ?_
  refine im_iconst (q := 17) D38_16 ?_
  refine im_pfI (q := 20) D38_17 (im_fl cn_38 fl_6_56) sf_2 rfl rfl ti_6_3 (by decide) ?_
  exact im_vret (q := 21) D38_20 rfl hP
set_option maxRecDepth 20000 in
set_option maxHeartbeats 4000000 in
theorem k_Parser_push_0 {g : im_g} {d : Nat} {e : im_E} {M : im_M} {K : im_K} {p1 p2 : Int} (hP : ((1024 ≤ (M 23 4) → K (.inl none) e M) ∧ ((M 23 4) < 1024 → (0 ≤ (M 23 4) ∧ (M 23 4) < 1024) ∧ (im_i32 p1) ∧ (im_i32 p2) ∧ (im_i32 ((M 23 4) + 1)) ∧ K (.inl none) e (im_u (im_u (im_u M 24 (M 23 4) p1) 25 (M 23 4) p2) 23 4 ((M 23 4) + 1))))) : im_T g d 39 0 [some (.ref 23), some (vI p1), some (vI p2)] [] e M K := by
  refine im_ld (q := 1) (i := 0) D39_0 rfl rfl rfl ?_
  refine im_rng (j := 4) sf_23 (by decide) (by decide) (fun hr1 => ?_)
  refine im_gfI (q := 4) D39_1 (im_fl cn_39 fl_4_46) sf_23 rfl rfl tI_4_4 rfl ?_
  refine im_sipush (q := 7) D39_4 rfl ?_
  refine im_icmp (q := 10) (t := 40) D39_7 rfl hr1 (by decide) (fun hc2 => ?_) (fun hc2 => ?_)
  · replace hP := hP.1 hc2
    exact im_vret (q := 41) D39_40 rfl hP
  · replace hP := hP.2 (Int.not_le.mp hc2)
    refine im_ld (q := 11) (i := 0) D39_10 rfl rfl rfl ?_
    refine im_gfR (q := 14) (b := 24) D39_11 (im_fl cn_39 fl_4_11) sf_23 rfl rfl tR_4_2 rfl ?_
    refine im_ld (q := 15) (i := 0) D39_14 rfl rfl rfl ?_
    refine im_gfI (q := 18) D39_15 (im_fl cn_39 fl_4_46) sf_23 rfl rfl tI_4_4 rfl ?_
    refine im_ld (q := 19) (i := 1) D39_18 rfl rfl rfl ?_
    obtain ⟨hg4, hP⟩ := hP
    obtain ⟨hg5, hP⟩ := hP
    refine im_iast (q := 20) D39_19 sf_24 hg4.1 hg4.2 (by decide) hg5 ?_
    refine im_ld (q := 21) (i := 0) D39_20 rfl rfl rfl ?_
    refine im_gfR (q := 24) (b := 25) D39_21 (im_fl cn_39 fl_4_15) sf_23 rfl rfl tR_4_3 rfl ?_
    refine im_ld (q := 25) (i := 0) D39_24 rfl rfl rfl ?_
    refine im_gfI (q := 28) D39_25 (im_fl cn_39 fl_4_46) sf_23 rfl rfl tI_4_4 (im_rdn _ _ _ _ (by decide)) ?_
    refine im_ld (q := 29) (i := 2) D39_28 rfl rfl rfl ?_
    obtain ⟨hg7, hP⟩ := hP
    refine im_iast (q := 30) D39_29 sf_25 hg4.1 hg4.2 (by decide) hg7 ?_
    refine im_ld (q := 31) (i := 0) D39_30 rfl rfl rfl ?_
    refine im_dup (q := 32) D39_31 rfl ?_
    refine im_gfI (q := 35) D39_32 (im_fl cn_39 fl_4_46) sf_23 rfl rfl tI_4_4 ((im_rdn _ _ _ _ (by decide)).trans (im_rdn _ _ _ _ (by decide))) ?_
    refine im_iconst (q := 36) D39_35 ?_
    refine im_iadd (q := 37) D39_36 ?_
    obtain ⟨hg9, hP⟩ := hP
    refine im_pfI (q := 40) D39_37 (im_fl cn_39 fl_4_46) sf_23 rfl rfl ti_4_4 hg9 ?_
    exact im_vret (q := 41) D39_40 rfl hP
set_option maxRecDepth 20000 in
set_option maxHeartbeats 4000000 in
theorem k_Reader_advance_0 {g : im_g} {d : Nat} {e : im_E} {M : im_M} {K : im_K} (hP : im_T g d 40 5 [some (.ref 2), some (vI (M 2 3))] [] e M K) : im_T g d 40 0 [some (.ref 2), none] [] e M K := by
  refine im_ld (q := 1) (i := 0) D40_0 rfl rfl rfl ?_
  refine im_rng (j := 3) sf_2 (by decide) (by decide) (fun hr1 => ?_)
  refine im_gfI (q := 4) D40_1 (im_fl cn_40 fl_6_56) sf_2 rfl rfl tI_6_3 rfl ?_
  refine im_st1 (q := 5) (i := 1) (L' := [some (.ref 2), some (vI (M 2 3))]) D40_4 (Or.inl ⟨_, rfl, rfl⟩) (Nat.le_of_ble_eq_true rfl) rfl ?_
  exact hP.wk ⟨rfl, rfl, trivial⟩
set_option maxRecDepth 20000 in
set_option maxHeartbeats 4000000 in
theorem k_Reader_advance_5 {g : im_g} {d : Nat} {e : im_E} {M : im_M} {K : im_K} {p1 : Int} (hd : 1 ≤ d) (hP : (im_i32 p1) ∧ (((M 2 2) ≤ p1 → ((p1 < (M 2 2) → ∃ b6 : Nat, ((M 2 1) = (b6 : Int)) ∧ ∃ n9 : Nat, ((im_sh0 ++ e)[b6]? = some (0, n9, []) ∧ n9 ≤ 2147483647) ∧ (0 ≤ p1 ∧ p1 < n9) ∧ im_T g (d - 1) 42 0 [some (vI ((im_u (im_u M 2 5 p1) 2 3 p1) b6 p1))] [] e (im_u (im_u M 2 5 p1) 2 3 p1) (im_ri (fun x13 e_ M12 => e = e_ ∧ (im_i32 x13) ∧ ((x13 = (-1) → im_T g d 40 85 [some (.ref 2), some (vI p1)] [] e (im_u M12 2 4 x13) K) ∧ (¬ x13 = (-1) → (im_i32 (p1 + 1)) ∧ K (.inl none) e (im_u (im_u M12 2 4 x13) 2 3 (p1 + 1))))))) ∧ ((M 2 2) ≤ p1 → K (.inl none) e (im_u (im_u (im_u M 2 5 p1) 2 3 p1) 2 4 41)))) ∧ (p1 < (M 2 2) → ∃ b19 : Nat, ((M 2 1) = (b19 : Int)) ∧ ∃ n22 : Nat, ((im_sh0 ++ e)[b19]? = some (0, n22, []) ∧ n22 ≤ 2147483647) ∧ (0 ≤ p1 ∧ p1 < n22) ∧ im_T g (d - 1) 41 0 [some (vI (M b19 p1))] [] e M (im_ri (fun x26 e_ M25 => e = e_ ∧ (im_i32 x26) ∧ ((x26 = 0 → ((p1 < (M25 2 2) → ∃ b31 : Nat, ((M25 2 1) = (b31 : Int)) ∧ ∃ n34 : Nat, ((im_sh0 ++ e)[b31]? = some (0, n34, []) ∧ n34 ≤ 2147483647) ∧ (0 ≤ p1 ∧ p1 < n34) ∧ im_T g (d - 1) 42 0 [some (vI ((im_u (im_u M25 2 5 p1) 2 3 p1) b31 p1))] [] e (im_u (im_u M25 2 5 p1) 2 3 p1) (im_ri (fun x38 e_ M37 => e = e_ ∧ (im_i32 x38) ∧ ((x38 = (-1) → im_T g d 40 85 [some (.ref 2), some (vI p1)] [] e (im_u M37 2 4 x38) K) ∧ (¬ x38 = (-1) → (im_i32 (p1 + 1)) ∧ K (.inl none) e (im_u (im_u M37 2 4 x38) 2 3 (p1 + 1))))))) ∧ ((M25 2 2) ≤ p1 → K (.inl none) e (im_u (im_u (im_u M25 2 5 p1) 2 3 p1) 2 4 41)))) ∧ (¬ x26 = 0 → im_T g d 40 5 [some (.ref 2), some (vI (p1 + 1))] [] e M25 K))))))) : im_T g d 40 5 [some (.ref 2), some (vI p1)] [] e M K := by
  refine im_ld (q := 6) (i := 1) D40_5 rfl rfl rfl ?_
  refine im_ld (q := 7) (i := 0) D40_6 rfl rfl rfl ?_
  refine im_rng (j := 2) sf_2 (by decide) (by decide) (fun hr1 => ?_)
  refine im_gfI (q := 10) D40_7 (im_fl cn_40 fl_6_54) sf_2 rfl rfl tI_6_2 rfl ?_
  obtain ⟨hg2, hP⟩ := hP
  refine im_icmp (q := 13) (t := 31) D40_10 rfl hg2 hr1 (fun hc3 => ?_) (fun hc3 => ?_)
  · replace hP := hP.1 hc3
    refine im_ld (q := 32) (i := 0) D40_31 rfl rfl rfl ?_
    refine im_ld (q := 33) (i := 1) D40_32 rfl rfl rfl ?_
    refine im_pfI (q := 36) D40_33 (im_fl cn_40 fl_6_45) sf_2 rfl rfl ti_6_5 hg2 ?_
    refine im_ld (q := 37) (i := 0) D40_36 rfl rfl rfl ?_
    refine im_ld (q := 38) (i := 1) D40_37 rfl rfl rfl ?_
    refine im_pfI (q := 41) D40_38 (im_fl cn_40 fl_6_56) sf_2 rfl rfl ti_6_3 hg2 ?_
    refine im_ld (q := 42) (i := 1) D40_41 rfl rfl rfl ?_
    refine im_ld (q := 43) (i := 0) D40_42 rfl rfl rfl ?_
    refine im_gfI (q := 46) D40_43 (im_fl cn_40 fl_6_54) sf_2 rfl rfl tI_6_2 ((im_rdk _ _ _ (by decide)).trans (im_rdk _ _ _ (by decide))) ?_
    refine im_icmp (q := 49) (t := 56) D40_46 rfl hg2 hr1 (fun hc5 => ?_) (fun hc5 => ?_)
    · replace hP := hP.1 hc5
      refine im_ld (q := 57) (i := 0) D40_56 rfl rfl rfl ?_
      refine im_ld (q := 58) (i := 0) D40_57 rfl rfl rfl ?_
      obtain ⟨b6, hb7, hP⟩ := hP
      obtain ⟨n9, hb8, hP⟩ := hP
      refine im_gfD (q := 61) D40_58 (im_fl cn_40 fl_6_15) sf_2 rfl rfl tR_6_1 rfl ((((im_rdk _ _ _ (by decide)).trans (im_rdk _ _ _ (by decide)))).trans hb7) ?_
      refine im_ld (q := 62) (i := 1) D40_61 rfl rfl rfl ?_
      obtain ⟨hg10, hP⟩ := hP
      refine im_rng (j := p1) hb8.1 hg10.1 hg10.2 (fun hr11 => ?_)
      refine im_bald (q := 63) D40_62 hb8.1 (Or.inl rfl) hg10.1 hg10.2 hb8.2 rfl ?_
      refine im_callS (q := 66) (kd := 0) (y := 42) (n := 1) (z := 6) (vs := [vI ((im_u (im_u M 2 5 p1) 2 3 p1) b6 p1)]) (r := [.ref 2]) (L2 := [some (vI ((im_u (im_u M 2 5 p1) 2 3 p1) b6 p1))]) D40_63 rfl (im_cal cn_40 cl_6_66) (Or.inl rfl) rfl rfl rfl rfl rfl hd ⟨rfl, trivial⟩ ?_
      refine hP.mono ?_
      rintro _ e18 M12 ⟨x13, rfl, rfl, hP⟩
      refine im_bkS ?_
      obtain ⟨hg14, hP⟩ := hP
      refine im_pfI (q := 69) D40_66 (im_fl cn_40 fl_6_63) sf_2 rfl rfl ti_6_4 hg14 ?_
      refine im_ld (q := 70) (i := 0) D40_69 rfl rfl rfl ?_
      refine im_gfI (q := 73) D40_70 (im_fl cn_40 fl_6_63) sf_2 rfl rfl tI_6_4 (im_rds _ _ _ _) ?_
      refine im_iconst (q := 74) D40_73 ?_
      refine im_icmp (q := 77) (t := 85) D40_74 rfl hg14 (by decide) (fun hc16 => ?_) (fun hc16 => ?_)
      · replace hP := hP.1 hc16
        exact hP.wk ⟨rfl, rfl, trivial⟩
      · replace hP := hP.2 hc16
        refine im_ld (q := 78) (i := 0) D40_77 rfl rfl rfl ?_
        refine im_ld (q := 79) (i := 1) D40_78 rfl rfl rfl ?_
        refine im_iconst (q := 80) D40_79 ?_
        refine im_iadd (q := 81) D40_80 ?_
        obtain ⟨hg17, hP⟩ := hP
        refine im_pfI (q := 84) D40_81 (im_fl cn_40 fl_6_56) sf_2 rfl rfl ti_6_3 hg17 ?_
        exact im_vret (q := 85) D40_84 rfl hP
    · replace hP := hP.2 (Int.not_lt.mp hc5)
      refine im_ld (q := 50) (i := 0) D40_49 rfl rfl rfl ?_
      refine im_bipush (q := 52) D40_50 rfl ?_
      refine im_pfI (q := 55) D40_52 (im_fl cn_40 fl_6_63) sf_2 rfl rfl ti_6_4 (by decide) ?_
      exact im_vret (q := 56) D40_55 rfl hP
  · replace hP := hP.2 (Int.not_le.mp hc3)
    refine im_ld (q := 14) (i := 0) D40_13 rfl rfl rfl ?_
    obtain ⟨b19, hb20, hP⟩ := hP
    obtain ⟨n22, hb21, hP⟩ := hP
    refine im_gfD (q := 17) D40_14 (im_fl cn_40 fl_6_15) sf_2 rfl rfl tR_6_1 rfl hb20 ?_
    refine im_ld (q := 18) (i := 1) D40_17 rfl rfl rfl ?_
    obtain ⟨hg23, hP⟩ := hP
    refine im_rng (j := p1) hb21.1 hg23.1 hg23.2 (fun hr24 => ?_)
    refine im_bald (q := 19) D40_18 hb21.1 (Or.inl rfl) hg23.1 hg23.2 hb21.2 rfl ?_
    refine im_callS (q := 22) (kd := 0) (y := 41) (n := 1) (z := 6) (vs := [vI (M b19 p1)]) (r := []) (L2 := [some (vI (M b19 p1))]) D40_19 rfl (im_cal cn_40 cl_6_59) (Or.inl rfl) rfl rfl rfl rfl rfl hd ⟨rfl, trivial⟩ ?_
    refine hP.mono ?_
    rintro _ e44 M25 ⟨x26, rfl, rfl, hP⟩
    refine im_bkS ?_
    obtain ⟨hg27, hP⟩ := hP
    refine im_ifc (q := 25) (t := 31) D40_22 rfl hg27 (fun hc28 => ?_) (fun hc28 => ?_)
    · replace hP := hP.1 hc28
      refine im_ld (q := 32) (i := 0) D40_31 rfl rfl rfl ?_
      refine im_ld (q := 33) (i := 1) D40_32 rfl rfl rfl ?_
      refine im_pfI (q := 36) D40_33 (im_fl cn_40 fl_6_45) sf_2 rfl rfl ti_6_5 hg2 ?_
      refine im_ld (q := 37) (i := 0) D40_36 rfl rfl rfl ?_
      refine im_ld (q := 38) (i := 1) D40_37 rfl rfl rfl ?_
      refine im_pfI (q := 41) D40_38 (im_fl cn_40 fl_6_56) sf_2 rfl rfl ti_6_3 hg2 ?_
      refine im_ld (q := 42) (i := 1) D40_41 rfl rfl rfl ?_
      refine im_ld (q := 43) (i := 0) D40_42 rfl rfl rfl ?_
      refine im_rng (j := 2) sf_2 (by decide) (by decide) (fun hr29 => ?_)
      refine im_gfI (q := 46) D40_43 (im_fl cn_40 fl_6_54) sf_2 rfl rfl tI_6_2 ((im_rdk _ _ _ (by decide)).trans (im_rdk _ _ _ (by decide))) ?_
      refine im_icmp (q := 49) (t := 56) D40_46 rfl hg2 (im_rgc hr29 ((im_rdk _ _ _ (by decide)).trans (im_rdk _ _ _ (by decide)))) (fun hc30 => ?_) (fun hc30 => ?_)
      · replace hP := hP.1 hc30
        refine im_ld (q := 57) (i := 0) D40_56 rfl rfl rfl ?_
        refine im_ld (q := 58) (i := 0) D40_57 rfl rfl rfl ?_
        obtain ⟨b31, hb32, hP⟩ := hP
        obtain ⟨n34, hb33, hP⟩ := hP
        refine im_gfD (q := 61) D40_58 (im_fl cn_40 fl_6_15) sf_2 rfl rfl tR_6_1 rfl ((((im_rdk _ _ _ (by decide)).trans (im_rdk _ _ _ (by decide)))).trans hb32) ?_
        refine im_ld (q := 62) (i := 1) D40_61 rfl rfl rfl ?_
        obtain ⟨hg35, hP⟩ := hP
        refine im_rng (j := p1) hb33.1 hg35.1 hg35.2 (fun hr36 => ?_)
        refine im_bald (q := 63) D40_62 hb33.1 (Or.inl rfl) hg35.1 hg35.2 hb33.2 rfl ?_
        refine im_callS (q := 66) (kd := 0) (y := 42) (n := 1) (z := 6) (vs := [vI ((im_u (im_u M25 2 5 p1) 2 3 p1) b31 p1)]) (r := [.ref 2]) (L2 := [some (vI ((im_u (im_u M25 2 5 p1) 2 3 p1) b31 p1))]) D40_63 rfl (im_cal cn_40 cl_6_66) (Or.inl rfl) rfl rfl rfl rfl rfl hd ⟨rfl, trivial⟩ ?_
        refine hP.mono ?_
        rintro _ e43 M37 ⟨x38, rfl, rfl, hP⟩
        refine im_bkS ?_
        obtain ⟨hg39, hP⟩ := hP
        refine im_pfI (q := 69) D40_66 (im_fl cn_40 fl_6_63) sf_2 rfl rfl ti_6_4 hg39 ?_
        refine im_ld (q := 70) (i := 0) D40_69 rfl rfl rfl ?_
        refine im_gfI (q := 73) D40_70 (im_fl cn_40 fl_6_63) sf_2 rfl rfl tI_6_4 (im_rds _ _ _ _) ?_
        refine im_iconst (q := 74) D40_73 ?_
        refine im_icmp (q := 77) (t := 85) D40_74 rfl hg39 (by decide) (fun hc41 => ?_) (fun hc41 => ?_)
        · replace hP := hP.1 hc41
          exact hP.wk ⟨rfl, rfl, trivial⟩
        · replace hP := hP.2 hc41
          refine im_ld (q := 78) (i := 0) D40_77 rfl rfl rfl ?_
          refine im_ld (q := 79) (i := 1) D40_78 rfl rfl rfl ?_
          refine im_iconst (q := 80) D40_79 ?_
          refine im_iadd (q := 81) D40_80 ?_
          obtain ⟨hg42, hP⟩ := hP
          refine im_pfI (q := 84) D40_81 (im_fl cn_40 fl_6_56) sf_2 rfl rfl ti_6_3 hg42 ?_
          exact im_vret (q := 85) D40_84 rfl hP
      · replace hP := hP.2 (Int.not_lt.mp hc30)
        refine im_ld (q := 50) (i := 0) D40_49 rfl rfl rfl ?_
        refine im_bipush (q := 52) D40_50 rfl ?_
        refine im_pfI (q := 55) D40_52 (im_fl cn_40 fl_6_63) sf_2 rfl rfl ti_6_4 (by decide) ?_
        exact im_vret (q := 56) D40_55 rfl hP
    · replace hP := hP.2 hc28
      refine im_iinc (q := 28) (i := 1) (L' := [some (.ref 2), some (vI (p1 + 1))]) D40_25 rfl (Nat.le_of_ble_eq_true rfl) rfl ?_
      refine im_goto (q := 31) (t := 5) D40_28 rfl ?_
      exact hP.wk ⟨rfl, rfl, trivial⟩
set_option maxRecDepth 20000 in
set_option maxHeartbeats 4000000 in
theorem k_Reader_advance_85 {g : im_g} {d : Nat} {e : im_E} {M : im_M} {K : im_K} {p1 : Int} (hd : 1 ≤ d) (hP : (((M 2 2) ≤ (M 2 3) → im_T g (d - 1) 43 0 [some (.ref 2), some (vI p1), some (vI (M 2 3)), none, none, none] [] e M (im_ri (fun x6 e_ M5 => e = e_ ∧ (im_i32 x6) ∧ K (.inl none) e (im_u M5 2 4 x6)))) ∧ ((M 2 3) < (M 2 2) → ∃ b9 : Nat, ((M 2 1) = (b9 : Int)) ∧ ∃ n12 : Nat, ((im_sh0 ++ e)[b9]? = some (0, n12, []) ∧ n12 ≤ 2147483647) ∧ (0 ≤ (M 2 3) ∧ (M 2 3) < n12) ∧ im_T g (d - 1) 41 0 [some (vI (M b9 (M 2 3)))] [] e M (im_ri (fun x17 e_ M16 => e = e_ ∧ (im_i32 x17) ∧ ((¬ x17 = 0 → im_T g (d - 1) 43 0 [some (.ref 2), some (vI p1), some (vI (M16 2 3)), none, none, none] [] e M16 (im_ri (fun x22 e_ M21 => e = e_ ∧ (im_i32 x22) ∧ K (.inl none) e (im_u M21 2 4 x22)))) ∧ (x17 = 0 → ∃ b25 : Nat, ((M16 2 1) = (b25 : Int)) ∧ ∃ n28 : Nat, ((im_sh0 ++ e)[b25]? = some (0, n28, []) ∧ n28 ≤ 2147483647) ∧ (0 ≤ (M16 2 3) ∧ (M16 2 3) < n28) ∧ im_T g (d - 1) 42 0 [some (vI (M16 b25 (M16 2 3)))] [] e M16 (im_ri (fun x33 e_ M32 => e = e_ ∧ (im_i32 x33) ∧ ((¬ x33 = (-1) → im_T g (d - 1) 43 0 [some (.ref 2), some (vI p1), some (vI (M32 2 3)), none, none, none] [] e M32 (im_ri (fun x39 e_ M38 => e = e_ ∧ (im_i32 x39) ∧ K (.inl none) e (im_u M38 2 4 x39)))) ∧ (x33 = (-1) → (im_i32 ((M32 2 3) + 1)) ∧ im_T g d 40 85 [some (.ref 2), some (vI p1)] [] e (im_u M32 2 3 ((M32 2 3) + 1)) K))))))))))) : im_T g d 40 85 [some (.ref 2), some (vI p1)] [] e M K := by
  refine im_ld (q := 86) (i := 0) D40_85 rfl rfl rfl ?_
  refine im_rng (j := 3) sf_2 (by decide) (by decide) (fun hr1 => ?_)
  refine im_gfI (q := 89) D40_86 (im_fl cn_40 fl_6_56) sf_2 rfl rfl tI_6_3 rfl ?_
  refine im_ld (q := 90) (i := 0) D40_89 rfl rfl rfl ?_
  refine im_rng (j := 2) sf_2 (by decide) (by decide) (fun hr2 => ?_)
  refine im_gfI (q := 93) D40_90 (im_fl cn_40 fl_6_54) sf_2 rfl rfl tI_6_2 rfl ?_
  refine im_icmp (q := 96) (t := 140) D40_93 rfl hr1 hr2 (fun hc3 => ?_) (fun hc3 => ?_)
  · replace hP := hP.1 hc3
    refine im_ld (q := 141) (i := 0) D40_140 rfl rfl rfl ?_
    refine im_ld (q := 142) (i := 0) D40_141 rfl rfl rfl ?_
    refine im_ld (q := 143) (i := 1) D40_142 rfl rfl rfl ?_
    refine im_ld (q := 144) (i := 0) D40_143 rfl rfl rfl ?_
    refine im_gfI (q := 147) D40_144 (im_fl cn_40 fl_6_56) sf_2 rfl rfl tI_6_3 rfl ?_
    refine im_callV (q := 150) (kd := 1) (y := 43) (n := 2) (ci := 6) (a := 2) (vs := [.ref 2, vI p1, vI (M 2 3)]) (r := [.ref 2]) (L2 := [some (.ref 2), some (vI p1), some (vI (M 2 3)), none, none, none]) D40_147 (im_cal cn_40 cl_6_70) (Or.inl rfl) rfl sf_2 rfl rfl rfl rfl hd ⟨rfl, rfl, rfl, trivial⟩ ?_
    refine hP.mono ?_
    rintro _ e8 M5 ⟨x6, rfl, rfl, hP⟩
    refine im_bkS ?_
    obtain ⟨hg7, hP⟩ := hP
    refine im_pfI (q := 153) D40_150 (im_fl cn_40 fl_6_63) sf_2 rfl rfl ti_6_4 hg7 ?_
    exact im_vret (q := 154) D40_153 rfl hP
  · replace hP := hP.2 (Int.not_le.mp hc3)
    refine im_ld (q := 97) (i := 0) D40_96 rfl rfl rfl ?_
    obtain ⟨b9, hb10, hP⟩ := hP
    obtain ⟨n12, hb11, hP⟩ := hP
    refine im_gfD (q := 100) D40_97 (im_fl cn_40 fl_6_15) sf_2 rfl rfl tR_6_1 rfl hb10 ?_
    refine im_ld (q := 101) (i := 0) D40_100 rfl rfl rfl ?_
    refine im_gfI (q := 104) D40_101 (im_fl cn_40 fl_6_56) sf_2 rfl rfl tI_6_3 rfl ?_
    obtain ⟨hg14, hP⟩ := hP
    refine im_rng (j := (M 2 3)) hb11.1 hg14.1 hg14.2 (fun hr15 => ?_)
    refine im_bald (q := 105) D40_104 hb11.1 (Or.inl rfl) hg14.1 hg14.2 hb11.2 rfl ?_
    refine im_callS (q := 108) (kd := 0) (y := 41) (n := 1) (z := 6) (vs := [vI (M b9 (M 2 3))]) (r := []) (L2 := [some (vI (M b9 (M 2 3)))]) D40_105 rfl (im_cal cn_40 cl_6_59) (Or.inl rfl) rfl rfl rfl rfl rfl hd ⟨rfl, trivial⟩ ?_
    refine hP.mono ?_
    rintro _ e44 M16 ⟨x17, rfl, rfl, hP⟩
    refine im_bkS ?_
    obtain ⟨hg18, hP⟩ := hP
    refine im_ifc (q := 111) (t := 140) D40_108 rfl hg18 (fun hc19 => ?_) (fun hc19 => ?_)
    · replace hP := hP.1 hc19
      refine im_ld (q := 141) (i := 0) D40_140 rfl rfl rfl ?_
      refine im_ld (q := 142) (i := 0) D40_141 rfl rfl rfl ?_
      refine im_ld (q := 143) (i := 1) D40_142 rfl rfl rfl ?_
      refine im_ld (q := 144) (i := 0) D40_143 rfl rfl rfl ?_
      refine im_rng (j := 3) sf_2 (by decide) (by decide) (fun hr20 => ?_)
      refine im_gfI (q := 147) D40_144 (im_fl cn_40 fl_6_56) sf_2 rfl rfl tI_6_3 rfl ?_
      refine im_callV (q := 150) (kd := 1) (y := 43) (n := 2) (ci := 6) (a := 2) (vs := [.ref 2, vI p1, vI (M16 2 3)]) (r := [.ref 2]) (L2 := [some (.ref 2), some (vI p1), some (vI (M16 2 3)), none, none, none]) D40_147 (im_cal cn_40 cl_6_70) (Or.inl rfl) rfl sf_2 rfl rfl rfl rfl hd ⟨rfl, rfl, rfl, trivial⟩ ?_
      refine hP.mono ?_
      rintro _ e24 M21 ⟨x22, rfl, rfl, hP⟩
      refine im_bkS ?_
      obtain ⟨hg23, hP⟩ := hP
      refine im_pfI (q := 153) D40_150 (im_fl cn_40 fl_6_63) sf_2 rfl rfl ti_6_4 hg23 ?_
      exact im_vret (q := 154) D40_153 rfl hP
    · replace hP := hP.2 (Decidable.not_not.mp hc19)
      refine im_ld (q := 112) (i := 0) D40_111 rfl rfl rfl ?_
      obtain ⟨b25, hb26, hP⟩ := hP
      obtain ⟨n28, hb27, hP⟩ := hP
      refine im_gfD (q := 115) D40_112 (im_fl cn_40 fl_6_15) sf_2 rfl rfl tR_6_1 rfl hb26 ?_
      refine im_ld (q := 116) (i := 0) D40_115 rfl rfl rfl ?_
      refine im_rng (j := 3) sf_2 (by decide) (by decide) (fun hr29 => ?_)
      refine im_gfI (q := 119) D40_116 (im_fl cn_40 fl_6_56) sf_2 rfl rfl tI_6_3 rfl ?_
      obtain ⟨hg30, hP⟩ := hP
      refine im_rng (j := (M16 2 3)) hb27.1 hg30.1 hg30.2 (fun hr31 => ?_)
      refine im_bald (q := 120) D40_119 hb27.1 (Or.inl rfl) hg30.1 hg30.2 hb27.2 rfl ?_
      refine im_callS (q := 123) (kd := 0) (y := 42) (n := 1) (z := 6) (vs := [vI (M16 b25 (M16 2 3))]) (r := []) (L2 := [some (vI (M16 b25 (M16 2 3)))]) D40_120 rfl (im_cal cn_40 cl_6_66) (Or.inl rfl) rfl rfl rfl rfl rfl hd ⟨rfl, trivial⟩ ?_
      refine hP.mono ?_
      rintro _ e43 M32 ⟨x33, rfl, rfl, hP⟩
      refine im_bkS ?_
      refine im_iconst (q := 124) D40_123 ?_
      obtain ⟨hg34, hP⟩ := hP
      refine im_icmp (q := 127) (t := 140) D40_124 rfl hg34 (by decide) (fun hc35 => ?_) (fun hc35 => ?_)
      · replace hP := hP.1 hc35
        refine im_ld (q := 141) (i := 0) D40_140 rfl rfl rfl ?_
        refine im_ld (q := 142) (i := 0) D40_141 rfl rfl rfl ?_
        refine im_ld (q := 143) (i := 1) D40_142 rfl rfl rfl ?_
        refine im_ld (q := 144) (i := 0) D40_143 rfl rfl rfl ?_
        refine im_rng (j := 3) sf_2 (by decide) (by decide) (fun hr37 => ?_)
        refine im_gfI (q := 147) D40_144 (im_fl cn_40 fl_6_56) sf_2 rfl rfl tI_6_3 rfl ?_
        refine im_callV (q := 150) (kd := 1) (y := 43) (n := 2) (ci := 6) (a := 2) (vs := [.ref 2, vI p1, vI (M32 2 3)]) (r := [.ref 2]) (L2 := [some (.ref 2), some (vI p1), some (vI (M32 2 3)), none, none, none]) D40_147 (im_cal cn_40 cl_6_70) (Or.inl rfl) rfl sf_2 rfl rfl rfl rfl hd ⟨rfl, rfl, rfl, trivial⟩ ?_
        refine hP.mono ?_
        rintro _ e41 M38 ⟨x39, rfl, rfl, hP⟩
        refine im_bkS ?_
        obtain ⟨hg40, hP⟩ := hP
        refine im_pfI (q := 153) D40_150 (im_fl cn_40 fl_6_63) sf_2 rfl rfl ti_6_4 hg40 ?_
        exact im_vret (q := 154) D40_153 rfl hP
      · replace hP := hP.2 (Decidable.not_not.mp hc35)
        refine im_ld (q := 128) (i := 0) D40_127 rfl rfl rfl ?_
        refine im_dup (q := 129) D40_128 rfl ?_
        refine im_rng (j := 3) sf_2 (by decide) (by decide) (fun hr36 => ?_)
        refine im_gfI (q := 132) D40_129 (im_fl cn_40 fl_6_56) sf_2 rfl rfl tI_6_3 rfl ?_
        refine im_iconst (q := 133) D40_132 ?_
        refine im_iadd (q := 134) D40_133 ?_
        obtain ⟨hg42, hP⟩ := hP
        refine im_pfI (q := 137) D40_134 (im_fl cn_40 fl_6_56) sf_2 rfl rfl ti_6_3 hg42 ?_
        refine im_goto (q := 140) (t := 85) D40_137 rfl ?_
        exact hP.wk ⟨rfl, rfl, trivial⟩
set_option maxRecDepth 20000 in
set_option maxHeartbeats 4000000 in
theorem k_Reader_isBlank_0 {g : im_g} {d : Nat} {e : im_E} {M : im_M} {K : im_K} {p0 : Int} (hP : ((∀ x2 : Int, (((32 < (xiand p0 255)) ∧ x2 = 0) ∨ (((xiand p0 255) ≤ 32) ∧ x2 = 1)) → K (.inl (some (vI x2))) e M))) : im_T g d 41 0 [some (vI p0)] [] e M K := by
  refine im_ld (q := 1) (i := 0) D41_0 rfl rfl rfl ?_
  refine im_sipush (q := 4) D41_1 rfl ?_
  refine im_iand (q := 5) D41_4 ?_
  refine im_bipush (q := 7) D41_5 rfl ?_
  have hJ3 := hP
  have kJ4 : ∀ x2 : Int, (((32 < (xiand p0 255)) ∧ x2 = 0) ∨ (((xiand p0 255) ≤ 32) ∧ x2 = 1)) → im_T g d 41 15 [none] [vI x2] e M K := by
    intro x2 hx5
    have hP := hJ3 x2 hx5
    exact im_zret (q := 16) D41_15 rfl (by clear hP; omega) hP
  refine im_icmp (q := 10) (t := 14) D41_7 rfl (xiand_r _ _) (by decide) (fun hc1 => ?_) (fun hc1 => ?_)
  · refine im_iconst (q := 15) D41_14 ?_
    exact (kJ4 (0) (Or.inl ⟨hc1, rfl⟩)).wk trivial
  · refine im_iconst (q := 11) D41_10 ?_
    refine im_goto (q := 14) (t := 15) D41_11 rfl ?_
    exact (kJ4 (1) (Or.inr ⟨(Int.not_lt.mp hc1), rfl⟩)).wk trivial
set_option maxRecDepth 20000 in
set_option maxHeartbeats 4000000 in
theorem k_Reader_bracket_0 {g : im_g} {d : Nat} {e : im_E} {M : im_M} {K : im_K} {p0 : Int} (hP : (im_i32 p0) ∧ ((p0 = 40 → K (.inl (some (vI 37))) e M) ∧ (p0 = 41 → K (.inl (some (vI 38))) e M) ∧ (p0 = 91 → K (.inl (some (vI 39))) e M) ∧ (p0 = 93 → K (.inl (some (vI 40))) e M) ∧ (¬ p0 = 40 ∧ ¬ p0 = 41 ∧ ¬ p0 = 91 ∧ ¬ p0 = 93 → K (.inl (some (vI (-1)))) e M))) : im_T g d 42 0 [some (vI p0)] [] e M K := by
  refine im_ld (q := 1) (i := 0) D42_0 rfl rfl rfl ?_
  obtain ⟨hg1, hP⟩ := hP
  by_cases hc2 : p0 = 40
  · refine im_lsw (q := 2) (t := 44) D42_1 hg1 rfl (by rcases hc2 with hc2 <;> (rw [hc2]; rfl)) ?_
    replace hP := hP.1 hc2
    refine im_bipush (q := 46) D42_44 rfl ?_
    exact im_iret (q := 47) D42_46 rfl hP
  by_cases hc3 : p0 = 41
  · refine im_lsw (q := 2) (t := 47) D42_1 hg1 rfl (by rcases hc3 with hc3 <;> (rw [hc3]; rfl)) ?_
    replace hP := hP.2.1 hc3
    refine im_bipush (q := 49) D42_47 rfl ?_
    exact im_iret (q := 50) D42_49 rfl hP
  by_cases hc4 : p0 = 91
  · refine im_lsw (q := 2) (t := 50) D42_1 hg1 rfl (by rcases hc4 with hc4 <;> (rw [hc4]; rfl)) ?_
    replace hP := hP.2.2.1 hc4
    refine im_bipush (q := 52) D42_50 rfl ?_
    exact im_iret (q := 53) D42_52 rfl hP
  by_cases hc5 : p0 = 93
  · refine im_lsw (q := 2) (t := 53) D42_1 hg1 rfl (by rcases hc5 with hc5 <;> (rw [hc5]; rfl)) ?_
    replace hP := hP.2.2.2.1 hc5
    refine im_bipush (q := 55) D42_53 rfl ?_
    exact im_iret (q := 56) D42_55 rfl hP
  have hd6 : ¬ p0 = 40 ∧ ¬ p0 = 41 ∧ ¬ p0 = 91 ∧ ¬ p0 = 93 := by clear hP; omega
  refine im_lsw (q := 2) (t := 56) D42_1 hg1 rfl (by have z9 := hd6; simp [Op.lookupswitch.offset, am_to, z9, eq_comm]) ?_
  replace hP := hP.2.2.2.2 hd6
  refine im_iconst (q := 57) D42_56 ?_
  exact im_iret (q := 58) D42_57 rfl hP
set_option maxRecDepth 20000 in
set_option maxHeartbeats 4000000 in
theorem k_Reader_typeOf_0 {g : im_g} {d : Nat} {e : im_E} {M : im_M} {K : im_K} {p1 p2 : Int} (hd : 1 ≤ d) (hP : ∃ b1 : Nat, ((M 2 1) = (b1 : Int)) ∧ ∃ n4 : Nat, ((im_sh0 ++ e)[b1]? = some (0, n4, []) ∧ n4 ≤ 2147483647) ∧ (0 ≤ p1 ∧ p1 < n4) ∧ (((M b1 p1) = 45 → im_T g (d - 1) 45 0 [some (.ref 2), some (vI p1), some (vI p2), none, none, none] [] e M (im_ri (fun x9 e_ M8 => e = e_ ∧ K (.inl (some (vI x9))) e M8))) ∧ (¬ (M b1 p1) = 45 → im_T g (d - 1) 44 0 [some (vI (M b1 p1))] [] e M (im_ri (fun x12 e_ M11 => e = e_ ∧ (im_i32 x12) ∧ ((((¬ x12 = 0 → im_T g (d - 1) 45 0 [some (.ref 2), some (vI p1), some (vI p2), none, none, none] [] e M11 (im_ri (fun x48 e_ M47 => e = e_ ∧ K (.inl (some (vI x48))) e M47))))) ∧ (∀ x16 : Int, (((x12 = 0) ∧ (¬ (M b1 p1) = 63) ∧ x16 = 0) ∨ ((x12 = 0) ∧ ((M b1 p1) = 63) ∧ x16 = 1)) → ((∀ x21 : Int, (((x16 = 0) ∧ x21 = p1) ∨ ((¬ x16 = 0) ∧ x21 = (p1 + 1))) → im_T g (d - 1) 47 0 [some (.ref 2), some (vI x21), some (vI p2), none] [] e M11 (im_ri (fun x26 e_ M25 => e = e_ ∧ (im_i32 x26) ∧ ((¬ x26 = 0 → im_T g (d - 1) 49 0 [some (.ref 2), some (vL (M25 2 6)), none, none] [] e M25 (im_ri (fun x31 e_ M30 => e = e_ ∧ ((((x16 = 0 → (im_i32 x31)) ∧ (¬ x16 = 0 → (im_i32 x31)))) ∧ (∀ x38 : Int, (((¬ x16 = 0) ∧ (¬ x31 = (-1)) ∧ x38 = (-1)) ∨ ((¬ x16 = 0) ∧ (x31 = (-1)) ∧ x38 = 35)) → K (.inl (some (vI x38))) e M30) ∧ (∀ x37 : Int, (((x16 = 0) ∧ (¬ x31 = (-1)) ∧ x37 = x31) ∨ ((x16 = 0) ∧ (x31 = (-1)) ∧ x37 = 36)) → K (.inl (some (vI x37))) e M30))))) ∧ (x26 = 0 → K (.inl (some (vI (-1)))) e M25))))))))))))) : im_T g d 43 0 [some (.ref 2), some (vI p1), some (vI p2), none, none, none] [] e M K := by
  refine im_ld (q := 1) (i := 0) D43_0 rfl rfl rfl ?_
  obtain ⟨b1, hb2, hP⟩ := hP
  obtain ⟨n4, hb3, hP⟩ := hP
  refine im_gfD (q := 4) D43_1 (im_fl cn_43 fl_6_15) sf_2 rfl rfl tR_6_1 rfl hb2 ?_
  refine im_ld (q := 5) (i := 1) D43_4 rfl rfl rfl ?_
  obtain ⟨hg5, hP⟩ := hP
  refine im_rng (j := p1) hb3.1 hg5.1 hg5.2 (fun hr6 => ?_)
  refine im_bald (q := 6) D43_5 hb3.1 (Or.inl rfl) hg5.1 hg5.2 hb3.2 rfl ?_
  refine im_st1 (q := 7) (i := 3) (L' := [some (.ref 2), some (vI p1), some (vI p2), some (vI (M b1 p1)), none, none]) D43_6 (Or.inl ⟨_, rfl, rfl⟩) (Nat.le_of_ble_eq_true rfl) rfl ?_
  refine im_ld (q := 8) (i := 3) D43_7 rfl rfl rfl ?_
  refine im_bipush (q := 10) D43_8 rfl ?_
  refine im_icmp (q := 13) (t := 20) D43_10 rfl (im_b32 hr6) (by decide) (fun hc7 => ?_) (fun hc7 => ?_)
  · replace hP := hP.1 hc7
    refine im_ld (q := 21) (i := 0) D43_20 rfl rfl rfl ?_
    refine im_ld (q := 22) (i := 1) D43_21 rfl rfl rfl ?_
    refine im_ld (q := 23) (i := 2) D43_22 rfl rfl rfl ?_
    refine im_callV (q := 26) (kd := 1) (y := 45) (n := 2) (ci := 6) (a := 2) (vs := [.ref 2, vI p1, vI p2]) (r := []) (L2 := [some (.ref 2), some (vI p1), some (vI p2), none, none, none]) D43_23 (im_cal cn_43 cl_6_76) (Or.inl rfl) rfl sf_2 rfl rfl rfl rfl hd ⟨rfl, rfl, rfl, trivial⟩ ?_
    refine hP.mono ?_
    rintro _ e10 M8 ⟨x9, rfl, rfl, hP⟩
    refine im_bkS ?_
    exact im_iret (q := 27) D43_26 rfl hP
  · replace hP := hP.2 hc7
    refine im_ld (q := 14) (i := 3) D43_13 rfl rfl rfl ?_
    refine im_callS (q := 17) (kd := 0) (y := 44) (n := 1) (z := 6) (vs := [vI (M b1 p1)]) (r := []) (L2 := [some (vI (M b1 p1))]) D43_14 rfl (im_cal cn_43 cl_6_73) (Or.inl rfl) rfl rfl rfl rfl rfl hd ⟨rfl, trivial⟩ ?_
    refine hP.mono ?_
    rintro _ e50 M11 ⟨x12, rfl, rfl, hP⟩
    refine im_bkS ?_
    obtain ⟨hg13, hP⟩ := hP
    obtain ⟨hP, hJ17⟩ := hP
    have kJ18 : ∀ x16 : Int, (((x12 = 0) ∧ (¬ (M b1 p1) = 63) ∧ x16 = 0) ∨ ((x12 = 0) ∧ ((M b1 p1) = 63) ∧ x16 = 1)) → im_T g d 43 38 [some (.ref 2), some (vI p1), some (vI p2), none, none, none] [vI x16] e M11 K := by
      intro x16 hx19
      have hP := hJ17 x16 hx19
      refine im_st1 (q := 40) (i := 4) (L' := [some (.ref 2), some (vI p1), some (vI p2), none, some (vI x16), none]) D43_38 (Or.inr rfl) (Nat.le_of_ble_eq_true rfl) rfl ?_
      refine im_ld (q := 41) (i := 0) D43_40 rfl rfl rfl ?_
      refine im_ld (q := 43) (i := 4) D43_41 rfl rfl rfl ?_
      have hJ22 := hP
      have kJ23 : ∀ x21 : Int, (((x16 = 0) ∧ x21 = p1) ∨ ((¬ x16 = 0) ∧ x21 = (p1 + 1))) → im_T g d 43 53 [some (.ref 2), none, some (vI p2), none, some (vI x16), none] [vI x21, .ref 2] e M11 K := by
        intro x21 hx24
        have hP := hJ22 x21 hx24
        refine im_ld (q := 54) (i := 2) D43_53 rfl rfl rfl ?_
        refine im_callV (q := 57) (kd := 1) (y := 47) (n := 2) (ci := 6) (a := 2) (vs := [.ref 2, vI x21, vI p2]) (r := []) (L2 := [some (.ref 2), some (vI x21), some (vI p2), none]) D43_54 (im_cal cn_43 cl_6_79) (Or.inl rfl) rfl sf_2 rfl rfl rfl rfl hd ⟨rfl, rfl, rfl, trivial⟩ ?_
        refine hP.mono ?_
        rintro _ e46 M25 ⟨x26, rfl, rfl, hP⟩
        refine im_bkS ?_
        obtain ⟨hg27, hP⟩ := hP
        refine im_ifc (q := 60) (t := 62) D43_57 rfl hg27 (fun hc28 => ?_) (fun hc28 => ?_)
        · replace hP := hP.1 hc28
          refine im_ld (q := 63) (i := 0) D43_62 rfl rfl rfl ?_
          refine im_ld (q := 64) (i := 0) D43_63 rfl rfl rfl ?_
          refine im_rng (j := 6) sf_2 (by decide) (by decide) (fun hr29 => ?_)
          refine im_gfL (q := 67) D43_64 (im_fl cn_43 fl_6_83) sf_2 rfl rfl tL_6_6 rfl ?_
          refine im_callV (q := 70) (kd := 1) (y := 49) (n := 1) (ci := 6) (a := 2) (vs := [.ref 2, vL (M25 2 6)]) (r := []) (L2 := [some (.ref 2), some (vL (M25 2 6)), none, none]) D43_67 (im_cal cn_43 cl_6_87) (Or.inl rfl) rfl sf_2 rfl rfl rfl rfl hd ⟨rfl, rfl, trivial⟩ ?_
          refine hP.mono ?_
          rintro _ e45 M30 ⟨x31, rfl, rfl, hP⟩
          refine im_bkS ?_
          refine im_st1 (q := 72) (i := 5) (L' := [some (.ref 2), none, some (vI p2), none, some (vI x16), some (vI x31)]) D43_70 (Or.inr rfl) (Nat.le_of_ble_eq_true rfl) rfl ?_
          refine im_ld (q := 74) (i := 4) D43_72 rfl rfl rfl ?_
          obtain ⟨hP, hJ39, hJ42⟩ := hP
          have kJ40 : ∀ x38 : Int, (((¬ x16 = 0) ∧ (¬ x31 = (-1)) ∧ x38 = (-1)) ∨ ((¬ x16 = 0) ∧ (x31 = (-1)) ∧ x38 = 35)) → im_T g d 43 89 [none, none, none, none, none, none] [vI x38] e M30 K := by
            intro x38 hx41
            have hP := hJ39 x38 hx41
            exact im_iret (q := 90) D43_89 rfl hP
          have kJ43 : ∀ x37 : Int, (((x16 = 0) ∧ (¬ x31 = (-1)) ∧ x37 = x31) ∨ ((x16 = 0) ∧ (x31 = (-1)) ∧ x37 = 36)) → im_T g d 43 103 [none, none, none, none, none, none] [vI x37] e M30 K := by
            intro x37 hx44
            have hP := hJ42 x37 hx44
            exact im_iret (q := 104) D43_103 rfl hP
          refine im_ifc (q := 77) (t := 90) D43_74 rfl (by clear hP; omega) (fun hc32 => ?_) (fun hc32 => ?_)
          · replace hP := hP.1 hc32
            refine im_ld (q := 92) (i := 5) D43_90 rfl rfl rfl ?_
            refine im_iconst (q := 93) D43_92 ?_
            have hg33 := hP
            refine im_icmp (q := 96) (t := 101) D43_93 rfl hg33 (by decide) (fun hc34 => ?_) (fun hc34 => ?_)
            · refine im_ld (q := 103) (i := 5) D43_101 rfl rfl rfl ?_
              exact (kJ43 (x31) (Or.inl ⟨hc32, hc34, rfl⟩)).wk trivial
            · refine im_bipush (q := 98) D43_96 rfl ?_
              refine im_goto (q := 101) (t := 103) D43_98 rfl ?_
              exact (kJ43 (36) (Or.inr ⟨hc32, (Decidable.not_not.mp hc34), rfl⟩)).wk trivial
          · replace hP := hP.2 hc32
            refine im_ld (q := 79) (i := 5) D43_77 rfl rfl rfl ?_
            refine im_iconst (q := 80) D43_79 ?_
            have hg35 := hP
            refine im_icmp (q := 83) (t := 88) D43_80 rfl hg35 (by decide) (fun hc36 => ?_) (fun hc36 => ?_)
            · refine im_iconst (q := 89) D43_88 ?_
              exact (kJ40 ((-1)) (Or.inl ⟨hc32, hc36, rfl⟩)).wk trivial
            · refine im_bipush (q := 85) D43_83 rfl ?_
              refine im_goto (q := 88) (t := 89) D43_85 rfl ?_
              exact (kJ40 (35) (Or.inr ⟨hc32, (Decidable.not_not.mp hc36), rfl⟩)).wk trivial
        · replace hP := hP.2 (Decidable.not_not.mp hc28)
          refine im_iconst (q := 61) D43_60 ?_
          exact im_iret (q := 62) D43_61 rfl hP
      refine im_ifc (q := 46) (t := 52) D43_43 rfl (by clear hP; omega) (fun hc20 => ?_) (fun hc20 => ?_)
      · refine im_ld (q := 53) (i := 1) D43_52 rfl rfl rfl ?_
        exact (kJ23 (p1) (Or.inl ⟨hc20, rfl⟩)).wk ⟨rfl, rfl, rfl, trivial⟩
      · refine im_ld (q := 47) (i := 1) D43_46 rfl rfl rfl ?_
        refine im_iconst (q := 48) D43_47 ?_
        refine im_iadd (q := 49) D43_48 ?_
        refine im_goto (q := 52) (t := 53) D43_49 rfl ?_
        exact (kJ23 ((p1 + 1)) (Or.inr ⟨hc20, rfl⟩)).wk ⟨rfl, rfl, rfl, trivial⟩
    refine im_ifc (q := 20) (t := 27) D43_17 rfl hg13 (fun hc14 => ?_) (fun hc14 => ?_)
    · refine im_ld (q := 28) (i := 3) D43_27 rfl rfl rfl ?_
      refine im_bipush (q := 30) D43_28 rfl ?_
      refine im_icmp (q := 33) (t := 37) D43_30 rfl (im_b32 hr6) (by decide) (fun hc15 => ?_) (fun hc15 => ?_)
      · refine im_iconst (q := 38) D43_37 ?_
        exact (kJ18 (0) (Or.inl ⟨hc14, hc15, rfl⟩)).wk ⟨rfl, rfl, rfl, trivial⟩
      · refine im_iconst (q := 34) D43_33 ?_
        refine im_goto (q := 37) (t := 38) D43_34 rfl ?_
        exact (kJ18 (1) (Or.inr ⟨hc14, (Decidable.not_not.mp hc15), rfl⟩)).wk ⟨rfl, rfl, rfl, trivial⟩
    · replace hP := hP hc14
      refine im_ld (q := 21) (i := 0) D43_20 rfl rfl rfl ?_
      refine im_ld (q := 22) (i := 1) D43_21 rfl rfl rfl ?_
      refine im_ld (q := 23) (i := 2) D43_22 rfl rfl rfl ?_
      refine im_callV (q := 26) (kd := 1) (y := 45) (n := 2) (ci := 6) (a := 2) (vs := [.ref 2, vI p1, vI p2]) (r := []) (L2 := [some (.ref 2), some (vI p1), some (vI p2), none, none, none]) D43_23 (im_cal cn_43 cl_6_76) (Or.inl rfl) rfl sf_2 rfl rfl rfl rfl hd ⟨rfl, rfl, rfl, trivial⟩ ?_
      refine hP.mono ?_
      rintro _ e49 M47 ⟨x48, rfl, rfl, hP⟩
      refine im_bkS ?_
      exact im_iret (q := 27) D43_26 rfl hP
set_option maxRecDepth 20000 in
set_option maxHeartbeats 4000000 in
theorem k_Reader_isDigit_0 {g : im_g} {d : Nat} {e : im_E} {M : im_M} {K : im_K} {p0 : Int} (hP : (im_i32 p0) ∧ ((((48 ≤ p0 → ((p0 ≤ 57 → K (.inl (some (vI 1))) e M))))) ∧ ((((p0 < 48)) ∨ ((48 ≤ p0) ∧ (57 < p0))) → K (.inl (some (vI 0))) e M))) : im_T g d 44 0 [some (vI p0)] [] e M K := by
  refine im_ld (q := 1) (i := 0) D44_0 rfl rfl rfl ?_
  refine im_bipush (q := 3) D44_1 rfl ?_
  obtain ⟨hg1, hP⟩ := hP
  obtain ⟨hP, hJ4⟩ := hP
  have kJ5 : (((p0 < 48)) ∨ ((48 ≤ p0) ∧ (57 < p0))) → im_T g d 44 16 [none] [] e M K := by
    intro  hx6
    have hP := hJ4  hx6
    refine im_iconst (q := 17) D44_16 ?_
    exact im_zret (q := 18) D44_17 rfl (by decide) hP
  refine im_icmp (q := 6) (t := 16) D44_3 rfl hg1 (by decide) (fun hc2 => ?_) (fun hc2 => ?_)
  · exact (kJ5  (Or.inl hc2)).wk trivial
  · replace hP := hP (Int.not_lt.mp hc2)
    refine im_ld (q := 7) (i := 0) D44_6 rfl rfl rfl ?_
    refine im_bipush (q := 9) D44_7 rfl ?_
    refine im_icmp (q := 12) (t := 16) D44_9 rfl hg1 (by decide) (fun hc3 => ?_) (fun hc3 => ?_)
    · exact (kJ5  (Or.inr ⟨(Int.not_lt.mp hc2), hc3⟩)).wk trivial
    · replace hP := hP (Int.not_lt.mp hc3)
      refine im_iconst (q := 13) D44_12 ?_
      refine im_goto (q := 16) (t := 17) D44_13 rfl ?_
      exact im_zret (q := 18) D44_17 rfl (by decide) hP
set_option maxRecDepth 20000 in
set_option maxHeartbeats 4000000 in
theorem k_Reader_numberType_0 {g : im_g} {d : Nat} {e : im_E} {M : im_M} {K : im_K} {p1 p2 : Int} (hP : ∃ b1 : Nat, ((M 2 1) = (b1 : Int)) ∧ ∃ n4 : Nat, ((im_sh0 ++ e)[b1]? = some (0, n4, []) ∧ n4 ≤ 2147483647) ∧ (0 ≤ p1 ∧ p1 < n4) ∧ ((∀ x8 : Int, (((¬ (M b1 p1) = 45) ∧ x8 = 0) ∨ (((M b1 p1) = 45) ∧ x8 = 1)) → ((∀ x13 : Int, (((x8 = 0) ∧ x13 = p1) ∨ ((¬ x8 = 0) ∧ x13 = (p1 + 1))) → (im_i32 x13) ∧ (im_i32 p2) ∧ ((x13 < p2 → im_T g d 45 42 [some (.ref 2), none, some (vI p2), some (vI x8), some (vI x13), some (vI x13)] [] e M K) ∧ (p2 ≤ x13 → K (.inl (some (vI (-1)))) e M))))))) : im_T g d 45 0 [some (.ref 2), some (vI p1), some (vI p2), none, none, none] [] e M K := by
  refine im_ld (q := 1) (i := 0) D45_0 rfl rfl rfl ?_
  obtain ⟨b1, hb2, hP⟩ := hP
  obtain ⟨n4, hb3, hP⟩ := hP
  refine im_gfD (q := 4) D45_1 (im_fl cn_45 fl_6_15) sf_2 rfl rfl tR_6_1 rfl hb2 ?_
  refine im_ld (q := 5) (i := 1) D45_4 rfl rfl rfl ?_
  obtain ⟨hg5, hP⟩ := hP
  refine im_rng (j := p1) hb3.1 hg5.1 hg5.2 (fun hr6 => ?_)
  refine im_bald (q := 6) D45_5 hb3.1 (Or.inl rfl) hg5.1 hg5.2 hb3.2 rfl ?_
  refine im_bipush (q := 8) D45_6 rfl ?_
  have hJ9 := hP
  have kJ10 : ∀ x8 : Int, (((¬ (M b1 p1) = 45) ∧ x8 = 0) ∨ (((M b1 p1) = 45) ∧ x8 = 1)) → im_T g d 45 16 [some (.ref 2), some (vI p1), some (vI p2), none, none, none] [vI x8] e M K := by
    intro x8 hx11
    have hP := hJ9 x8 hx11
    refine im_st1 (q := 17) (i := 3) (L' := [some (.ref 2), some (vI p1), some (vI p2), some (vI x8), none, none]) D45_16 (Or.inl ⟨_, rfl, rfl⟩) (Nat.le_of_ble_eq_true rfl) rfl ?_
    refine im_ld (q := 18) (i := 3) D45_17 rfl rfl rfl ?_
    have hJ14 := hP
    have kJ15 : ∀ x13 : Int, (((x8 = 0) ∧ x13 = p1) ∨ ((¬ x8 = 0) ∧ x13 = (p1 + 1))) → im_T g d 45 28 [some (.ref 2), none, some (vI p2), some (vI x8), none, none] [vI x13] e M K := by
      intro x13 hx16
      have hP := hJ14 x13 hx16
      refine im_st1 (q := 30) (i := 4) (L' := [some (.ref 2), none, some (vI p2), some (vI x8), some (vI x13), none]) D45_28 (Or.inr rfl) (Nat.le_of_ble_eq_true rfl) rfl ?_
      refine im_ld (q := 32) (i := 4) D45_30 rfl rfl rfl ?_
      refine im_ld (q := 33) (i := 2) D45_32 rfl rfl rfl ?_
      obtain ⟨hg17, hP⟩ := hP
      obtain ⟨hg18, hP⟩ := hP
      refine im_icmp (q := 36) (t := 38) D45_33 rfl hg17 hg18 (fun hc19 => ?_) (fun hc19 => ?_)
      · replace hP := hP.1 hc19
        refine im_ld (q := 40) (i := 4) D45_38 rfl rfl rfl ?_
        refine im_st1 (q := 42) (i := 5) (L' := [some (.ref 2), none, some (vI p2), some (vI x8), some (vI x13), some (vI x13)]) D45_40 (Or.inr rfl) (Nat.le_of_ble_eq_true rfl) rfl ?_
        exact hP.wk ⟨rfl, rfl, rfl, rfl, rfl, trivial⟩
      · replace hP := hP.2 (Int.not_lt.mp hc19)
        refine im_iconst (q := 37) D45_36 ?_
        exact im_iret (q := 38) D45_37 rfl hP
    refine im_ifc (q := 21) (t := 27) D45_18 rfl (by clear hP; omega) (fun hc12 => ?_) (fun hc12 => ?_)
    · refine im_ld (q := 28) (i := 1) D45_27 rfl rfl rfl ?_
      exact (kJ15 (p1) (Or.inl ⟨hc12, rfl⟩)).wk ⟨rfl, rfl, rfl, trivial⟩
    · refine im_ld (q := 22) (i := 1) D45_21 rfl rfl rfl ?_
      refine im_iconst (q := 23) D45_22 ?_
      refine im_iadd (q := 24) D45_23 ?_
      refine im_goto (q := 27) (t := 28) D45_24 rfl ?_
      exact (kJ15 ((p1 + 1)) (Or.inr ⟨hc12, rfl⟩)).wk ⟨rfl, rfl, rfl, trivial⟩
  refine im_icmp (q := 11) (t := 15) D45_8 rfl (im_b32 hr6) (by decide) (fun hc7 => ?_) (fun hc7 => ?_)
  · refine im_iconst (q := 16) D45_15 ?_
    exact (kJ10 (0) (Or.inl ⟨hc7, rfl⟩)).wk ⟨rfl, rfl, rfl, trivial⟩
  · refine im_iconst (q := 12) D45_11 ?_
    refine im_goto (q := 15) (t := 16) D45_12 rfl ?_
    exact (kJ10 (1) (Or.inr ⟨(Decidable.not_not.mp hc7), rfl⟩)).wk ⟨rfl, rfl, rfl, trivial⟩
set_option maxRecDepth 20000 in
set_option maxHeartbeats 4000000 in
theorem k_Reader_numberType_42 {g : im_g} {d : Nat} {e : im_E} {M : im_M} {K : im_K} {p2 p3 p4 p5 : Int} (hd : 1 ≤ d) (hP : (im_i32 p5) ∧ (im_i32 p2) ∧ ((p2 ≤ p5 → im_T g d 45 69 [some (.ref 2), none, some (vI p2), some (vI p3), some (vI p4), none] [] e M K) ∧ (p5 < p2 → ∃ b4 : Nat, ((M 2 1) = (b4 : Int)) ∧ ∃ n7 : Nat, ((im_sh0 ++ e)[b4]? = some (0, n7, []) ∧ n7 ≤ 2147483647) ∧ (0 ≤ p5 ∧ p5 < n7) ∧ im_T g (d - 1) 44 0 [some (vI (M b4 p5))] [] e M (im_ri (fun x11 e_ M10 => e = e_ ∧ (im_i32 x11) ∧ ((¬ x11 = 0 → im_T g d 45 42 [some (.ref 2), none, some (vI p2), some (vI p3), some (vI p4), some (vI (p5 + 1))] [] e M10 K) ∧ (x11 = 0 → K (.inl (some (vI (-1)))) e M10))))))) : im_T g d 45 42 [some (.ref 2), none, some (vI p2), some (vI p3), some (vI p4), some (vI p5)] [] e M K := by
  refine im_ld (q := 44) (i := 5) D45_42 rfl rfl rfl ?_
  refine im_ld (q := 45) (i := 2) D45_44 rfl rfl rfl ?_
  obtain ⟨hg1, hP⟩ := hP
  obtain ⟨hg2, hP⟩ := hP
  refine im_icmp (q := 48) (t := 69) D45_45 rfl hg1 hg2 (fun hc3 => ?_) (fun hc3 => ?_)
  · replace hP := hP.1 hc3
    exact hP.wk ⟨rfl, rfl, rfl, rfl, trivial⟩
  · replace hP := hP.2 (Int.not_le.mp hc3)
    refine im_ld (q := 49) (i := 0) D45_48 rfl rfl rfl ?_
    obtain ⟨b4, hb5, hP⟩ := hP
    obtain ⟨n7, hb6, hP⟩ := hP
    refine im_gfD (q := 52) D45_49 (im_fl cn_45 fl_6_15) sf_2 rfl rfl tR_6_1 rfl hb5 ?_
    refine im_ld (q := 54) (i := 5) D45_52 rfl rfl rfl ?_
    obtain ⟨hg8, hP⟩ := hP
    refine im_rng (j := p5) hb6.1 hg8.1 hg8.2 (fun hr9 => ?_)
    refine im_bald (q := 55) D45_54 hb6.1 (Or.inl rfl) hg8.1 hg8.2 hb6.2 rfl ?_
    refine im_callS (q := 58) (kd := 0) (y := 44) (n := 1) (z := 6) (vs := [vI (M b4 p5)]) (r := []) (L2 := [some (vI (M b4 p5))]) D45_55 rfl (im_cal cn_45 cl_6_73) (Or.inl rfl) rfl rfl rfl rfl rfl hd ⟨rfl, trivial⟩ ?_
    refine hP.mono ?_
    rintro _ e14 M10 ⟨x11, rfl, rfl, hP⟩
    refine im_bkS ?_
    obtain ⟨hg12, hP⟩ := hP
    refine im_ifc (q := 61) (t := 63) D45_58 rfl hg12 (fun hc13 => ?_) (fun hc13 => ?_)
    · replace hP := hP.1 hc13
      refine im_iinc (q := 66) (i := 5) (L' := [some (.ref 2), none, some (vI p2), some (vI p3), some (vI p4), some (vI (p5 + 1))]) D45_63 rfl (Nat.le_of_ble_eq_true rfl) rfl ?_
      refine im_goto (q := 69) (t := 42) D45_66 rfl ?_
      exact hP.wk ⟨rfl, rfl, rfl, rfl, rfl, trivial⟩
    · replace hP := hP.2 (Decidable.not_not.mp hc13)
      refine im_iconst (q := 62) D45_61 ?_
      exact im_iret (q := 63) D45_62 rfl hP
set_option maxRecDepth 20000 in
set_option maxHeartbeats 4000000 in
theorem k_Reader_numberType_69 {g : im_g} {d : Nat} {e : im_E} {M : im_M} {K : im_K} {p2 p3 p4 : Int} (hd : 1 ≤ d) (hP : (im_i32 p4) ∧ (im_i32 p2) ∧ ((p2 ≤ p4 → (im_i32 (p2 - p4)) ∧ (((p2 - p4) ≤ 300 → ∃ b6 : Nat, ((M 2 1) = (b6 : Int)) ∧ ∃ n9 : Nat, ((im_sh0 ++ e)[b6]? = some (0, n9, []) ∧ n9 ≤ 2147483647) ∧ im_T g (d - 1) 46 0 [some (.ref 5), some (.ref b6), some (vI p4), some (vI p2), some (vI p3), none, none, none] [] e M (im_r0 (fun  e_ M10 => e = e_ ∧ K (.inl (some (vI 34))) e M10))) ∧ (300 < (p2 - p4) → K (.inl (some (vI (-2)))) e M))) ∧ (p4 < p2 → ∃ b12 : Nat, ((M 2 1) = (b12 : Int)) ∧ ∃ n15 : Nat, ((im_sh0 ++ e)[b12]? = some (0, n15, []) ∧ n15 ≤ 2147483647) ∧ (0 ≤ p4 ∧ p4 < n15) ∧ ((¬ (M b12 p4) = 48 → (im_i32 (p2 - p4)) ∧ (((p2 - p4) ≤ 300 → ∃ b21 : Nat, ((M 2 1) = (b21 : Int)) ∧ ∃ n24 : Nat, ((im_sh0 ++ e)[b21]? = some (0, n24, []) ∧ n24 ≤ 2147483647) ∧ im_T g (d - 1) 46 0 [some (.ref 5), some (.ref b21), some (vI p4), some (vI p2), some (vI p3), none, none, none] [] e M (im_r0 (fun  e_ M25 => e = e_ ∧ K (.inl (some (vI 34))) e M25))) ∧ (300 < (p2 - p4) → K (.inl (some (vI (-2)))) e M))) ∧ ((M b12 p4) = 48 → im_T g d 45 69 [some (.ref 2), none, some (vI p2), some (vI p3), some (vI (p4 + 1)), none] [] e M K))))) : im_T g d 45 69 [some (.ref 2), none, some (vI p2), some (vI p3), some (vI p4), none] [] e M K := by
  refine im_ld (q := 71) (i := 4) D45_69 rfl rfl rfl ?_
  refine im_ld (q := 72) (i := 2) D45_71 rfl rfl rfl ?_
  obtain ⟨hg1, hP⟩ := hP
  obtain ⟨hg2, hP⟩ := hP
  refine im_icmp (q := 75) (t := 93) D45_72 rfl hg1 hg2 (fun hc3 => ?_) (fun hc3 => ?_)
  · replace hP := hP.1 hc3
    refine im_ld (q := 94) (i := 2) D45_93 rfl rfl rfl ?_
    refine im_ld (q := 96) (i := 4) D45_94 rfl rfl rfl ?_
    refine im_isub (q := 97) D45_96 ?_
    refine im_sipush (q := 100) D45_97 rfl ?_
    obtain ⟨hg4, hP⟩ := hP
    refine im_icmp (q := 103) (t := 106) D45_100 rfl hg4 (by decide) (fun hc5 => ?_) (fun hc5 => ?_)
    · replace hP := hP.1 hc5
      refine im_ld (q := 107) (i := 0) D45_106 rfl rfl rfl ?_
      refine im_gfR (q := 110) (b := 5) D45_107 (im_fl cn_45 fl_6_22) sf_2 rfl rfl tR_6_7 rfl ?_
      refine im_ld (q := 111) (i := 0) D45_110 rfl rfl rfl ?_
      obtain ⟨b6, hb7, hP⟩ := hP
      obtain ⟨n9, hb8, hP⟩ := hP
      refine im_gfD (q := 114) D45_111 (im_fl cn_45 fl_6_15) sf_2 rfl rfl tR_6_1 rfl hb7 ?_
      refine im_ld (q := 116) (i := 4) D45_114 rfl rfl rfl ?_
      refine im_ld (q := 117) (i := 2) D45_116 rfl rfl rfl ?_
      refine im_ld (q := 118) (i := 3) D45_117 rfl rfl rfl ?_
      refine im_callV (q := 121) (kd := 1) (y := 46) (n := 4) (ci := 3) (a := 5) (vs := [.ref 5, .ref b6, vI p4, vI p2, vI p3]) (r := []) (L2 := [some (.ref 5), some (.ref b6), some (vI p4), some (vI p2), some (vI p3), none, none, none]) D45_118 (im_cal cn_45 cl_6_91) (Or.inl rfl) rfl sf_5 rfl rfl rfl rfl hd ⟨rfl, rfl, rfl, rfl, rfl, trivial⟩ ?_
      refine hP.mono ?_
      rintro _ e11 M10 ⟨rfl, rfl, hP⟩
      refine im_bkN ?_
      refine im_bipush (q := 123) D45_121 rfl ?_
      exact im_iret (q := 124) D45_123 rfl hP
    · replace hP := hP.2 (Int.not_le.mp hc5)
      refine im_bipush (q := 105) D45_103 rfl ?_
      exact im_iret (q := 106) D45_105 rfl hP
  · replace hP := hP.2 (Int.not_le.mp hc3)
    refine im_ld (q := 76) (i := 0) D45_75 rfl rfl rfl ?_
    obtain ⟨b12, hb13, hP⟩ := hP
    obtain ⟨n15, hb14, hP⟩ := hP
    refine im_gfD (q := 79) D45_76 (im_fl cn_45 fl_6_15) sf_2 rfl rfl tR_6_1 rfl hb13 ?_
    refine im_ld (q := 81) (i := 4) D45_79 rfl rfl rfl ?_
    obtain ⟨hg16, hP⟩ := hP
    refine im_rng (j := p4) hb14.1 hg16.1 hg16.2 (fun hr17 => ?_)
    refine im_bald (q := 82) D45_81 hb14.1 (Or.inl rfl) hg16.1 hg16.2 hb14.2 rfl ?_
    refine im_bipush (q := 84) D45_82 rfl ?_
    refine im_icmp (q := 87) (t := 93) D45_84 rfl (im_b32 hr17) (by decide) (fun hc18 => ?_) (fun hc18 => ?_)
    · replace hP := hP.1 hc18
      refine im_ld (q := 94) (i := 2) D45_93 rfl rfl rfl ?_
      refine im_ld (q := 96) (i := 4) D45_94 rfl rfl rfl ?_
      refine im_isub (q := 97) D45_96 ?_
      refine im_sipush (q := 100) D45_97 rfl ?_
      obtain ⟨hg19, hP⟩ := hP
      refine im_icmp (q := 103) (t := 106) D45_100 rfl hg19 (by decide) (fun hc20 => ?_) (fun hc20 => ?_)
      · replace hP := hP.1 hc20
        refine im_ld (q := 107) (i := 0) D45_106 rfl rfl rfl ?_
        refine im_gfR (q := 110) (b := 5) D45_107 (im_fl cn_45 fl_6_22) sf_2 rfl rfl tR_6_7 rfl ?_
        refine im_ld (q := 111) (i := 0) D45_110 rfl rfl rfl ?_
        obtain ⟨b21, hb22, hP⟩ := hP
        obtain ⟨n24, hb23, hP⟩ := hP
        refine im_gfD (q := 114) D45_111 (im_fl cn_45 fl_6_15) sf_2 rfl rfl tR_6_1 rfl hb22 ?_
        refine im_ld (q := 116) (i := 4) D45_114 rfl rfl rfl ?_
        refine im_ld (q := 117) (i := 2) D45_116 rfl rfl rfl ?_
        refine im_ld (q := 118) (i := 3) D45_117 rfl rfl rfl ?_
        refine im_callV (q := 121) (kd := 1) (y := 46) (n := 4) (ci := 3) (a := 5) (vs := [.ref 5, .ref b21, vI p4, vI p2, vI p3]) (r := []) (L2 := [some (.ref 5), some (.ref b21), some (vI p4), some (vI p2), some (vI p3), none, none, none]) D45_118 (im_cal cn_45 cl_6_91) (Or.inl rfl) rfl sf_5 rfl rfl rfl rfl hd ⟨rfl, rfl, rfl, rfl, rfl, trivial⟩ ?_
        refine hP.mono ?_
        rintro _ e26 M25 ⟨rfl, rfl, hP⟩
        refine im_bkN ?_
        refine im_bipush (q := 123) D45_121 rfl ?_
        exact im_iret (q := 124) D45_123 rfl hP
      · replace hP := hP.2 (Int.not_le.mp hc20)
        refine im_bipush (q := 105) D45_103 rfl ?_
        exact im_iret (q := 106) D45_105 rfl hP
    · replace hP := hP.2 (Decidable.not_not.mp hc18)
      refine im_iinc (q := 90) (i := 4) (L' := [some (.ref 2), none, some (vI p2), some (vI p3), some (vI (p4 + 1)), none]) D45_87 rfl (Nat.le_of_ble_eq_true rfl) rfl ?_
      refine im_goto (q := 93) (t := 69) D45_90 rfl ?_
      exact hP.wk ⟨rfl, rfl, rfl, rfl, trivial⟩
set_option maxRecDepth 20000 in
set_option maxHeartbeats 4000000 in
theorem k_Num_setDigits_0 {g : im_g} {d : Nat} {e : im_E} {M : im_M} {K : im_K} {p2 p3 p4 : Int} {a0 : Nat} (ha0 : im_num e a0) {p1 n1 : Nat} (hs1 : (im_sh0 ++ e)[p1]? = some (0, n1, [])) (hn1 : n1 ≤ 2147483647) (hP : im_T g d 46 8 [some (.ref a0), some (.ref p1), some (vI p2), none, some (vI p4), some (vI p3), none, none] [] e (im_u M a0 1 0) K) : im_T g d 46 0 [some (.ref a0), some (.ref p1), some (vI p2), some (vI p3), some (vI p4), none, none, none] [] e M K := by
  refine im_ld (q := 1) (i := 0) D46_0 rfl rfl rfl ?_
  refine im_iconst (q := 2) D46_1 ?_
  refine im_pfI (q := 5) D46_2 (im_fl cn_46 fl_3_19) ha0.1 rfl rfl ti_3_1 (by decide) ?_
  refine im_ld (q := 6) (i := 3) D46_5 rfl rfl rfl ?_
  refine im_st1 (q := 8) (i := 5) (L' := [some (.ref a0), some (.ref p1), some (vI p2), some (vI p3), some (vI p4), some (vI p3), none, none]) D46_6 (Or.inr rfl) (Nat.le_of_ble_eq_true rfl) rfl ?_
  exact hP.wk ⟨rfl, rfl, rfl, rfl, rfl, trivial⟩
set_option maxRecDepth 20000 in
set_option maxHeartbeats 4000000 in
theorem k_Num_setDigits_8 {g : im_g} {d : Nat} {e : im_E} {M : im_M} {K : im_K} {p2 p4 p5 : Int} {a0 : Nat} (ha0 : im_num e a0) {p1 n1 : Nat} (hs1 : (im_sh0 ++ e)[p1]? = some (0, n1, [])) (hn1 : n1 ≤ 2147483647) (hP : (im_i32 p5) ∧ (im_i32 p2) ∧ ((((p2 < p5 → (((M a0 1) < 34 → (im_i32 (p5 - 9)) ∧ im_T g d 46 37 [some (.ref a0), some (.ref p1), some (vI p2), none, some (vI p4), some (vI p5), some (vI 0), some (vI (max p2 (p5 - 9)))] [] e M K))))) ∧ ((((p5 ≤ p2)) ∨ ((p2 < p5) ∧ (34 ≤ (M a0 1)))) → ((((¬ (M a0 1) = 0 → (im_i32 p4)))) ∧ (∀ x13 : Int, (((¬ (M a0 1) = 0) ∧ (p4 = 0) ∧ x13 = 1) ∨ ((¬ (M a0 1) = 0) ∧ (¬ p4 = 0) ∧ x13 = (-1)) ∨ (((M a0 1) = 0) ∧ x13 = 0)) → K (.inl none) e (im_u M a0 0 x13)))))) : im_T g d 46 8 [some (.ref a0), some (.ref p1), some (vI p2), none, some (vI p4), some (vI p5), none, none] [] e M K := by
  refine im_ld (q := 10) (i := 5) D46_8 rfl rfl rfl ?_
  refine im_ld (q := 11) (i := 2) D46_10 rfl rfl rfl ?_
  obtain ⟨hg1, hP⟩ := hP
  obtain ⟨hg2, hP⟩ := hP
  obtain ⟨hP, hJ6⟩ := hP
  have kJ7 : (((p5 ≤ p2)) ∨ ((p2 < p5) ∧ (34 ≤ (M a0 1)))) → im_T g d 46 92 [some (.ref a0), none, none, none, some (vI p4), none, none, none] [] e M K := by
    intro  hx8
    have hP := hJ6  hx8
    refine im_ld (q := 93) (i := 0) D46_92 rfl rfl rfl ?_
    refine im_ld (q := 94) (i := 0) D46_93 rfl rfl rfl ?_
    refine im_rng (j := 1) ha0.1 (by decide) (show (1 : Int) < ((3 : Nat) : Int) by decide) (fun hr9 => ?_)
    refine im_gfI (q := 97) D46_94 (im_fl cn_46 fl_3_19) ha0.1 rfl rfl tI_3_1 rfl ?_
    obtain ⟨hP, hJ14⟩ := hP
    have kJ15 : ∀ x13 : Int, (((¬ (M a0 1) = 0) ∧ (p4 = 0) ∧ x13 = 1) ∨ ((¬ (M a0 1) = 0) ∧ (¬ p4 = 0) ∧ x13 = (-1)) ∨ (((M a0 1) = 0) ∧ x13 = 0)) → im_T g d 46 114 [none, none, none, none, none, none, none, none] [vI x13, .ref a0] e M K := by
      intro x13 hx16
      have hP := hJ14 x13 hx16
      refine im_pfI (q := 117) D46_114 (im_fl cn_46 fl_3_15) ha0.1 rfl rfl ti_3_0 (by clear hP; omega) ?_
      exact im_vret (q := 118) D46_117 rfl hP
    refine im_ifc (q := 100) (t := 104) D46_97 rfl hr9 (fun hc10 => ?_) (fun hc10 => ?_)
    · replace hP := hP hc10
      refine im_ld (q := 106) (i := 4) D46_104 rfl rfl rfl ?_
      have hg11 := hP
      refine im_ifc (q := 109) (t := 113) D46_106 rfl hg11 (fun hc12 => ?_) (fun hc12 => ?_)
      · refine im_iconst (q := 114) D46_113 ?_
        exact (kJ15 (1) (Or.inl ⟨hc10, hc12, rfl⟩)).wk trivial
      · refine im_iconst (q := 110) D46_109 ?_
        refine im_goto (q := 113) (t := 114) D46_110 rfl ?_
        exact (kJ15 ((-1)) (Or.inr (Or.inl ⟨hc10, hc12, rfl⟩))).wk trivial
    · refine im_iconst (q := 101) D46_100 ?_
      refine im_goto (q := 104) (t := 114) D46_101 rfl ?_
      exact (kJ15 (0) (Or.inr (Or.inr ⟨(Decidable.not_not.mp hc10), rfl⟩))).wk trivial
  refine im_icmp (q := 14) (t := 92) D46_11 rfl hg1 hg2 (fun hc3 => ?_) (fun hc3 => ?_)
  · exact (kJ7  (Or.inl hc3)).wk ⟨rfl, rfl, trivial⟩
  · replace hP := hP (Int.not_le.mp hc3)
    refine im_ld (q := 15) (i := 0) D46_14 rfl rfl rfl ?_
    refine im_rng (j := 1) ha0.1 (by decide) (show (1 : Int) < ((3 : Nat) : Int) by decide) (fun hr4 => ?_)
    refine im_gfI (q := 18) D46_15 (im_fl cn_46 fl_3_19) ha0.1 rfl rfl tI_3_1 rfl ?_
    refine im_bipush (q := 20) D46_18 rfl ?_
    refine im_icmp (q := 23) (t := 92) D46_20 rfl hr4 (by decide) (fun hc5 => ?_) (fun hc5 => ?_)
    · exact (kJ7  (Or.inr ⟨(Int.not_le.mp hc3), hc5⟩)).wk ⟨rfl, rfl, trivial⟩
    · replace hP := hP (Int.not_le.mp hc5)
      refine im_iconst (q := 24) D46_23 ?_
      refine im_st1 (q := 26) (i := 6) (L' := [some (.ref a0), some (.ref p1), some (vI p2), none, some (vI p4), some (vI p5), some (vI 0), none]) D46_24 (Or.inr rfl) (Nat.le_of_ble_eq_true rfl) rfl ?_
      refine im_ld (q := 27) (i := 2) D46_26 rfl rfl rfl ?_
      refine im_ld (q := 29) (i := 5) D46_27 rfl rfl rfl ?_
      refine im_bipush (q := 31) D46_29 rfl ?_
      refine im_isub (q := 32) D46_31 ?_
      obtain ⟨hg17, hP⟩ := hP
      refine im_imax (q := 35) D46_32 rfl hg2 hg17 rfl ?_
      refine im_st1 (q := 37) (i := 7) (L' := [some (.ref a0), some (.ref p1), some (vI p2), none, some (vI p4), some (vI p5), some (vI 0), some (vI (max p2 (p5 - 9)))]) D46_35 (Or.inr rfl) (Nat.le_of_ble_eq_true rfl) rfl ?_
      exact hP.wk ⟨rfl, rfl, rfl, rfl, rfl, rfl, rfl, trivial⟩
set_option maxRecDepth 20000 in
set_option maxHeartbeats 4000000 in
theorem k_Num_setDigits_37 {g : im_g} {d : Nat} {e : im_E} {M : im_M} {K : im_K} {p2 p4 p5 p6 p7 : Int} {a0 : Nat} (ha0 : im_num e a0) {p1 n1 : Nat} (hs1 : (im_sh0 ++ e)[p1]? = some (0, n1, [])) (hn1 : n1 ≤ 2147483647) (hP : (im_i32 p7) ∧ (im_i32 p5) ∧ ((p5 ≤ p7 → (0 ≤ (M a0 1) ∧ (M a0 1) < 34) ∧ (im_i32 p6) ∧ (im_i32 (((im_u M (a0 + 1) (M a0 1) p6) a0 1) + 1)) ∧ im_T g d 46 8 [some (.ref a0), some (.ref p1), some (vI p2), none, some (vI p4), some (vI (p5 + (-9))), none, none] [] e (im_u (im_u M (a0 + 1) (M a0 1) p6) a0 1 (((im_u M (a0 + 1) (M a0 1) p6) a0 1) + 1)) K) ∧ (p7 < p5 → (0 ≤ p7 ∧ p7 < n1) ∧ im_T g d 46 37 [some (.ref a0), some (.ref p1), some (vI p2), none, some (vI p4), some (vI p5), some (vI ((p6 * 10) + ((M p1 p7) - 48))), some (vI (p7 + 1))] [] e M K))) : im_T g d 46 37 [some (.ref a0), some (.ref p1), some (vI p2), none, some (vI p4), some (vI p5), some (vI p6), some (vI p7)] [] e M K := by
  refine im_ld (q := 39) (i := 7) D46_37 rfl rfl rfl ?_
  refine im_ld (q := 41) (i := 5) D46_39 rfl rfl rfl ?_
  obtain ⟨hg1, hP⟩ := hP
  obtain ⟨hg2, hP⟩ := hP
  refine im_icmp (q := 44) (t := 65) D46_41 rfl hg1 hg2 (fun hc3 => ?_) (fun hc3 => ?_)
  · replace hP := hP.1 hc3
    refine im_ld (q := 66) (i := 0) D46_65 rfl rfl rfl ?_
    refine im_gfR (q := 69) (b := (a0 + 1)) D46_66 (im_fl cn_46 fl_3_9) ha0.1 rfl rfl tR_3_2 rfl ?_
    refine im_ld (q := 70) (i := 0) D46_69 rfl rfl rfl ?_
    refine im_rng (j := 1) ha0.1 (by decide) (show (1 : Int) < ((3 : Nat) : Int) by decide) (fun hr4 => ?_)
    refine im_gfI (q := 73) D46_70 (im_fl cn_46 fl_3_19) ha0.1 rfl rfl tI_3_1 rfl ?_
    refine im_ld (q := 75) (i := 6) D46_73 rfl rfl rfl ?_
    obtain ⟨hg7, hP⟩ := hP
    obtain ⟨hg8, hP⟩ := hP
    refine im_iast (q := 76) D46_75 ha0.2 hg7.1 hg7.2 (by decide) hg8 ?_
    refine im_ld (q := 77) (i := 0) D46_76 rfl rfl rfl ?_
    refine im_dup (q := 78) D46_77 rfl ?_
    refine im_rng (j := 1) ha0.1 (by decide) (show (1 : Int) < ((3 : Nat) : Int) by decide) (fun hr9 => ?_)
    refine im_gfI (q := 81) D46_78 (im_fl cn_46 fl_3_19) ha0.1 rfl rfl tI_3_1 rfl ?_
    refine im_iconst (q := 82) D46_81 ?_
    refine im_iadd (q := 83) D46_82 ?_
    obtain ⟨hg10, hP⟩ := hP
    refine im_pfI (q := 86) D46_83 (im_fl cn_46 fl_3_19) ha0.1 rfl rfl ti_3_1 hg10 ?_
    refine im_iinc (q := 89) (i := 5) (L' := [some (.ref a0), some (.ref p1), some (vI p2), none, some (vI p4), some (vI (p5 + (-9))), some (vI p6), some (vI p7)]) D46_86 rfl (Nat.le_of_ble_eq_true rfl) rfl ?_
    refine im_goto (q := 92) (t := 8) D46_89 rfl ?_
    exact hP.wk ⟨rfl, rfl, rfl, rfl, rfl, trivial⟩
  · replace hP := hP.2 (Int.not_le.mp hc3)
    refine im_ld (q := 46) (i := 6) D46_44 rfl rfl rfl ?_
    refine im_bipush (q := 48) D46_46 rfl ?_
    refine im_imul (q := 49) D46_48 ?_
    refine im_ld (q := 50) (i := 1) D46_49 rfl rfl rfl ?_
    refine im_ld (q := 52) (i := 7) D46_50 rfl rfl rfl ?_
    obtain ⟨hg5, hP⟩ := hP
    refine im_rng (j := p7) hs1 hg5.1 hg5.2 (fun hr6 => ?_)
    refine im_bald (q := 53) D46_52 hs1 (Or.inl rfl) hg5.1 hg5.2 hn1 rfl ?_
    refine im_bipush (q := 55) D46_53 rfl ?_
    refine im_isub (q := 56) D46_55 ?_
    refine im_iadd (q := 57) D46_56 ?_
    refine im_st1 (q := 59) (i := 6) (L' := [some (.ref a0), some (.ref p1), some (vI p2), none, some (vI p4), some (vI p5), some (vI ((p6 * 10) + ((M p1 p7) - 48))), some (vI p7)]) D46_57 (Or.inr rfl) (Nat.le_of_ble_eq_true rfl) rfl ?_
    refine im_iinc (q := 62) (i := 7) (L' := [some (.ref a0), some (.ref p1), some (vI p2), none, some (vI p4), some (vI p5), some (vI ((p6 * 10) + ((M p1 p7) - 48))), some (vI (p7 + 1))]) D46_59 rfl (Nat.le_of_ble_eq_true rfl) rfl ?_
    refine im_goto (q := 65) (t := 37) D46_62 rfl ?_
    exact hP.wk ⟨rfl, rfl, rfl, rfl, rfl, rfl, rfl, trivial⟩
set_option maxRecDepth 20000 in
set_option maxHeartbeats 4000000 in
theorem k_Reader_pack_0 {g : im_g} {d : Nat} {e : im_E} {M : im_M} {K : im_K} {p1 p2 : Int} (hd : 1 ≤ d) (hP : (im_i32 p1) ∧ (im_i32 p2) ∧ ((((p1 < p2 → (im_i32 (p2 - p1)) ∧ (((p2 - p1) ≤ 8 → ∃ b9 : Nat, ((M 2 1) = (b9 : Int)) ∧ ∃ n12 : Nat, ((im_sh0 ++ e)[b9]? = some (0, n12, []) ∧ n12 ≤ 2147483647) ∧ (0 ≤ p1 ∧ p1 < n12) ∧ im_T g (d - 1) 48 0 [some (vI (M b9 p1))] [] e M (im_ri (fun x16 e_ M15 => e = e_ ∧ (im_i32 x16) ∧ ((¬ x16 = 0 → im_T g d 47 34 [some (.ref 2), none, some (vI p2), some (vI p1)] [] e (im_u M15 2 6 0) K) ∧ (x16 = 0 → K (.inl (some (vI 0))) e M15))))))))) ∧ ((((p2 ≤ p1)) ∨ ((p1 < p2) ∧ (8 < (p2 - p1)))) → K (.inl (some (vI 0))) e M))) : im_T g d 47 0 [some (.ref 2), some (vI p1), some (vI p2), none] [] e M K := by
  refine im_ld (q := 1) (i := 1) D47_0 rfl rfl rfl ?_
  refine im_ld (q := 2) (i := 2) D47_1 rfl rfl rfl ?_
  obtain ⟨hg1, hP⟩ := hP
  obtain ⟨hg2, hP⟩ := hP
  obtain ⟨hP, hJ6⟩ := hP
  have kJ7 : (((p2 ≤ p1)) ∨ ((p1 < p2) ∧ (8 < (p2 - p1)))) → im_T g d 47 25 [none, none, none, none] [] e M K := by
    intro  hx8
    have hP := hJ6  hx8
    refine im_iconst (q := 26) D47_25 ?_
    exact im_zret (q := 27) D47_26 rfl (by decide) hP
  refine im_icmp (q := 5) (t := 25) D47_2 rfl hg1 hg2 (fun hc3 => ?_) (fun hc3 => ?_)
  · exact (kJ7  (Or.inl hc3)).wk trivial
  · replace hP := hP (Int.not_le.mp hc3)
    refine im_ld (q := 6) (i := 2) D47_5 rfl rfl rfl ?_
    refine im_ld (q := 7) (i := 1) D47_6 rfl rfl rfl ?_
    refine im_isub (q := 8) D47_7 ?_
    refine im_bipush (q := 10) D47_8 rfl ?_
    obtain ⟨hg4, hP⟩ := hP
    refine im_icmp (q := 13) (t := 25) D47_10 rfl hg4 (by decide) (fun hc5 => ?_) (fun hc5 => ?_)
    · exact (kJ7  (Or.inr ⟨(Int.not_le.mp hc3), hc5⟩)).wk trivial
    · replace hP := hP (Int.not_lt.mp hc5)
      refine im_ld (q := 14) (i := 0) D47_13 rfl rfl rfl ?_
      obtain ⟨b9, hb10, hP⟩ := hP
      obtain ⟨n12, hb11, hP⟩ := hP
      refine im_gfD (q := 17) D47_14 (im_fl cn_47 fl_6_15) sf_2 rfl rfl tR_6_1 rfl hb10 ?_
      refine im_ld (q := 18) (i := 1) D47_17 rfl rfl rfl ?_
      obtain ⟨hg13, hP⟩ := hP
      refine im_rng (j := p1) hb11.1 hg13.1 hg13.2 (fun hr14 => ?_)
      refine im_bald (q := 19) D47_18 hb11.1 (Or.inl rfl) hg13.1 hg13.2 hb11.2 rfl ?_
      refine im_callS (q := 22) (kd := 0) (y := 48) (n := 1) (z := 6) (vs := [vI (M b9 p1)]) (r := []) (L2 := [some (vI (M b9 p1))]) D47_19 rfl (im_cal cn_47 cl_6_95) (Or.inl rfl) rfl rfl rfl rfl rfl hd ⟨rfl, trivial⟩ ?_
      refine hP.mono ?_
      rintro _ e19 M15 ⟨x16, rfl, rfl, hP⟩
      refine im_bkS ?_
      obtain ⟨hg17, hP⟩ := hP
      refine im_ifc (q := 25) (t := 27) D47_22 rfl hg17 (fun hc18 => ?_) (fun hc18 => ?_)
      · replace hP := hP.1 hc18
        refine im_ld (q := 28) (i := 0) D47_27 rfl rfl rfl ?_
        refine im_lconst (q := 29) (z := 0) D47_28 rfl ?_
        refine im_pfL (q := 32) D47_29 (im_fl cn_47 fl_6_83) sf_2 rfl rfl tl_6_6 (by decide) ?_
        refine im_ld (q := 33) (i := 1) D47_32 rfl rfl rfl ?_
        refine im_st1 (q := 34) (i := 3) (L' := [some (.ref 2), some (vI p1), some (vI p2), some (vI p1)]) D47_33 (Or.inl ⟨_, rfl, rfl⟩) (Nat.le_of_ble_eq_true rfl) rfl ?_
        exact hP.wk ⟨rfl, rfl, rfl, trivial⟩
      · replace hP := hP.2 (Decidable.not_not.mp hc18)
        refine im_iconst (q := 26) D47_25 ?_
        exact im_zret (q := 27) D47_26 rfl (by decide) hP
set_option maxRecDepth 20000 in
set_option maxHeartbeats 4000000 in
theorem k_Reader_pack_34 {g : im_g} {d : Nat} {e : im_E} {M : im_M} {K : im_K} {p2 p3 : Int} (hd : 1 ≤ d) (hP : (im_i32 p3) ∧ (im_i32 p2) ∧ ((p2 ≤ p3 → K (.inl (some (vI 1))) e M) ∧ (p3 < p2 → ∃ b4 : Nat, ((M 2 1) = (b4 : Int)) ∧ ∃ n7 : Nat, ((im_sh0 ++ e)[b4]? = some (0, n7, []) ∧ n7 ≤ 2147483647) ∧ (0 ≤ p3 ∧ p3 < n7) ∧ im_T g (d - 1) 48 0 [some (vI (M b4 p3))] [] e M (im_ri (fun x11 e_ M10 => e = e_ ∧ (im_i32 x11) ∧ ((¬ x11 = 0 → ∃ b15 : Nat, ((M10 2 1) = (b15 : Int)) ∧ ∃ n18 : Nat, ((im_sh0 ++ e)[b15]? = some (0, n18, []) ∧ n18 ≤ 2147483647) ∧ (0 ≤ p3 ∧ p3 < n18) ∧ im_T g d 47 34 [some (.ref 2), none, some (vI p2), some (vI (p3 + 1))] [] e (im_u M10 2 6 (xlor (xlshl (M10 2 6) 8) (M10 b15 p3))) K) ∧ (x11 = 0 → ∃ b21 : Nat, ((M10 2 1) = (b21 : Int)) ∧ ∃ n24 : Nat, ((im_sh0 ++ e)[b21]? = some (0, n24, []) ∧ n24 ≤ 2147483647) ∧ (0 ≤ p3 ∧ p3 < n24) ∧ im_T g (d - 1) 44 0 [some (vI (M10 b21 p3))] [] e M10 (im_ri (fun x28 e_ M27 => e = e_ ∧ (im_i32 x28) ∧ ((¬ x28 = 0 → ∃ b32 : Nat, ((M27 2 1) = (b32 : Int)) ∧ ∃ n35 : Nat, ((im_sh0 ++ e)[b32]? = some (0, n35, []) ∧ n35 ≤ 2147483647) ∧ (0 ≤ p3 ∧ p3 < n35) ∧ im_T g d 47 34 [some (.ref 2), none, some (vI p2), some (vI (p3 + 1))] [] e (im_u M27 2 6 (xlor (xlshl (M27 2 6) 8) (M27 b32 p3))) K) ∧ (x28 = 0 → K (.inl (some (vI 0))) e M27))))))))))) : im_T g d 47 34 [some (.ref 2), none, some (vI p2), some (vI p3)] [] e M K := by
  refine im_ld (q := 35) (i := 3) D47_34 rfl rfl rfl ?_
  refine im_ld (q := 36) (i := 2) D47_35 rfl rfl rfl ?_
  obtain ⟨hg1, hP⟩ := hP
  obtain ⟨hg2, hP⟩ := hP
  refine im_icmp (q := 39) (t := 90) D47_36 rfl hg1 hg2 (fun hc3 => ?_) (fun hc3 => ?_)
  · replace hP := hP.1 hc3
    refine im_iconst (q := 91) D47_90 ?_
    exact im_zret (q := 92) D47_91 rfl (by decide) hP
  · replace hP := hP.2 (Int.not_le.mp hc3)
    refine im_ld (q := 40) (i := 0) D47_39 rfl rfl rfl ?_
    obtain ⟨b4, hb5, hP⟩ := hP
    obtain ⟨n7, hb6, hP⟩ := hP
    refine im_gfD (q := 43) D47_40 (im_fl cn_47 fl_6_15) sf_2 rfl rfl tR_6_1 rfl hb5 ?_
    refine im_ld (q := 44) (i := 3) D47_43 rfl rfl rfl ?_
    obtain ⟨hg8, hP⟩ := hP
    refine im_rng (j := p3) hb6.1 hg8.1 hg8.2 (fun hr9 => ?_)
    refine im_bald (q := 45) D47_44 hb6.1 (Or.inl rfl) hg8.1 hg8.2 hb6.2 rfl ?_
    refine im_callS (q := 48) (kd := 0) (y := 48) (n := 1) (z := 6) (vs := [vI (M b4 p3)]) (r := []) (L2 := [some (vI (M b4 p3))]) D47_45 rfl (im_cal cn_47 cl_6_95) (Or.inl rfl) rfl rfl rfl rfl rfl hd ⟨rfl, trivial⟩ ?_
    refine hP.mono ?_
    rintro _ e39 M10 ⟨x11, rfl, rfl, hP⟩
    refine im_bkS ?_
    obtain ⟨hg12, hP⟩ := hP
    refine im_ifc (q := 51) (t := 65) D47_48 rfl hg12 (fun hc13 => ?_) (fun hc13 => ?_)
    · replace hP := hP.1 hc13
      refine im_ld (q := 66) (i := 0) D47_65 rfl rfl rfl ?_
      refine im_ld (q := 67) (i := 0) D47_66 rfl rfl rfl ?_
      refine im_rng (j := 6) sf_2 (by decide) (by decide) (fun hr14 => ?_)
      refine im_gfL (q := 70) D47_67 (im_fl cn_47 fl_6_83) sf_2 rfl rfl tL_6_6 rfl ?_
      refine im_bipush (q := 72) D47_70 rfl ?_
      refine im_lshl (q := 73) D47_72 ?_
      refine im_ld (q := 74) (i := 0) D47_73 rfl rfl rfl ?_
      obtain ⟨b15, hb16, hP⟩ := hP
      obtain ⟨n18, hb17, hP⟩ := hP
      refine im_gfD (q := 77) D47_74 (im_fl cn_47 fl_6_15) sf_2 rfl rfl tR_6_1 rfl hb16 ?_
      refine im_ld (q := 78) (i := 3) D47_77 rfl rfl rfl ?_
      obtain ⟨hg19, hP⟩ := hP
      refine im_rng (j := p3) hb17.1 hg19.1 hg19.2 (fun hr20 => ?_)
      refine im_bald (q := 79) D47_78 hb17.1 (Or.inl rfl) hg19.1 hg19.2 hb17.2 rfl ?_
      refine im_i2l (q := 80) D47_79 (im_b32 hr20) ?_
      refine im_lor (q := 81) D47_80 ?_
      refine im_pfL (q := 84) D47_81 (im_fl cn_47 fl_6_83) sf_2 rfl rfl tl_6_6 (xlor_r _ _) ?_
      refine im_iinc (q := 87) (i := 3) (L' := [some (.ref 2), none, some (vI p2), some (vI (p3 + 1))]) D47_84 rfl (Nat.le_of_ble_eq_true rfl) rfl ?_
      refine im_goto (q := 90) (t := 34) D47_87 rfl ?_
      exact hP.wk ⟨rfl, rfl, rfl, trivial⟩
    · replace hP := hP.2 (Decidable.not_not.mp hc13)
      refine im_ld (q := 52) (i := 0) D47_51 rfl rfl rfl ?_
      obtain ⟨b21, hb22, hP⟩ := hP
      obtain ⟨n24, hb23, hP⟩ := hP
      refine im_gfD (q := 55) D47_52 (im_fl cn_47 fl_6_15) sf_2 rfl rfl tR_6_1 rfl hb22 ?_
      refine im_ld (q := 56) (i := 3) D47_55 rfl rfl rfl ?_
      obtain ⟨hg25, hP⟩ := hP
      refine im_rng (j := p3) hb23.1 hg25.1 hg25.2 (fun hr26 => ?_)
      refine im_bald (q := 57) D47_56 hb23.1 (Or.inl rfl) hg25.1 hg25.2 hb23.2 rfl ?_
      refine im_callS (q := 60) (kd := 0) (y := 44) (n := 1) (z := 6) (vs := [vI (M10 b21 p3)]) (r := []) (L2 := [some (vI (M10 b21 p3))]) D47_57 rfl (im_cal cn_47 cl_6_73) (Or.inl rfl) rfl rfl rfl rfl rfl hd ⟨rfl, trivial⟩ ?_
      refine hP.mono ?_
      rintro _ e38 M27 ⟨x28, rfl, rfl, hP⟩
      refine im_bkS ?_
      obtain ⟨hg29, hP⟩ := hP
      refine im_ifc (q := 63) (t := 65) D47_60 rfl hg29 (fun hc30 => ?_) (fun hc30 => ?_)
      · replace hP := hP.1 hc30
        refine im_ld (q := 66) (i := 0) D47_65 rfl rfl rfl ?_
        refine im_ld (q := 67) (i := 0) D47_66 rfl rfl rfl ?_
        refine im_rng (j := 6) sf_2 (by decide) (by decide) (fun hr31 => ?_)
        refine im_gfL (q := 70) D47_67 (im_fl cn_47 fl_6_83) sf_2 rfl rfl tL_6_6 rfl ?_
        refine im_bipush (q := 72) D47_70 rfl ?_
        refine im_lshl (q := 73) D47_72 ?_
        refine im_ld (q := 74) (i := 0) D47_73 rfl rfl rfl ?_
        obtain ⟨b32, hb33, hP⟩ := hP
        obtain ⟨n35, hb34, hP⟩ := hP
        refine im_gfD (q := 77) D47_74 (im_fl cn_47 fl_6_15) sf_2 rfl rfl tR_6_1 rfl hb33 ?_
        refine im_ld (q := 78) (i := 3) D47_77 rfl rfl rfl ?_
        obtain ⟨hg36, hP⟩ := hP
        refine im_rng (j := p3) hb34.1 hg36.1 hg36.2 (fun hr37 => ?_)
        refine im_bald (q := 79) D47_78 hb34.1 (Or.inl rfl) hg36.1 hg36.2 hb34.2 rfl ?_
        refine im_i2l (q := 80) D47_79 (im_b32 hr37) ?_
        refine im_lor (q := 81) D47_80 ?_
        refine im_pfL (q := 84) D47_81 (im_fl cn_47 fl_6_83) sf_2 rfl rfl tl_6_6 (xlor_r _ _) ?_
        refine im_iinc (q := 87) (i := 3) (L' := [some (.ref 2), none, some (vI p2), some (vI (p3 + 1))]) D47_84 rfl (Nat.le_of_ble_eq_true rfl) rfl ?_
        refine im_goto (q := 90) (t := 34) D47_87 rfl ?_
        exact hP.wk ⟨rfl, rfl, rfl, trivial⟩
      · replace hP := hP.2 (Decidable.not_not.mp hc30)
        refine im_iconst (q := 64) D47_63 ?_
        exact im_zret (q := 65) D47_64 rfl (by decide) hP
set_option maxRecDepth 20000 in
set_option maxHeartbeats 4000000 in
theorem k_Reader_isLetter_0 {g : im_g} {d : Nat} {e : im_E} {M : im_M} {K : im_K} {p0 : Int} (hP : (im_i32 p0) ∧ ((((97 ≤ p0 → ((p0 ≤ 122 → K (.inl (some (vI 1))) e M))))) ∧ ((((p0 < 97)) ∨ ((97 ≤ p0) ∧ (122 < p0))) → K (.inl (some (vI 0))) e M))) : im_T g d 48 0 [some (vI p0)] [] e M K := by
  refine im_ld (q := 1) (i := 0) D48_0 rfl rfl rfl ?_
  refine im_bipush (q := 3) D48_1 rfl ?_
  obtain ⟨hg1, hP⟩ := hP
  obtain ⟨hP, hJ4⟩ := hP
  have kJ5 : (((p0 < 97)) ∨ ((97 ≤ p0) ∧ (122 < p0))) → im_T g d 48 16 [none] [] e M K := by
    intro  hx6
    have hP := hJ4  hx6
    refine im_iconst (q := 17) D48_16 ?_
    exact im_zret (q := 18) D48_17 rfl (by decide) hP
  refine im_icmp (q := 6) (t := 16) D48_3 rfl hg1 (by decide) (fun hc2 => ?_) (fun hc2 => ?_)
  · exact (kJ5  (Or.inl hc2)).wk trivial
  · replace hP := hP (Int.not_lt.mp hc2)
    refine im_ld (q := 7) (i := 0) D48_6 rfl rfl rfl ?_
    refine im_bipush (q := 9) D48_7 rfl ?_
    refine im_icmp (q := 12) (t := 16) D48_9 rfl hg1 (by decide) (fun hc3 => ?_) (fun hc3 => ?_)
    · exact (kJ5  (Or.inr ⟨(Int.not_lt.mp hc2), hc3⟩)).wk trivial
    · replace hP := hP (Int.not_lt.mp hc3)
      refine im_iconst (q := 13) D48_12 ?_
      refine im_goto (q := 16) (t := 17) D48_13 rfl ?_
      exact im_zret (q := 18) D48_17 rfl (by decide) hP
set_option maxRecDepth 20000 in
set_option maxHeartbeats 4000000 in
theorem k_Reader_keyword_0 {g : im_g} {d : Nat} {e : im_E} {M : im_M} {K : im_K} {p1 : Int} (hP : im_T g d 49 2 [some (.ref 2), some (vL p1), none, some (vI 0)] [] e M K) : im_T g d 49 0 [some (.ref 2), some (vL p1), none, none] [] e M K := by
  refine im_iconst (q := 1) D49_0 ?_
  refine im_st1 (q := 2) (i := 3) (L' := [some (.ref 2), some (vL p1), none, some (vI 0)]) D49_1 (Or.inl ⟨_, rfl, rfl⟩) (Nat.le_of_ble_eq_true rfl) rfl ?_
  exact hP.wk ⟨rfl, rfl, rfl, trivial⟩
set_option maxRecDepth 20000 in
set_option maxHeartbeats 4000000 in
theorem k_Reader_keyword_2 {g : im_g} {d : Nat} {e : im_E} {M : im_M} {K : im_K} {p1 p3 : Int} (hP : (im_i32 p3) ∧ ((34 ≤ p3 → K (.inl (some (vI (-1)))) e M) ∧ (p3 < 34 → (0 ≤ p3 ∧ p3 < 34) ∧ (im_i64 p1) ∧ ((¬ (M 3 p3) = p1 → im_T g d 49 2 [some (.ref 2), some (vL p1), none, some (vI (p3 + 1))] [] e M K) ∧ ((M 3 p3) = p1 → K (.inl (some (vI p3))) e M))))) : im_T g d 49 2 [some (.ref 2), some (vL p1), none, some (vI p3)] [] e M K := by
  refine im_ld (q := 3) (i := 3) D49_2 rfl rfl rfl ?_
  refine im_bipush (q := 5) D49_3 rfl ?_
  obtain ⟨hg1, hP⟩ := hP
  refine im_icmp (q := 8) (t := 27) D49_5 rfl hg1 (by decide) (fun hc2 => ?_) (fun hc2 => ?_)
  · replace hP := hP.1 hc2
    refine im_iconst (q := 28) D49_27 ?_
    exact im_iret (q := 29) D49_28 rfl hP
  · replace hP := hP.2 (Int.not_le.mp hc2)
    refine im_ld (q := 9) (i := 0) D49_8 rfl rfl rfl ?_
    refine im_gfR (q := 12) (b := 3) D49_9 (im_fl cn_49 fl_6_9) sf_2 rfl rfl tR_6_0 rfl ?_
    refine im_ld (q := 13) (i := 3) D49_12 rfl rfl rfl ?_
    obtain ⟨hg3, hP⟩ := hP
    refine im_rng (j := p3) sf_3 hg3.1 hg3.2 (fun hr4 => ?_)
    refine im_lald (q := 14) D49_13 sf_3 hg3.1 hg3.2 (by decide) rfl ?_
    refine im_ld (q := 15) (i := 1) D49_14 rfl rfl rfl ?_
    obtain ⟨hg5, hP⟩ := hP
    refine im_lif (q := 16) (q2 := 19) (t := 21) D49_15 D49_16 rfl hr4 hg5 (fun hc6 => ?_) (fun hc6 => ?_)
    · replace hP := hP.1 hc6
      refine im_iinc (q := 24) (i := 3) (L' := [some (.ref 2), some (vL p1), none, some (vI (p3 + 1))]) D49_21 rfl (Nat.le_of_ble_eq_true rfl) rfl ?_
      refine im_goto (q := 27) (t := 2) D49_24 rfl ?_
      exact hP.wk ⟨rfl, rfl, rfl, trivial⟩
    · replace hP := hP.2 (Decidable.not_not.mp hc6)
      refine im_ld (q := 20) (i := 3) D49_19 rfl rfl rfl ?_
      exact im_iret (q := 21) D49_20 rfl hP
set_option maxRecDepth 20000 in
set_option maxHeartbeats 4000000 in
theorem k_Parser_meet_0 {g : im_g} {d : Nat} {e : im_E} {M : im_M} {K : im_K} {p1 p2 : Int} (hd : 1 ≤ d) (hP : (im_i32 p1) ∧ ((p1 = 99 ∨ p1 = 111 ∨ p1 = 118 → im_T g (d - 1) 51 0 [some (.ref 23), some (vI p1), some (vI p2), none] [] e M (im_ri (fun x3 e_ M2 => e = e_ ∧ K (.inl (some (vI x3))) e M2))) ∧ (p1 = 107 → im_T g (d - 1) 61 0 [some (.ref 23), some (vI p2)] [] e M (im_ri (fun x7 e_ M6 => e = e_ ∧ K (.inl (some (vI x7))) e M6))) ∧ (p1 = 97 → im_T g (d - 1) 62 0 [some (.ref 23), some (vI p2)] [] e M (im_ri (fun x11 e_ M10 => e = e_ ∧ K (.inl (some (vI x11))) e M10))) ∧ (p1 = 116 → im_T g (d - 1) 63 0 [some (.ref 23), some (vI p2)] [] e M (im_ri (fun x15 e_ M14 => e = e_ ∧ K (.inl (some (vI x15))) e M14))) ∧ (p1 = 98 → im_T g (d - 1) 65 0 [some (.ref 23), some (vI p2)] [] e M (im_ri (fun x19 e_ M18 => e = e_ ∧ K (.inl (some (vI x19))) e M18))) ∧ (p1 = 104 → im_T g (d - 1) 67 0 [some (.ref 23), some (vI p2)] [] e M (im_ri (fun x23 e_ M22 => e = e_ ∧ K (.inl (some (vI x23))) e M22))) ∧ (p1 = 41 → im_T g (d - 1) 70 0 [some (.ref 23)] [] e M (im_ri (fun x27 e_ M26 => e = e_ ∧ K (.inl (some (vI x27))) e M26))) ∧ (p1 = 100 → im_T g (d - 1) 71 0 [some (.ref 23), some (vI p2)] [] e M (im_ri (fun x31 e_ M30 => e = e_ ∧ K (.inl (some (vI x31))) e M30))) ∧ (p1 = 91 → im_T g (d - 1) 72 0 [some (.ref 23)] [] e M (im_ri (fun x35 e_ M34 => e = e_ ∧ K (.inl (some (vI x35))) e M34))) ∧ (¬ p1 = 41 ∧ ¬ p1 = 91 ∧ ¬ p1 = 97 ∧ ¬ p1 = 98 ∧ ¬ p1 = 99 ∧ ¬ p1 = 100 ∧ ¬ p1 = 104 ∧ ¬ p1 = 107 ∧ ¬ p1 = 111 ∧ ¬ p1 = 116 ∧ ¬ p1 = 118 → im_T g (d - 1) 73 0 [some (.ref 23), some (vI p1), some (vI p2)] [] e M (im_ri (fun x39 e_ M38 => e = e_ ∧ K (.inl (some (vI x39))) e M38))))) : im_T g d 50 0 [some (.ref 23), some (vI p1), some (vI p2)] [] e M K := by
  refine im_ld (q := 1) (i := 1) D50_0 rfl rfl rfl ?_
  obtain ⟨hg1, hP⟩ := hP
  by_cases hc5 : p1 = 99 ∨ p1 = 111 ∨ p1 = 118
  · refine im_lsw (q := 2) (t := 100) D50_1 hg1 rfl (by rcases hc5 with hc5 | hc5 | hc5 <;> (rw [hc5]; rfl)) ?_
    replace hP := hP.1 hc5
    refine im_ld (q := 101) (i := 0) D50_100 rfl rfl rfl ?_
    refine im_ld (q := 102) (i := 1) D50_101 rfl rfl rfl ?_
    refine im_ld (q := 103) (i := 2) D50_102 rfl rfl rfl ?_
    refine im_callV (q := 106) (kd := 1) (y := 51) (n := 2) (ci := 4) (a := 23) (vs := [.ref 23, vI p1, vI p2]) (r := []) (L2 := [some (.ref 23), some (vI p1), some (vI p2), none]) D50_103 (im_cal cn_50 cl_4_94) (Or.inl rfl) rfl sf_23 rfl rfl rfl rfl hd ⟨rfl, rfl, rfl, trivial⟩ ?_
    refine hP.mono ?_
    rintro _ e4 M2 ⟨x3, rfl, rfl, hP⟩
    refine im_bkS ?_
    exact im_iret (q := 107) D50_106 rfl hP
  by_cases hc9 : p1 = 107
  · refine im_lsw (q := 2) (t := 107) D50_1 hg1 rfl (by rcases hc9 with hc9 <;> (rw [hc9]; rfl)) ?_
    replace hP := hP.2.1 hc9
    refine im_ld (q := 108) (i := 0) D50_107 rfl rfl rfl ?_
    refine im_ld (q := 109) (i := 2) D50_108 rfl rfl rfl ?_
    refine im_callV (q := 112) (kd := 1) (y := 61) (n := 1) (ci := 4) (a := 23) (vs := [.ref 23, vI p2]) (r := []) (L2 := [some (.ref 23), some (vI p2)]) D50_109 (im_cal cn_50 cl_4_97) (Or.inl rfl) rfl sf_23 rfl rfl rfl rfl hd ⟨rfl, rfl, trivial⟩ ?_
    refine hP.mono ?_
    rintro _ e8 M6 ⟨x7, rfl, rfl, hP⟩
    refine im_bkS ?_
    exact im_iret (q := 113) D50_112 rfl hP
  by_cases hc13 : p1 = 97
  · refine im_lsw (q := 2) (t := 113) D50_1 hg1 rfl (by rcases hc13 with hc13 <;> (rw [hc13]; rfl)) ?_
    replace hP := hP.2.2.1 hc13
    refine im_ld (q := 114) (i := 0) D50_113 rfl rfl rfl ?_
    refine im_ld (q := 115) (i := 2) D50_114 rfl rfl rfl ?_
    refine im_callV (q := 118) (kd := 1) (y := 62) (n := 1) (ci := 4) (a := 23) (vs := [.ref 23, vI p2]) (r := []) (L2 := [some (.ref 23), some (vI p2)]) D50_115 (im_cal cn_50 cl_4_101) (Or.inl rfl) rfl sf_23 rfl rfl rfl rfl hd ⟨rfl, rfl, trivial⟩ ?_
    refine hP.mono ?_
    rintro _ e12 M10 ⟨x11, rfl, rfl, hP⟩
    refine im_bkS ?_
    exact im_iret (q := 119) D50_118 rfl hP
  by_cases hc17 : p1 = 116
  · refine im_lsw (q := 2) (t := 119) D50_1 hg1 rfl (by rcases hc17 with hc17 <;> (rw [hc17]; rfl)) ?_
    replace hP := hP.2.2.2.1 hc17
    refine im_ld (q := 120) (i := 0) D50_119 rfl rfl rfl ?_
    refine im_ld (q := 121) (i := 2) D50_120 rfl rfl rfl ?_
    refine im_callV (q := 124) (kd := 1) (y := 63) (n := 1) (ci := 4) (a := 23) (vs := [.ref 23, vI p2]) (r := []) (L2 := [some (.ref 23), some (vI p2)]) D50_121 (im_cal cn_50 cl_4_104) (Or.inl rfl) rfl sf_23 rfl rfl rfl rfl hd ⟨rfl, rfl, trivial⟩ ?_
    refine hP.mono ?_
    rintro _ e16 M14 ⟨x15, rfl, rfl, hP⟩
    refine im_bkS ?_
    exact im_iret (q := 125) D50_124 rfl hP
  by_cases hc21 : p1 = 98
  · refine im_lsw (q := 2) (t := 125) D50_1 hg1 rfl (by rcases hc21 with hc21 <;> (rw [hc21]; rfl)) ?_
    replace hP := hP.2.2.2.2.1 hc21
    refine im_ld (q := 126) (i := 0) D50_125 rfl rfl rfl ?_
    refine im_ld (q := 127) (i := 2) D50_126 rfl rfl rfl ?_
    refine im_callV (q := 130) (kd := 1) (y := 65) (n := 1) (ci := 4) (a := 23) (vs := [.ref 23, vI p2]) (r := []) (L2 := [some (.ref 23), some (vI p2)]) D50_127 (im_cal cn_50 cl_4_107) (Or.inl rfl) rfl sf_23 rfl rfl rfl rfl hd ⟨rfl, rfl, trivial⟩ ?_
    refine hP.mono ?_
    rintro _ e20 M18 ⟨x19, rfl, rfl, hP⟩
    refine im_bkS ?_
    exact im_iret (q := 131) D50_130 rfl hP
  by_cases hc25 : p1 = 104
  · refine im_lsw (q := 2) (t := 131) D50_1 hg1 rfl (by rcases hc25 with hc25 <;> (rw [hc25]; rfl)) ?_
    replace hP := hP.2.2.2.2.2.1 hc25
    refine im_ld (q := 132) (i := 0) D50_131 rfl rfl rfl ?_
    refine im_ld (q := 133) (i := 2) D50_132 rfl rfl rfl ?_
    refine im_callV (q := 136) (kd := 1) (y := 67) (n := 1) (ci := 4) (a := 23) (vs := [.ref 23, vI p2]) (r := []) (L2 := [some (.ref 23), some (vI p2)]) D50_133 (im_cal cn_50 cl_4_110) (Or.inl rfl) rfl sf_23 rfl rfl rfl rfl hd ⟨rfl, rfl, trivial⟩ ?_
    refine hP.mono ?_
    rintro _ e24 M22 ⟨x23, rfl, rfl, hP⟩
    refine im_bkS ?_
    exact im_iret (q := 137) D50_136 rfl hP
  by_cases hc29 : p1 = 41
  · refine im_lsw (q := 2) (t := 137) D50_1 hg1 rfl (by rcases hc29 with hc29 <;> (rw [hc29]; rfl)) ?_
    replace hP := hP.2.2.2.2.2.2.1 hc29
    refine im_ld (q := 138) (i := 0) D50_137 rfl rfl rfl ?_
    refine im_callV (q := 141) (kd := 1) (y := 70) (n := 0) (ci := 4) (a := 23) (vs := [.ref 23]) (r := []) (L2 := [some (.ref 23)]) D50_138 (im_cal cn_50 cl_4_113) (Or.inl rfl) rfl sf_23 rfl rfl rfl rfl hd ⟨rfl, trivial⟩ ?_
    refine hP.mono ?_
    rintro _ e28 M26 ⟨x27, rfl, rfl, hP⟩
    refine im_bkS ?_
    exact im_iret (q := 142) D50_141 rfl hP
  by_cases hc33 : p1 = 100
  · refine im_lsw (q := 2) (t := 142) D50_1 hg1 rfl (by rcases hc33 with hc33 <;> (rw [hc33]; rfl)) ?_
    replace hP := hP.2.2.2.2.2.2.2.1 hc33
    refine im_ld (q := 143) (i := 0) D50_142 rfl rfl rfl ?_
    refine im_ld (q := 144) (i := 2) D50_143 rfl rfl rfl ?_
    refine im_callV (q := 147) (kd := 1) (y := 71) (n := 1) (ci := 4) (a := 23) (vs := [.ref 23, vI p2]) (r := []) (L2 := [some (.ref 23), some (vI p2)]) D50_144 (im_cal cn_50 cl_4_116) (Or.inl rfl) rfl sf_23 rfl rfl rfl rfl hd ⟨rfl, rfl, trivial⟩ ?_
    refine hP.mono ?_
    rintro _ e32 M30 ⟨x31, rfl, rfl, hP⟩
    refine im_bkS ?_
    exact im_iret (q := 148) D50_147 rfl hP
  by_cases hc37 : p1 = 91
  · refine im_lsw (q := 2) (t := 148) D50_1 hg1 rfl (by rcases hc37 with hc37 <;> (rw [hc37]; rfl)) ?_
    replace hP := hP.2.2.2.2.2.2.2.2.1 hc37
    refine im_ld (q := 149) (i := 0) D50_148 rfl rfl rfl ?_
    refine im_callV (q := 152) (kd := 1) (y := 72) (n := 0) (ci := 4) (a := 23) (vs := [.ref 23]) (r := []) (L2 := [some (.ref 23)]) D50_149 (im_cal cn_50 cl_4_119) (Or.inl rfl) rfl sf_23 rfl rfl rfl rfl hd ⟨rfl, trivial⟩ ?_
    refine hP.mono ?_
    rintro _ e36 M34 ⟨x35, rfl, rfl, hP⟩
    refine im_bkS ?_
    exact im_iret (q := 153) D50_152 rfl hP
  have hd41 : ¬ p1 = 41 ∧ ¬ p1 = 91 ∧ ¬ p1 = 97 ∧ ¬ p1 = 98 ∧ ¬ p1 = 99 ∧ ¬ p1 = 100 ∧ ¬ p1 = 104 ∧ ¬ p1 = 107 ∧ ¬ p1 = 111 ∧ ¬ p1 = 116 ∧ ¬ p1 = 118 := by clear hP; omega
  refine im_lsw (q := 2) (t := 153) D50_1 hg1 rfl (by have z9 := hd41; simp [Op.lookupswitch.offset, am_to, z9, eq_comm]) ?_
  replace hP := hP.2.2.2.2.2.2.2.2.2 hd41
  refine im_ld (q := 154) (i := 0) D50_153 rfl rfl rfl ?_
  refine im_ld (q := 155) (i := 1) D50_154 rfl rfl rfl ?_
  refine im_ld (q := 156) (i := 2) D50_155 rfl rfl rfl ?_
  refine im_callV (q := 159) (kd := 1) (y := 73) (n := 2) (ci := 4) (a := 23) (vs := [.ref 23, vI p1, vI p2]) (r := []) (L2 := [some (.ref 23), some (vI p1), some (vI p2)]) D50_156 (im_cal cn_50 cl_4_122) (Or.inl rfl) rfl sf_23 rfl rfl rfl rfl hd ⟨rfl, rfl, rfl, trivial⟩ ?_
  refine hP.mono ?_
  rintro _ e40 M38 ⟨x39, rfl, rfl, hP⟩
  refine im_bkS ?_
  exact im_iret (q := 160) D50_159 rfl hP
set_option maxRecDepth 20000 in
set_option maxHeartbeats 4000000 in
theorem k_Parser_meetNode_0 {g : im_g} {d : Nat} {e : im_E} {M : im_M} {K : im_K} {p1 p2 : Int} (hd : 1 ≤ d) (hP : ((¬ (M 2 4) = 37 → im_T g (d - 1) 53 0 [some (.ref 23), some (vI p1), none] [] e M (im_ri (fun x4 e_ M3 => e = e_ ∧ (im_i32 x4) ∧ ((¬ x4 = 0 → im_T g (d - 1) 54 0 [some (.ref 23), some (vI p2)] [] e M3 (im_ri (fun x8 e_ M7 => e = e_ ∧ (im_i32 x8) ∧ ((x8 = 0 → (im_i32 ((M7 23 4) - 1)) ∧ im_T g (d - 1) 56 0 [some (.ref 23), some (vI (M7 2 4)), some (vI p2), none] [] e (im_u M7 23 4 ((M7 23 4) - 1)) (im_ri (fun x15 e_ M14 => e = e_ ∧ ((¬ (M14 2 4) = 34 → ((¬ (M14 2 4) = 35 → im_T g (d - 1) 59 0 [some (.ref 23), some (vI x15), none, none] [] e M14 (im_r0 (fun  e_ M23 => e = e_ ∧ K (.inl (some (vI 0))) e M23))) ∧ ((M14 2 4) = 35 → (0 ≤ x15 ∧ x15 < 5000) ∧ im_T g (d - 1) 59 0 [some (.ref 23), some (vI x15), none, none] [] e (im_u M14 19 x15 (M14 2 6)) (im_r0 (fun  e_ M26 => e = e_ ∧ K (.inl (some (vI 0))) e M26))))) ∧ ((M14 2 4) = 34 → (0 ≤ x15 ∧ x15 < 5000) ∧ (im_i32 ((M14 13 10) + (M14 23 5))) ∧ im_T g (d - 1) 57 0 [some (.ref 23)] [] e (im_u M14 18 x15 ((M14 13 10) + (M14 23 5))) (im_r0 (fun  e_ M30 => e = e_ ∧ ((¬ (M30 2 4) = 35 → im_T g (d - 1) 59 0 [some (.ref 23), some (vI x15), none, none] [] e M30 (im_r0 (fun  e_ M34 => e = e_ ∧ K (.inl (some (vI 0))) e M34))) ∧ ((M30 2 4) = 35 → im_T g (d - 1) 59 0 [some (.ref 23), some (vI x15), none, none] [] e (im_u M30 19 x15 (M30 2 6)) (im_r0 (fun  e_ M36 => e = e_ ∧ K (.inl (some (vI 0))) e M36))))))))))) ∧ (¬ x8 = 0 → K (.inl (some (vI 7))) e M7))))) ∧ (x4 = 0 → K (.inl (some (vI 4))) e M3))))) ∧ ((M 2 4) = 37 → im_T g (d - 1) 52 0 [some (.ref 23), some (vI p1), some (vI p2)] [] e M (im_r0 (fun  e_ M42 => e = e_ ∧ K (.inl (some (vI 0))) e M42))))) : im_T g d 51 0 [some (.ref 23), some (vI p1), some (vI p2), none] [] e M K := by
  refine im_ld (q := 1) (i := 0) D51_0 rfl rfl rfl ?_
  refine im_gfR (q := 4) (b := 2) D51_1 (im_fl cn_51 fl_4_29) sf_23 rfl rfl tR_4_1 rfl ?_
  refine im_rng (j := 4) sf_2 (by decide) (by decide) (fun hr1 => ?_)
  refine im_gfI (q := 7) D51_4 (im_fl cn_51 fl_4_56) sf_2 rfl rfl tI_6_4 rfl ?_
  refine im_bipush (q := 9) D51_7 rfl ?_
  refine im_icmp (q := 12) (t := 20) D51_9 rfl hr1 (by decide) (fun hc2 => ?_) (fun hc2 => ?_)
  · replace hP := hP.1 hc2
    refine im_ld (q := 21) (i := 0) D51_20 rfl rfl rfl ?_
    refine im_ld (q := 22) (i := 1) D51_21 rfl rfl rfl ?_
    refine im_callV (q := 25) (kd := 1) (y := 53) (n := 1) (ci := 4) (a := 23) (vs := [.ref 23, vI p1]) (r := []) (L2 := [some (.ref 23), some (vI p1), none]) D51_22 (im_cal cn_51 cl_4_128) (Or.inl rfl) rfl sf_23 rfl rfl rfl rfl hd ⟨rfl, rfl, trivial⟩ ?_
    refine hP.mono ?_
    rintro _ e41 M3 ⟨x4, rfl, rfl, hP⟩
    refine im_bkS ?_
    obtain ⟨hg5, hP⟩ := hP
    refine im_ifc (q := 28) (t := 30) D51_25 rfl hg5 (fun hc6 => ?_) (fun hc6 => ?_)
    · replace hP := hP.1 hc6
      refine im_ld (q := 31) (i := 0) D51_30 rfl rfl rfl ?_
      refine im_ld (q := 32) (i := 2) D51_31 rfl rfl rfl ?_
      refine im_callV (q := 35) (kd := 1) (y := 54) (n := 1) (ci := 4) (a := 23) (vs := [.ref 23, vI p2]) (r := []) (L2 := [some (.ref 23), some (vI p2)]) D51_32 (im_cal cn_51 cl_4_132) (Or.inl rfl) rfl sf_23 rfl rfl rfl rfl hd ⟨rfl, rfl, trivial⟩ ?_
      refine hP.mono ?_
      rintro _ e40 M7 ⟨x8, rfl, rfl, hP⟩
      refine im_bkS ?_
      obtain ⟨hg9, hP⟩ := hP
      refine im_ifc (q := 38) (t := 41) D51_35 rfl hg9 (fun hc10 => ?_) (fun hc10 => ?_)
      · replace hP := hP.1 hc10
        refine im_ld (q := 42) (i := 0) D51_41 rfl rfl rfl ?_
        refine im_dup (q := 43) D51_42 rfl ?_
        refine im_rng (j := 4) sf_23 (by decide) (by decide) (fun hr11 => ?_)
        refine im_gfI (q := 46) D51_43 (im_fl cn_51 fl_4_46) sf_23 rfl rfl tI_4_4 rfl ?_
        refine im_iconst (q := 47) D51_46 ?_
        refine im_isub (q := 48) D51_47 ?_
        obtain ⟨hg12, hP⟩ := hP
        refine im_pfI (q := 51) D51_48 (im_fl cn_51 fl_4_46) sf_23 rfl rfl ti_4_4 hg12 ?_
        refine im_ld (q := 52) (i := 0) D51_51 rfl rfl rfl ?_
        refine im_ld (q := 53) (i := 0) D51_52 rfl rfl rfl ?_
        refine im_gfR (q := 56) (b := 2) D51_53 (im_fl cn_51 fl_4_29) sf_23 rfl rfl tR_4_1 rfl ?_
        refine im_rng (j := 4) sf_2 (by decide) (by decide) (fun hr13 => ?_)
        refine im_gfI (q := 59) D51_56 (im_fl cn_51 fl_4_56) sf_2 rfl rfl tI_6_4 (im_rdn _ _ _ _ (by decide)) ?_
        refine im_ld (q := 60) (i := 2) D51_59 rfl rfl rfl ?_
        refine im_callV (q := 63) (kd := 1) (y := 56) (n := 2) (ci := 4) (a := 23) (vs := [.ref 23, vI (M7 2 4), vI p2]) (r := []) (L2 := [some (.ref 23), some (vI (M7 2 4)), some (vI p2), none]) D51_60 (im_cal cn_51 cl_4_135) (Or.inl rfl) rfl sf_23 rfl rfl rfl rfl hd ⟨rfl, rfl, rfl, trivial⟩ ?_
        refine hP.mono ?_
        rintro _ e39 M14 ⟨x15, rfl, rfl, hP⟩
        refine im_bkS ?_
        refine im_st1 (q := 64) (i := 3) (L' := [some (.ref 23), some (vI p1), some (vI p2), some (vI x15)]) D51_63 (Or.inl ⟨_, rfl, rfl⟩) (Nat.le_of_ble_eq_true rfl) rfl ?_
        refine im_ld (q := 65) (i := 0) D51_64 rfl rfl rfl ?_
        refine im_gfR (q := 68) (b := 2) D51_65 (im_fl cn_51 fl_4_29) sf_23 rfl rfl tR_4_1 rfl ?_
        refine im_rng (j := 4) sf_2 (by decide) (by decide) (fun hr16 => ?_)
        refine im_gfI (q := 71) D51_68 (im_fl cn_51 fl_4_56) sf_2 rfl rfl tI_6_4 rfl ?_
        refine im_bipush (q := 73) D51_71 rfl ?_
        refine im_icmp (q := 76) (t := 101) D51_73 rfl hr16 (by decide) (fun hc17 => ?_) (fun hc17 => ?_)
        · replace hP := hP.1 hc17
          refine im_ld (q := 102) (i := 0) D51_101 rfl rfl rfl ?_
          refine im_gfR (q := 105) (b := 2) D51_102 (im_fl cn_51 fl_4_29) sf_23 rfl rfl tR_4_1 rfl ?_
          refine im_gfI (q := 108) D51_105 (im_fl cn_51 fl_4_56) sf_2 rfl rfl tI_6_4 rfl ?_
          refine im_bipush (q := 110) D51_108 rfl ?_
          refine im_icmp (q := 113) (t := 129) D51_110 rfl hr16 (by decide) (fun hc21 => ?_) (fun hc21 => ?_)
          · replace hP := hP.1 hc21
            refine im_ld (q := 130) (i := 0) D51_129 rfl rfl rfl ?_
            refine im_ld (q := 131) (i := 3) D51_130 rfl rfl rfl ?_
            refine im_callV (q := 134) (kd := 1) (y := 59) (n := 1) (ci := 4) (a := 23) (vs := [.ref 23, vI x15]) (r := []) (L2 := [some (.ref 23), some (vI x15), none, none]) D51_131 (im_cal cn_51 cl_4_152) (Or.inl rfl) rfl sf_23 rfl rfl rfl rfl hd ⟨rfl, rfl, trivial⟩ ?_
            refine hP.mono ?_
            rintro _ e24 M23 ⟨rfl, rfl, hP⟩
            refine im_bkN ?_
            refine im_iconst (q := 135) D51_134 ?_
            exact im_iret (q := 136) D51_135 rfl hP
          · replace hP := hP.2 (Decidable.not_not.mp hc21)
            refine im_ld (q := 114) (i := 0) D51_113 rfl rfl rfl ?_
            refine im_gfR (q := 117) (b := 13) D51_114 (im_fl cn_51 fl_4_25) sf_23 rfl rfl tR_4_0 rfl ?_
            refine im_gfR (q := 120) (b := 19) D51_117 (im_fl cn_51 fl_4_144) sf_13 rfl rfl tR_5_5 rfl ?_
            refine im_ld (q := 121) (i := 3) D51_120 rfl rfl rfl ?_
            refine im_ld (q := 122) (i := 0) D51_121 rfl rfl rfl ?_
            refine im_gfR (q := 125) (b := 2) D51_122 (im_fl cn_51 fl_4_29) sf_23 rfl rfl tR_4_1 rfl ?_
            refine im_rng (j := 6) sf_2 (by decide) (by decide) (fun hr22 => ?_)
            refine im_gfL (q := 128) D51_125 (im_fl cn_51 fl_4_148) sf_2 rfl rfl tL_6_6 rfl ?_
            obtain ⟨hg25, hP⟩ := hP
            refine im_last (q := 129) D51_128 sf_19 hg25.1 hg25.2 (by decide) hr22 ?_
            refine im_ld (q := 130) (i := 0) D51_129 rfl rfl rfl ?_
            refine im_ld (q := 131) (i := 3) D51_130 rfl rfl rfl ?_
            refine im_callV (q := 134) (kd := 1) (y := 59) (n := 1) (ci := 4) (a := 23) (vs := [.ref 23, vI x15]) (r := []) (L2 := [some (.ref 23), some (vI x15), none, none]) D51_131 (im_cal cn_51 cl_4_152) (Or.inl rfl) rfl sf_23 rfl rfl rfl rfl hd ⟨rfl, rfl, trivial⟩ ?_
            refine hP.mono ?_
            rintro _ e27 M26 ⟨rfl, rfl, hP⟩
            refine im_bkN ?_
            refine im_iconst (q := 135) D51_134 ?_
            exact im_iret (q := 136) D51_135 rfl hP
        · replace hP := hP.2 (Decidable.not_not.mp hc17)
          refine im_ld (q := 77) (i := 0) D51_76 rfl rfl rfl ?_
          refine im_gfR (q := 80) (b := 13) D51_77 (im_fl cn_51 fl_4_25) sf_23 rfl rfl tR_4_0 rfl ?_
          refine im_gfR (q := 83) (b := 18) D51_80 (im_fl cn_51 fl_4_138) sf_13 rfl rfl tR_5_4 rfl ?_
          refine im_ld (q := 84) (i := 3) D51_83 rfl rfl rfl ?_
          refine im_ld (q := 85) (i := 0) D51_84 rfl rfl rfl ?_
          refine im_gfR (q := 88) (b := 13) D51_85 (im_fl cn_51 fl_4_25) sf_23 rfl rfl tR_4_0 rfl ?_
          refine im_rng (j := 10) sf_13 (by decide) (by decide) (fun hr18 => ?_)
          refine im_gfI (q := 91) D51_88 (im_fl cn_51 fl_4_75) sf_13 rfl rfl tI_5_10 rfl ?_
          refine im_ld (q := 92) (i := 0) D51_91 rfl rfl rfl ?_
          refine im_rng (j := 5) sf_23 (by decide) (by decide) (fun hr19 => ?_)
          refine im_gfI (q := 95) D51_92 (im_fl cn_51 fl_4_43) sf_23 rfl rfl tI_4_5 rfl ?_
          refine im_iadd (q := 96) D51_95 ?_
          obtain ⟨hg28, hP⟩ := hP
          obtain ⟨hg29, hP⟩ := hP
          refine im_iast (q := 97) D51_96 sf_18 hg28.1 hg28.2 (by decide) hg29 ?_
          refine im_ld (q := 98) (i := 0) D51_97 rfl rfl rfl ?_
          refine im_callV (q := 101) (kd := 1) (y := 57) (n := 0) (ci := 4) (a := 23) (vs := [.ref 23]) (r := []) (L2 := [some (.ref 23)]) D51_98 (im_cal cn_51 cl_4_141) (Or.inl rfl) rfl sf_23 rfl rfl rfl rfl hd ⟨rfl, trivial⟩ ?_
          refine hP.mono ?_
          rintro _ e38 M30 ⟨rfl, rfl, hP⟩
          refine im_bkN ?_
          refine im_ld (q := 102) (i := 0) D51_101 rfl rfl rfl ?_
          refine im_gfR (q := 105) (b := 2) D51_102 (im_fl cn_51 fl_4_29) sf_23 rfl rfl tR_4_1 rfl ?_
          refine im_rng (j := 4) sf_2 (by decide) (by decide) (fun hr31 => ?_)
          refine im_gfI (q := 108) D51_105 (im_fl cn_51 fl_4_56) sf_2 rfl rfl tI_6_4 rfl ?_
          refine im_bipush (q := 110) D51_108 rfl ?_
          refine im_icmp (q := 113) (t := 129) D51_110 rfl hr31 (by decide) (fun hc32 => ?_) (fun hc32 => ?_)
          · replace hP := hP.1 hc32
            refine im_ld (q := 130) (i := 0) D51_129 rfl rfl rfl ?_
            refine im_ld (q := 131) (i := 3) D51_130 rfl rfl rfl ?_
            refine im_callV (q := 134) (kd := 1) (y := 59) (n := 1) (ci := 4) (a := 23) (vs := [.ref 23, vI x15]) (r := []) (L2 := [some (.ref 23), some (vI x15), none, none]) D51_131 (im_cal cn_51 cl_4_152) (Or.inl rfl) rfl sf_23 rfl rfl rfl rfl hd ⟨rfl, rfl, trivial⟩ ?_
            refine hP.mono ?_
            rintro _ e35 M34 ⟨rfl, rfl, hP⟩
            refine im_bkN ?_
            refine im_iconst (q := 135) D51_134 ?_
            exact im_iret (q := 136) D51_135 rfl hP
          · replace hP := hP.2 (Decidable.not_not.mp hc32)
            refine im_ld (q := 114) (i := 0) D51_113 rfl rfl rfl ?_
            refine im_gfR (q := 117) (b := 13) D51_114 (im_fl cn_51 fl_4_25) sf_23 rfl rfl tR_4_0 rfl ?_
            refine im_gfR (q := 120) (b := 19) D51_117 (im_fl cn_51 fl_4_144) sf_13 rfl rfl tR_5_5 rfl ?_
            refine im_ld (q := 121) (i := 3) D51_120 rfl rfl rfl ?_
            refine im_ld (q := 122) (i := 0) D51_121 rfl rfl rfl ?_
            refine im_gfR (q := 125) (b := 2) D51_122 (im_fl cn_51 fl_4_29) sf_23 rfl rfl tR_4_1 rfl ?_
            refine im_rng (j := 6) sf_2 (by decide) (by decide) (fun hr33 => ?_)
            refine im_gfL (q := 128) D51_125 (im_fl cn_51 fl_4_148) sf_2 rfl rfl tL_6_6 rfl ?_
            refine im_last (q := 129) D51_128 sf_19 hg28.1 hg28.2 (by decide) hr33 ?_
            refine im_ld (q := 130) (i := 0) D51_129 rfl rfl rfl ?_
            refine im_ld (q := 131) (i := 3) D51_130 rfl rfl rfl ?_
            refine im_callV (q := 134) (kd := 1) (y := 59) (n := 1) (ci := 4) (a := 23) (vs := [.ref 23, vI x15]) (r := []) (L2 := [some (.ref 23), some (vI x15), none, none]) D51_131 (im_cal cn_51 cl_4_152) (Or.inl rfl) rfl sf_23 rfl rfl rfl rfl hd ⟨rfl, rfl, trivial⟩ ?_
            refine hP.mono ?_
            rintro _ e37 M36 ⟨rfl, rfl, hP⟩
            refine im_bkN ?_
            refine im_iconst (q := 135) D51_134 ?_
            exact im_iret (q := 136) D51_135 rfl hP
      · replace hP := hP.2 hc10
        refine im_bipush (q := 40) D51_38 rfl ?_
        exact im_iret (q := 41) D51_40 rfl hP
    · replace hP := hP.2 (Decidable.not_not.mp hc6)
      refine im_iconst (q := 29) D51_28 ?_
      exact im_iret (q := 30) D51_29 rfl hP
  · replace hP := hP.2 (Decidable.not_not.mp hc2)
    refine im_ld (q := 13) (i := 0) D51_12 rfl rfl rfl ?_
    refine im_ld (q := 14) (i := 1) D51_13 rfl rfl rfl ?_
    refine im_ld (q := 15) (i := 2) D51_14 rfl rfl rfl ?_
    refine im_callV (q := 18) (kd := 1) (y := 52) (n := 2) (ci := 4) (a := 23) (vs := [.ref 23, vI p1, vI p2]) (r := []) (L2 := [some (.ref 23), some (vI p1), some (vI p2)]) D51_15 (im_cal cn_51 cl_4_125) (Or.inl rfl) rfl sf_23 rfl rfl rfl rfl hd ⟨rfl, rfl, rfl, trivial⟩ ?_
    refine hP.mono ?_
    rintro _ e43 M42 ⟨rfl, rfl, hP⟩
    refine im_bkN ?_
    refine im_iconst (q := 19) D51_18 ?_
    exact im_iret (q := 20) D51_19 rfl hP
set_option maxRecDepth 20000 in
set_option maxHeartbeats 4000000 in
theorem k_Parser_meetOpen_0 {g : im_g} {d : Nat} {e : im_E} {M : im_M} {K : im_K} {p1 p2 : Int} (hd : 1 ≤ d) (hP : (im_i32 ((M 23 4) - 1)) ∧ ((((0 < ((M 23 4) - 1) → (0 ≤ (((M 23 4) - 1) - 1) ∧ (((M 23 4) - 1) - 1) < 1024) ∧ (((M 24 (((M 23 4) - 1) - 1)) = 41 → (im_i32 ((M 25 (((M 23 4) - 1) - 1)) + 1)) ∧ im_T g (d - 1) 39 0 [some (.ref 23), some (vI p1), some (vI p2)] [] e (im_u (im_u M 23 4 ((M 23 4) - 1)) 25 (((M 23 4) - 1) - 1) ((M 25 (((M 23 4) - 1) - 1)) + 1)) (im_r0 (fun  e_ M19 => e = e_ ∧ K (.inl none) e M19))))))) ∧ ((((((M 23 4) - 1) ≤ 0)) ∨ ((0 < ((M 23 4) - 1)) ∧ (¬ (M 24 (((M 23 4) - 1) - 1)) = 41))) → im_T g (d - 1) 39 0 [some (.ref 23), some (vI 41), some (vI 1)] [] e (im_u M 23 4 ((M 23 4) - 1)) (im_r0 (fun  e_ M14 => e = e_ ∧ im_T g (d - 1) 39 0 [some (.ref 23), some (vI p1), some (vI p2)] [] e M14 (im_r0 (fun  e_ M15 => e = e_ ∧ K (.inl none) e M15))))))) : im_T g d 52 0 [some (.ref 23), some (vI p1), some (vI p2)] [] e M K := by
  refine im_ld (q := 1) (i := 0) D52_0 rfl rfl rfl ?_
  refine im_dup (q := 2) D52_1 rfl ?_
  refine im_rng (j := 4) sf_23 (by decide) (by decide) (fun hr1 => ?_)
  refine im_gfI (q := 5) D52_2 (im_fl cn_52 fl_4_46) sf_23 rfl rfl tI_4_4 rfl ?_
  refine im_iconst (q := 6) D52_5 ?_
  refine im_isub (q := 7) D52_6 ?_
  obtain ⟨hg2, hP⟩ := hP
  refine im_pfI (q := 10) D52_7 (im_fl cn_52 fl_4_46) sf_23 rfl rfl ti_4_4 hg2 ?_
  refine im_ld (q := 11) (i := 0) D52_10 rfl rfl rfl ?_
  refine im_gfI (q := 14) D52_11 (im_fl cn_52 fl_4_46) sf_23 rfl rfl tI_4_4 (im_rds _ _ _ _) ?_
  obtain ⟨hP, hJ11⟩ := hP
  have kJ12 : (((((M 23 4) - 1) ≤ 0)) ∨ ((0 < ((M 23 4) - 1)) ∧ (¬ (M 24 (((M 23 4) - 1) - 1)) = 41))) → im_T g d 52 51 [some (.ref 23), some (vI p1), some (vI p2)] [] e (im_u M 23 4 ((M 23 4) - 1)) K := by
    intro  hx13
    have hP := hJ11  hx13
    refine im_ld (q := 52) (i := 0) D52_51 rfl rfl rfl ?_
    refine im_bipush (q := 54) D52_52 rfl ?_
    refine im_iconst (q := 55) D52_54 ?_
    refine im_callV (q := 58) (kd := 1) (y := 39) (n := 2) (ci := 4) (a := 23) (vs := [.ref 23, vI 41, vI 1]) (r := []) (L2 := [some (.ref 23), some (vI 41), some (vI 1)]) D52_55 (im_cal cn_52 cl_4_49) (Or.inl rfl) rfl sf_23 rfl rfl rfl rfl hd ⟨rfl, rfl, rfl, trivial⟩ ?_
    refine hP.mono ?_
    rintro _ e17 M14 ⟨rfl, rfl, hP⟩
    refine im_bkN ?_
    refine im_ld (q := 59) (i := 0) D52_58 rfl rfl rfl ?_
    refine im_ld (q := 60) (i := 1) D52_59 rfl rfl rfl ?_
    refine im_ld (q := 61) (i := 2) D52_60 rfl rfl rfl ?_
    refine im_callV (q := 64) (kd := 1) (y := 39) (n := 2) (ci := 4) (a := 23) (vs := [.ref 23, vI p1, vI p2]) (r := []) (L2 := [some (.ref 23), some (vI p1), some (vI p2)]) D52_61 (im_cal cn_52 cl_4_49) (Or.inl rfl) rfl sf_23 rfl rfl rfl rfl hd ⟨rfl, rfl, rfl, trivial⟩ ?_
    refine hP.mono ?_
    rintro _ e16 M15 ⟨rfl, rfl, hP⟩
    refine im_bkN ?_
    exact im_vret (q := 65) D52_64 rfl hP
  refine im_ifc (q := 17) (t := 51) D52_14 rfl hg2 (fun hc4 => ?_) (fun hc4 => ?_)
  · exact (kJ12  (Or.inl hc4)).wk ⟨rfl, rfl, rfl, trivial⟩
  · replace hP := hP (Int.not_le.mp hc4)
    refine im_ld (q := 18) (i := 0) D52_17 rfl rfl rfl ?_
    refine im_gfR (q := 21) (b := 24) D52_18 (im_fl cn_52 fl_4_11) sf_23 rfl rfl tR_4_2 rfl ?_
    refine im_ld (q := 22) (i := 0) D52_21 rfl rfl rfl ?_
    refine im_gfI (q := 25) D52_22 (im_fl cn_52 fl_4_46) sf_23 rfl rfl tI_4_4 (im_rds _ _ _ _) ?_
    refine im_iconst (q := 26) D52_25 ?_
    refine im_isub (q := 27) D52_26 ?_
    obtain ⟨hg6, hP⟩ := hP
    refine im_rng (j := (((M 23 4) - 1) - 1)) sf_24 hg6.1 hg6.2 (fun hr7 => ?_)
    refine im_iald (q := 28) D52_27 sf_24 hg6.1 hg6.2 (by decide) (im_rdn _ _ _ _ (by decide)) ?_
    refine im_bipush (q := 30) D52_28 rfl ?_
    refine im_icmp (q := 33) (t := 51) D52_30 rfl (im_rgc hr7 (im_rdn _ _ _ _ (by decide))) (by decide) (fun hc8 => ?_) (fun hc8 => ?_)
    · exact (kJ12  (Or.inr ⟨(Int.not_le.mp hc4), hc8⟩)).wk ⟨rfl, rfl, rfl, trivial⟩
    · replace hP := hP (Decidable.not_not.mp hc8)
      refine im_ld (q := 34) (i := 0) D52_33 rfl rfl rfl ?_
      refine im_gfR (q := 37) (b := 25) D52_34 (im_fl cn_52 fl_4_15) sf_23 rfl rfl tR_4_3 rfl ?_
      refine im_ld (q := 38) (i := 0) D52_37 rfl rfl rfl ?_
      refine im_gfI (q := 41) D52_38 (im_fl cn_52 fl_4_46) sf_23 rfl rfl tI_4_4 (im_rds _ _ _ _) ?_
      refine im_iconst (q := 42) D52_41 ?_
      refine im_isub (q := 43) D52_42 ?_
      refine im_dup2 (q := 44) D52_43 rfl rfl ?_
      refine im_rng (j := (((M 23 4) - 1) - 1)) sf_25 hg6.1 hg6.2 (fun hr10 => ?_)
      refine im_iald (q := 45) D52_44 sf_25 hg6.1 hg6.2 (by decide) (im_rdn _ _ _ _ (by decide)) ?_
      refine im_iconst (q := 46) D52_45 ?_
      refine im_iadd (q := 47) D52_46 ?_
      obtain ⟨hg18, hP⟩ := hP
      refine im_iast (q := 48) D52_47 sf_25 hg6.1 hg6.2 (by decide) hg18 ?_
      refine im_goto (q := 51) (t := 58) D52_48 rfl ?_
      refine im_ld (q := 59) (i := 0) D52_58 rfl rfl rfl ?_
      refine im_ld (q := 60) (i := 1) D52_59 rfl rfl rfl ?_
      refine im_ld (q := 61) (i := 2) D52_60 rfl rfl rfl ?_
      refine im_callV (q := 64) (kd := 1) (y := 39) (n := 2) (ci := 4) (a := 23) (vs := [.ref 23, vI p1, vI p2]) (r := []) (L2 := [some (.ref 23), some (vI p1), some (vI p2)]) D52_61 (im_cal cn_52 cl_4_49) (Or.inl rfl) rfl sf_23 rfl rfl rfl rfl hd ⟨rfl, rfl, rfl, trivial⟩ ?_
      refine hP.mono ?_
      rintro _ e20 M19 ⟨rfl, rfl, hP⟩
      refine im_bkN ?_
      exact im_vret (q := 65) D52_64 rfl hP
set_option maxRecDepth 20000 in
set_option maxHeartbeats 4000000 in
theorem k_Parser_begins_0 {g : im_g} {d : Nat} {e : im_E} {M : im_M} {K : im_K} {p1 : Int} (hP : (im_i32 p1) ∧ ((p1 = 99 → ((((0 ≤ (M 2 4) → (((M 2 4) ≤ 5 → K (.inl (some (vI 1))) e M))))) ∧ (((((M 2 4) < 0)) ∨ ((0 ≤ (M 2 4)) ∧ (5 < (M 2 4)))) → K (.inl (some (vI 0))) e M))) ∧ (p1 = 118 → ((((6 ≤ (M 2 4) → (((M 2 4) ≤ 16 → K (.inl (some (vI 1))) e M))))) ∧ (((((M 2 4) < 6)) ∨ ((6 ≤ (M 2 4)) ∧ (16 < (M 2 4)))) → ((((¬ (M 2 4) = 34 → ((¬ (M 2 4) = 35 → K (.inl (some (vI 0))) e M))))) ∧ (((((M 2 4) = 34)) ∨ ((¬ (M 2 4) = 34) ∧ ((M 2 4) = 35))) → K (.inl (some (vI 1))) e M))))) ∧ (¬ p1 = 99 ∧ ¬ p1 = 118 → ((((17 ≤ (M 2 4) → (((M 2 4) ≤ 27 → K (.inl (some (vI 1))) e M))))) ∧ (((((M 2 4) < 17)) ∨ ((17 ≤ (M 2 4)) ∧ (27 < (M 2 4)))) → K (.inl (some (vI 0))) e M))))) : im_T g d 53 0 [some (.ref 23), some (vI p1), none] [] e M K := by
  refine im_ld (q := 1) (i := 0) D53_0 rfl rfl rfl ?_
  refine im_gfR (q := 4) (b := 2) D53_1 (im_fl cn_53 fl_4_29) sf_23 rfl rfl tR_4_1 rfl ?_
  refine im_rng (j := 4) sf_2 (by decide) (by decide) (fun hr1 => ?_)
  refine im_gfI (q := 7) D53_4 (im_fl cn_53 fl_4_56) sf_2 rfl rfl tI_6_4 rfl ?_
  refine im_st1 (q := 8) (i := 2) (L' := [some (.ref 23), some (vI p1), some (vI (M 2 4))]) D53_7 (Or.inl ⟨_, rfl, rfl⟩) (Nat.le_of_ble_eq_true rfl) rfl ?_
  refine im_ld (q := 9) (i := 1) D53_8 rfl rfl rfl ?_
  obtain ⟨hg2, hP⟩ := hP
  by_cases hc8 : p1 = 99
  · refine im_lsw (q := 10) (t := 36) D53_9 hg2 rfl (by rcases hc8 with hc8 <;> (rw [hc8]; rfl)) ?_
    replace hP := hP.1 hc8
    refine im_ld (q := 37) (i := 2) D53_36 rfl rfl rfl ?_
    obtain ⟨hP, hJ5⟩ := hP
    have kJ6 : ((((M 2 4) < 0)) ∨ ((0 ≤ (M 2 4)) ∧ (5 < (M 2 4)))) → im_T g d 53 49 [none, none, none] [] e M K := by
      intro  hx7
      have hP := hJ5  hx7
      refine im_iconst (q := 50) D53_49 ?_
      exact im_zret (q := 51) D53_50 rfl (by decide) hP
    refine im_ifc (q := 40) (t := 49) D53_37 rfl hr1 (fun hc3 => ?_) (fun hc3 => ?_)
    · exact (kJ6  (Or.inl hc3)).wk trivial
    · replace hP := hP (Int.not_lt.mp hc3)
      refine im_ld (q := 41) (i := 2) D53_40 rfl rfl rfl ?_
      refine im_iconst (q := 42) D53_41 ?_
      refine im_icmp (q := 45) (t := 49) D53_42 rfl hr1 (by decide) (fun hc4 => ?_) (fun hc4 => ?_)
      · exact (kJ6  (Or.inr ⟨(Int.not_lt.mp hc3), hc4⟩)).wk trivial
      · replace hP := hP (Int.not_lt.mp hc4)
        refine im_iconst (q := 46) D53_45 ?_
        refine im_goto (q := 49) (t := 50) D53_46 rfl ?_
        exact im_zret (q := 51) D53_50 rfl (by decide) hP
  by_cases hc19 : p1 = 118
  · refine im_lsw (q := 10) (t := 51) D53_9 hg2 rfl (by rcases hc19 with hc19 <;> (rw [hc19]; rfl)) ?_
    replace hP := hP.2.1 hc19
    refine im_ld (q := 52) (i := 2) D53_51 rfl rfl rfl ?_
    refine im_bipush (q := 54) D53_52 rfl ?_
    obtain ⟨hP, hJ11⟩ := hP
    have kJ12 : ((((M 2 4) < 6)) ∨ ((6 ≤ (M 2 4)) ∧ (16 < (M 2 4)))) → im_T g d 53 63 [none, none, some (vI (M 2 4))] [] e M K := by
      intro  hx13
      have hP := hJ11  hx13
      refine im_ld (q := 64) (i := 2) D53_63 rfl rfl rfl ?_
      refine im_bipush (q := 66) D53_64 rfl ?_
      obtain ⟨hP, hJ16⟩ := hP
      have kJ17 : ((((M 2 4) = 34)) ∨ ((¬ (M 2 4) = 34) ∧ ((M 2 4) = 35))) → im_T g d 53 75 [none, none, none] [] e M K := by
        intro  hx18
        have hP := hJ16  hx18
        refine im_iconst (q := 76) D53_75 ?_
        refine im_goto (q := 79) (t := 80) D53_76 rfl ?_
        exact im_zret (q := 81) D53_80 rfl (by decide) hP
      refine im_icmp (q := 69) (t := 75) D53_66 rfl hr1 (by decide) (fun hc14 => ?_) (fun hc14 => ?_)
      · exact (kJ17  (Or.inl hc14)).wk trivial
      · replace hP := hP hc14
        refine im_ld (q := 70) (i := 2) D53_69 rfl rfl rfl ?_
        refine im_bipush (q := 72) D53_70 rfl ?_
        refine im_icmp (q := 75) (t := 79) D53_72 rfl hr1 (by decide) (fun hc15 => ?_) (fun hc15 => ?_)
        · replace hP := hP hc15
          refine im_iconst (q := 80) D53_79 ?_
          exact im_zret (q := 81) D53_80 rfl (by decide) hP
        · exact (kJ17  (Or.inr ⟨hc14, (Decidable.not_not.mp hc15)⟩)).wk trivial
    refine im_icmp (q := 57) (t := 63) D53_54 rfl hr1 (by decide) (fun hc9 => ?_) (fun hc9 => ?_)
    · exact (kJ12  (Or.inl hc9)).wk ⟨rfl, trivial⟩
    · replace hP := hP (Int.not_lt.mp hc9)
      refine im_ld (q := 58) (i := 2) D53_57 rfl rfl rfl ?_
      refine im_bipush (q := 60) D53_58 rfl ?_
      refine im_icmp (q := 63) (t := 75) D53_60 rfl hr1 (by decide) (fun hc10 => ?_) (fun hc10 => ?_)
      · replace hP := hP hc10
        refine im_iconst (q := 76) D53_75 ?_
        refine im_goto (q := 79) (t := 80) D53_76 rfl ?_
        exact im_zret (q := 81) D53_80 rfl (by decide) hP
      · exact (kJ12  (Or.inr ⟨(Int.not_lt.mp hc9), (Int.not_le.mp hc10)⟩)).wk ⟨rfl, trivial⟩
  have hd25 : ¬ p1 = 99 ∧ ¬ p1 = 118 := by clear hP; omega
  refine im_lsw (q := 10) (t := 81) D53_9 hg2 rfl (by have z9 := hd25; simp [Op.lookupswitch.offset, am_to, z9, eq_comm]) ?_
  replace hP := hP.2.2 hd25
  refine im_ld (q := 82) (i := 2) D53_81 rfl rfl rfl ?_
  refine im_bipush (q := 84) D53_82 rfl ?_
  obtain ⟨hP, hJ22⟩ := hP
  have kJ23 : ((((M 2 4) < 17)) ∨ ((17 ≤ (M 2 4)) ∧ (27 < (M 2 4)))) → im_T g d 53 97 [none, none, none] [] e M K := by
    intro  hx24
    have hP := hJ22  hx24
    refine im_iconst (q := 98) D53_97 ?_
    exact im_zret (q := 99) D53_98 rfl (by decide) hP
  refine im_icmp (q := 87) (t := 97) D53_84 rfl hr1 (by decide) (fun hc20 => ?_) (fun hc20 => ?_)
  · exact (kJ23  (Or.inl hc20)).wk trivial
  · replace hP := hP (Int.not_lt.mp hc20)
    refine im_ld (q := 88) (i := 2) D53_87 rfl rfl rfl ?_
    refine im_bipush (q := 90) D53_88 rfl ?_
    refine im_icmp (q := 93) (t := 97) D53_90 rfl hr1 (by decide) (fun hc21 => ?_) (fun hc21 => ?_)
    · exact (kJ23  (Or.inr ⟨(Int.not_lt.mp hc20), hc21⟩)).wk trivial
    · replace hP := hP (Int.not_lt.mp hc21)
      refine im_iconst (q := 94) D53_93 ?_
      refine im_goto (q := 97) (t := 98) D53_94 rfl ?_
      exact im_zret (q := 99) D53_98 rfl (by decide) hP

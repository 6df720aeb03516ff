/-! blocks of the reference -/
theorem D305_0 {g : im_g} : im_D g 305 0 (.aload_n 0) 1 := im_D.of (by decide +kernel)
theorem D305_1 {g : im_g} : im_D g 305 1 (.getfield 591) 4 := im_D.of (by decide +kernel)
theorem D305_4 {g : im_g} : im_D g 305 4 (.iconst 2) 5 := im_D.of (by decide +kernel)
theorem D305_5 {g : im_g} : im_D g 305 5 (.if_icmp .ne 29) 8 := im_D.of (by decide +kernel)
theorem D305_8 {g : im_g} : im_D g 305 8 (.aload_n 0) 9 := im_D.of (by decide +kernel)
theorem D305_9 {g : im_g} : im_D g 305 9 (.getfield 597) 12 := im_D.of (by decide +kernel)
theorem D305_12 {g : im_g} : im_D g 305 12 (.ldc2_w 509) 15 := im_D.of (by decide +kernel)
theorem D305_15 {g : im_g} : im_D g 305 15 (.lcmp) 16 := im_D.of (by decide +kernel)
theorem D305_16 {g : im_g} : im_D g 305 16 (.ifCond .eq 14) 19 := im_D.of (by decide +kernel)
theorem D305_19 {g : im_g} : im_D g 305 19 (.aload_n 0) 20 := im_D.of (by decide +kernel)
theorem D305_20 {g : im_g} : im_D g 305 20 (.getfield 597) 23 := im_D.of (by decide +kernel)
theorem D305_23 {g : im_g} : im_D g 305 23 (.ldc2_w 511) 26 := im_D.of (by decide +kernel)
theorem D305_26 {g : im_g} : im_D g 305 26 (.lcmp) 27 := im_D.of (by decide +kernel)
theorem D305_27 {g : im_g} : im_D g 305 27 (.ifCond .ne 7) 30 := im_D.of (by decide +kernel)
theorem D305_30 {g : im_g} : im_D g 305 30 (.iconst 1) 31 := im_D.of (by decide +kernel)
theorem D305_31 {g : im_g} : im_D g 305 31 (.goto 4) 34 := im_D.of (by decide +kernel)
theorem D305_34 {g : im_g} : im_D g 305 34 (.iconst 0) 35 := im_D.of (by decide +kernel)
theorem D305_35 {g : im_g} : im_D g 305 35 (.istore_n 3) 36 := im_D.of (by decide +kernel)
theorem D305_36 {g : im_g} : im_D g 305 36 (.iload_n 1) 37 := im_D.of (by decide +kernel)
theorem D305_37 {g : im_g} : im_D g 305 37 (.iconst 5) 38 := im_D.of (by decide +kernel)
theorem D305_38 {g : im_g} : im_D g 305 38 (.if_icmp .ne 20) 41 := im_D.of (by decide +kernel)
theorem D305_41 {g : im_g} : im_D g 305 41 (.aload_n 0) 42 := im_D.of (by decide +kernel)
theorem D305_42 {g : im_g} : im_D g 305 42 (.getfield 591) 45 := im_D.of (by decide +kernel)
theorem D305_45 {g : im_g} : im_D g 305 45 (.bipush 6) 47 := im_D.of (by decide +kernel)
theorem D305_47 {g : im_g} : im_D g 305 47 (.if_icmp .ne 7) 50 := im_D.of (by decide +kernel)
theorem D305_50 {g : im_g} : im_D g 305 50 (.iconst 1) 51 := im_D.of (by decide +kernel)
theorem D305_51 {g : im_g} : im_D g 305 51 (.goto 31) 54 := im_D.of (by decide +kernel)
theorem D305_54 {g : im_g} : im_D g 305 54 (.iconst 0) 55 := im_D.of (by decide +kernel)
theorem D305_55 {g : im_g} : im_D g 305 55 (.goto 27) 58 := im_D.of (by decide +kernel)
theorem D305_58 {g : im_g} : im_D g 305 58 (.iload_n 1) 59 := im_D.of (by decide +kernel)
theorem D305_59 {g : im_g} : im_D g 305 59 (.bipush 6) 61 := im_D.of (by decide +kernel)
theorem D305_61 {g : im_g} : im_D g 305 61 (.if_icmp .ne 7) 64 := im_D.of (by decide +kernel)
theorem D305_64 {g : im_g} : im_D g 305 64 (.iload_n 3) 65 := im_D.of (by decide +kernel)
theorem D305_65 {g : im_g} : im_D g 305 65 (.goto 17) 68 := im_D.of (by decide +kernel)
theorem D305_68 {g : im_g} : im_D g 305 68 (.aload_n 0) 69 := im_D.of (by decide +kernel)
theorem D305_69 {g : im_g} : im_D g 305 69 (.getfield 591) 72 := im_D.of (by decide +kernel)
theorem D305_72 {g : im_g} : im_D g 305 72 (.bipush 7) 74 := im_D.of (by decide +kernel)
theorem D305_74 {g : im_g} : im_D g 305 74 (.if_icmp .ne 7) 77 := im_D.of (by decide +kernel)
theorem D305_77 {g : im_g} : im_D g 305 77 (.iconst 1) 78 := im_D.of (by decide +kernel)
theorem D305_78 {g : im_g} : im_D g 305 78 (.goto 4) 81 := im_D.of (by decide +kernel)
theorem D305_81 {g : im_g} : im_D g 305 81 (.iconst 0) 82 := im_D.of (by decide +kernel)
theorem D305_82 {g : im_g} : im_D g 305 82 (.istore 4) 84 := im_D.of (by decide +kernel)
theorem D305_84 {g : im_g} : im_D g 305 84 (.iload 4) 86 := im_D.of (by decide +kernel)
theorem D305_86 {g : im_g} : im_D g 305 86 (.ifCond .ne 8) 89 := im_D.of (by decide +kernel)
theorem D305_89 {g : im_g} : im_D g 305 89 (.aload_n 0) 90 := im_D.of (by decide +kernel)
theorem D305_90 {g : im_g} : im_D g 305 90 (.invokevirtual 639) 93 := im_D.of (by decide +kernel)
theorem D305_93 {g : im_g} : im_D g 305 93 (.return_) 94 := im_D.of (by decide +kernel)
theorem D305_94 {g : im_g} : im_D g 305 94 (.iload_n 1) 95 := im_D.of (by decide +kernel)
theorem D305_95 {g : im_g} : im_D g 305 95 (.bipush 6) 97 := im_D.of (by decide +kernel)
theorem D305_97 {g : im_g} : im_D g 305 97 (.if_icmp .ne 21) 100 := im_D.of (by decide +kernel)
theorem D305_100 {g : im_g} : im_D g 305 100 (.aload_n 0) 101 := im_D.of (by decide +kernel)
theorem D305_101 {g : im_g} : im_D g 305 101 (.getfield 597) 104 := im_D.of (by decide +kernel)
theorem D305_104 {g : im_g} : im_D g 305 104 (.ldc2_w 511) 107 := im_D.of (by decide +kernel)
theorem D305_107 {g : im_g} : im_D g 305 107 (.lcmp) 108 := im_D.of (by decide +kernel)
theorem D305_108 {g : im_g} : im_D g 305 108 (.ifCond .ne 10) 111 := im_D.of (by decide +kernel)
theorem D305_111 {g : im_g} : im_D g 305 111 (.aload_n 0) 112 := im_D.of (by decide +kernel)
theorem D305_112 {g : im_g} : im_D g 305 112 (.getfield 33) 115 := im_D.of (by decide +kernel)
theorem D305_115 {g : im_g} : im_D g 305 115 (.iload_n 2) 116 := im_D.of (by decide +kernel)
theorem D305_116 {g : im_g} : im_D g 305 116 (.iconst 3) 117 := im_D.of (by decide +kernel)
theorem D305_117 {g : im_g} : im_D g 305 117 (.iastore) 118 := im_D.of (by decide +kernel)
theorem D305_118 {g : im_g} : im_D g 305 118 (.aload_n 0) 119 := im_D.of (by decide +kernel)
theorem D305_119 {g : im_g} : im_D g 305 119 (.invokevirtual 649) 122 := im_D.of (by decide +kernel)
theorem D305_122 {g : im_g} : im_D g 305 122 (.return_) 123 := im_D.of (by decide +kernel)
theorem D306_0 {g : im_g} : im_D g 306 0 (.aload_n 0) 1 := im_D.of (by decide +kernel)
theorem D306_1 {g : im_g} : im_D g 306 1 (.invokevirtual 620) 4 := im_D.of (by decide +kernel)
theorem D306_4 {g : im_g} : im_D g 306 4 (.aload_n 0) 5 := im_D.of (by decide +kernel)
theorem D306_5 {g : im_g} : im_D g 306 5 (.getfield 403) 8 := im_D.of (by decide +kernel)
theorem D306_8 {g : im_g} : im_D g 306 8 (.ifCond .ne 42) 11 := im_D.of (by decide +kernel)
theorem D306_11 {g : im_g} : im_D g 306 11 (.aload_n 0) 12 := im_D.of (by decide +kernel)
theorem D306_12 {g : im_g} : im_D g 306 12 (.getfield 591) 15 := im_D.of (by decide +kernel)
theorem D306_15 {g : im_g} : im_D g 306 15 (.ifCond .eq 35) 18 := im_D.of (by decide +kernel)
theorem D306_18 {g : im_g} : im_D g 306 18 (.aload_n 0) 19 := im_D.of (by decide +kernel)
theorem D306_19 {g : im_g} : im_D g 306 19 (.aload_n 0) 20 := im_D.of (by decide +kernel)
theorem D306_20 {g : im_g} : im_D g 306 20 (.getfield 591) 23 := im_D.of (by decide +kernel)
theorem D306_23 {g : im_g} : im_D g 306 23 (.bipush 9) 25 := im_D.of (by decide +kernel)
theorem D306_25 {g : im_g} : im_D g 306 25 (.if_icmp .ne 7) 28 := im_D.of (by decide +kernel)
theorem D306_28 {g : im_g} : im_D g 306 28 (.iconst 1) 29 := im_D.of (by decide +kernel)
theorem D306_29 {g : im_g} : im_D g 306 29 (.goto 18) 32 := im_D.of (by decide +kernel)
theorem D306_32 {g : im_g} : im_D g 306 32 (.aload_n 0) 33 := im_D.of (by decide +kernel)
theorem D306_33 {g : im_g} : im_D g 306 33 (.getfield 591) 36 := im_D.of (by decide +kernel)
theorem D306_36 {g : im_g} : im_D g 306 36 (.bipush 10) 38 := im_D.of (by decide +kernel)
theorem D306_38 {g : im_g} : im_D g 306 38 (.if_icmp .ne 7) 41 := im_D.of (by decide +kernel)
theorem D306_41 {g : im_g} : im_D g 306 41 (.iconst 2) 42 := im_D.of (by decide +kernel)
theorem D306_42 {g : im_g} : im_D g 306 42 (.goto 5) 45 := im_D.of (by decide +kernel)
theorem D306_45 {g : im_g} : im_D g 306 45 (.bipush 9) 47 := im_D.of (by decide +kernel)
theorem D306_47 {g : im_g} : im_D g 306 47 (.invokevirtual 614) 50 := im_D.of (by decide +kernel)
theorem D306_50 {g : im_g} : im_D g 306 50 (.return_) 51 := im_D.of (by decide +kernel)
theorem D307_0 {g : im_g} : im_D g 307 0 (.iconst 3) 1 := im_D.of (by decide +kernel)
theorem D307_1 {g : im_g} : im_D g 307 1 (.bipush 8) 3 := im_D.of (by decide +kernel)
theorem D307_3 {g : im_g} : im_D g 307 3 (.iload_n 2) 4 := im_D.of (by decide +kernel)
theorem D307_4 {g : im_g} : im_D g 307 4 (.imul) 5 := im_D.of (by decide +kernel)
theorem D307_5 {g : im_g} : im_D g 307 5 (.iadd) 6 := im_D.of (by decide +kernel)
theorem D307_6 {g : im_g} : im_D g 307 6 (.istore 10) 8 := im_D.of (by decide +kernel)
theorem D307_8 {g : im_g} : im_D g 307 8 (.iload 10) 10 := im_D.of (by decide +kernel)
theorem D307_10 {g : im_g} : im_D g 307 10 (.iload 9) 12 := im_D.of (by decide +kernel)
theorem D307_12 {g : im_g} : im_D g 307 12 (.ifCond .eq 10) 15 := im_D.of (by decide +kernel)
theorem D307_15 {g : im_g} : im_D g 307 15 (.aload_n 0) 16 := im_D.of (by decide +kernel)
theorem D307_16 {g : im_g} : im_D g 307 16 (.getfield 604) 19 := im_D.of (by decide +kernel)
theorem D307_19 {g : im_g} : im_D g 307 19 (.goto 4) 22 := im_D.of (by decide +kernel)
theorem D307_22 {g : im_g} : im_D g 307 22 (.iconst 0) 23 := im_D.of (by decide +kernel)
theorem D307_23 {g : im_g} : im_D g 307 23 (.iadd) 24 := im_D.of (by decide +kernel)
theorem D307_24 {g : im_g} : im_D g 307 24 (.iconst 4) 25 := im_D.of (by decide +kernel)
theorem D307_25 {g : im_g} : im_D g 307 25 (.iadd) 26 := im_D.of (by decide +kernel)
theorem D307_26 {g : im_g} : im_D g 307 26 (.istore 11) 28 := im_D.of (by decide +kernel)
theorem D307_28 {g : im_g} : im_D g 307 28 (.aload_n 0) 29 := im_D.of (by decide +kernel)
theorem D307_29 {g : im_g} : im_D g 307 29 (.getfield 1140) 32 := im_D.of (by decide +kernel)
theorem D307_32 {g : im_g} : im_D g 307 32 (.iload 11) 34 := im_D.of (by decide +kernel)
theorem D307_34 {g : im_g} : im_D g 307 34 (.iadd) 35 := im_D.of (by decide +kernel)
theorem D307_35 {g : im_g} : im_D g 307 35 (.sipush 16384) 38 := im_D.of (by decide +kernel)
theorem D307_38 {g : im_g} : im_D g 307 38 (.if_icmp .le 6) 41 := im_D.of (by decide +kernel)
theorem D307_41 {g : im_g} : im_D g 307 41 (.bipush (-10)) 43 := im_D.of (by decide +kernel)
theorem D307_43 {g : im_g} : im_D g 307 43 (.ireturn) 44 := im_D.of (by decide +kernel)
theorem D307_44 {g : im_g} : im_D g 307 44 (.aload_n 0) 45 := im_D.of (by decide +kernel)
theorem D307_45 {g : im_g} : im_D g 307 45 (.getfield 1140) 48 := im_D.of (by decide +kernel)
theorem D307_48 {g : im_g} : im_D g 307 48 (.iload 11) 50 := im_D.of (by decide +kernel)
theorem D307_50 {g : im_g} : im_D g 307 50 (.iadd) 51 := im_D.of (by decide +kernel)
theorem D307_51 {g : im_g} : im_D g 307 51 (.iconst 2) 52 := im_D.of (by decide +kernel)
theorem D307_52 {g : im_g} : im_D g 307 52 (.iadd) 53 := im_D.of (by decide +kernel)
theorem D307_53 {g : im_g} : im_D g 307 53 (.sipush 16384) 56 := im_D.of (by decide +kernel)
theorem D307_56 {g : im_g} : im_D g 307 56 (.if_icmp .ge 18) 59 := im_D.of (by decide +kernel)
theorem D307_59 {g : im_g} : im_D g 307 59 (.aload_n 0) 60 := im_D.of (by decide +kernel)
theorem D307_60 {g : im_g} : im_D g 307 60 (.getfield 396) 63 := im_D.of (by decide +kernel)
theorem D307_63 {g : im_g} : im_D g 307 63 (.aload_n 0) 64 := im_D.of (by decide +kernel)
theorem D307_64 {g : im_g} : im_D g 307 64 (.getfield 1140) 67 := im_D.of (by decide +kernel)
theorem D307_67 {g : im_g} : im_D g 307 67 (.iload 11) 69 := im_D.of (by decide +kernel)
theorem D307_69 {g : im_g} : im_D g 307 69 (.iadd) 70 := im_D.of (by decide +kernel)
theorem D307_70 {g : im_g} : im_D g 307 70 (.iconst 2) 71 := im_D.of (by decide +kernel)
theorem D307_71 {g : im_g} : im_D g 307 71 (.iadd) 72 := im_D.of (by decide +kernel)
theorem D307_72 {g : im_g} : im_D g 307 72 (.iconst 0) 73 := im_D.of (by decide +kernel)
theorem D307_73 {g : im_g} : im_D g 307 73 (.iastore) 74 := im_D.of (by decide +kernel)
theorem D307_74 {g : im_g} : im_D g 307 74 (.aload_n 0) 75 := im_D.of (by decide +kernel)
theorem D307_75 {g : im_g} : im_D g 307 75 (.ldc_w 1143) 78 := im_D.of (by decide +kernel)
theorem D307_78 {g : im_g} : im_D g 307 78 (.putfield 1133) 81 := im_D.of (by decide +kernel)
theorem D307_81 {g : im_g} : im_D g 307 81 (.iconst 0) 82 := im_D.of (by decide +kernel)
theorem D307_82 {g : im_g} : im_D g 307 82 (.istore 12) 84 := im_D.of (by decide +kernel)
theorem D307_84 {g : im_g} : im_D g 307 84 (.iload 12) 86 := im_D.of (by decide +kernel)
theorem D307_86 {g : im_g} : im_D g 307 86 (.iload 11) 88 := im_D.of (by decide +kernel)
theorem D307_88 {g : im_g} : im_D g 307 88 (.iconst 4) 89 := im_D.of (by decide +kernel)
theorem D307_89 {g : im_g} : im_D g 307 89 (.isub) 90 := im_D.of (by decide +kernel)
theorem D307_90 {g : im_g} : im_D g 307 90 (.if_icmp .ge 82) 93 := im_D.of (by decide +kernel)
theorem D307_93 {g : im_g} : im_D g 307 93 (.iload 12) 95 := im_D.of (by decide +kernel)
theorem D307_95 {g : im_g} : im_D g 307 95 (.iload 10) 97 := im_D.of (by decide +kernel)
theorem D307_97 {g : im_g} : im_D g 307 97 (.if_icmp .ge 20) 100 := im_D.of (by decide +kernel)
theorem D307_100 {g : im_g} : im_D g 307 100 (.aload_n 0) 101 := im_D.of (by decide +kernel)
theorem D307_101 {g : im_g} : im_D g 307 101 (.iload 12) 103 := im_D.of (by decide +kernel)
theorem D307_103 {g : im_g} : im_D g 307 103 (.iload 11) 105 := im_D.of (by decide +kernel)
theorem D307_105 {g : im_g} : im_D g 307 105 (.iload_n 1) 106 := im_D.of (by decide +kernel)
theorem D307_106 {g : im_g} : im_D g 307 106 (.lload_n 3) 107 := im_D.of (by decide +kernel)
theorem D307_107 {g : im_g} : im_D g 307 107 (.lload 5) 109 := im_D.of (by decide +kernel)
theorem D307_109 {g : im_g} : im_D g 307 109 (.lload 7) 111 := im_D.of (by decide +kernel)
theorem D307_111 {g : im_g} : im_D g 307 111 (.invokevirtual 1144) 114 := im_D.of (by decide +kernel)
theorem D307_114 {g : im_g} : im_D g 307 114 (.goto 13) 117 := im_D.of (by decide +kernel)
theorem D307_117 {g : im_g} : im_D g 307 117 (.aload_n 0) 118 := im_D.of (by decide +kernel)
theorem D307_118 {g : im_g} : im_D g 307 118 (.getfield 30) 121 := im_D.of (by decide +kernel)
theorem D307_121 {g : im_g} : im_D g 307 121 (.iload 12) 123 := im_D.of (by decide +kernel)
theorem D307_123 {g : im_g} : im_D g 307 123 (.iload 10) 125 := im_D.of (by decide +kernel)
theorem D307_125 {g : im_g} : im_D g 307 125 (.isub) 126 := im_D.of (by decide +kernel)
theorem D307_126 {g : im_g} : im_D g 307 126 (.iaload) 127 := im_D.of (by decide +kernel)
theorem D307_127 {g : im_g} : im_D g 307 127 (.istore 13) 129 := im_D.of (by decide +kernel)
theorem D307_129 {g : im_g} : im_D g 307 129 (.aload_n 0) 130 := im_D.of (by decide +kernel)
theorem D307_130 {g : im_g} : im_D g 307 130 (.iload 13) 132 := im_D.of (by decide +kernel)
theorem D307_132 {g : im_g} : im_D g 307 132 (.invokevirtual 1137) 135 := im_D.of (by decide +kernel)
theorem D307_135 {g : im_g} : im_D g 307 135 (.aload_n 0) 136 := im_D.of (by decide +kernel)
theorem D307_136 {g : im_g} : im_D g 307 136 (.aload_n 0) 137 := im_D.of (by decide +kernel)
theorem D307_137 {g : im_g} : im_D g 307 137 (.getfield 1140) 140 := im_D.of (by decide +kernel)
theorem D307_140 {g : im_g} : im_D g 307 140 (.iload 12) 142 := im_D.of (by decide +kernel)
theorem D307_142 {g : im_g} : im_D g 307 142 (.iadd) 143 := im_D.of (by decide +kernel)
theorem D307_143 {g : im_g} : im_D g 307 143 (.iload 13) 145 := im_D.of (by decide +kernel)
theorem D307_145 {g : im_g} : im_D g 307 145 (.invokevirtual 1148) 148 := im_D.of (by decide +kernel)
theorem D307_148 {g : im_g} : im_D g 307 148 (.ifCond .ne 18) 151 := im_D.of (by decide +kernel)
theorem D307_151 {g : im_g} : im_D g 307 151 (.aload_n 0) 152 := im_D.of (by decide +kernel)
theorem D307_152 {g : im_g} : im_D g 307 152 (.getfield 396) 155 := im_D.of (by decide +kernel)
theorem D307_155 {g : im_g} : im_D g 307 155 (.aload_n 0) 156 := im_D.of (by decide +kernel)
theorem D307_156 {g : im_g} : im_D g 307 156 (.getfield 1140) 159 := im_D.of (by decide +kernel)
theorem D307_159 {g : im_g} : im_D g 307 159 (.iconst 2) 160 := im_D.of (by decide +kernel)
theorem D307_160 {g : im_g} : im_D g 307 160 (.iadd) 161 := im_D.of (by decide +kernel)
theorem D307_161 {g : im_g} : im_D g 307 161 (.iconst 0) 162 := im_D.of (by decide +kernel)
theorem D307_162 {g : im_g} : im_D g 307 162 (.iastore) 163 := im_D.of (by decide +kernel)
theorem D307_163 {g : im_g} : im_D g 307 163 (.bipush (-100)) 165 := im_D.of (by decide +kernel)
theorem D307_165 {g : im_g} : im_D g 307 165 (.ireturn) 166 := im_D.of (by decide +kernel)
theorem D307_166 {g : im_g} : im_D g 307 166 (.iinc 12 1) 169 := im_D.of (by decide +kernel)
theorem D307_169 {g : im_g} : im_D g 307 169 (.goto (-85)) 172 := im_D.of (by decide +kernel)
theorem D307_172 {g : im_g} : im_D g 307 172 (.aload_n 0) 173 := im_D.of (by decide +kernel)
theorem D307_173 {g : im_g} : im_D g 307 173 (.aload_n 0) 174 := im_D.of (by decide +kernel)
theorem D307_174 {g : im_g} : im_D g 307 174 (.getfield 1140) 177 := im_D.of (by decide +kernel)
theorem D307_177 {g : im_g} : im_D g 307 177 (.invokevirtual 1151) 180 := im_D.of (by decide +kernel)
theorem D307_180 {g : im_g} : im_D g 307 180 (.iconst 0) 181 := im_D.of (by decide +kernel)
theorem D307_181 {g : im_g} : im_D g 307 181 (.istore 12) 183 := im_D.of (by decide +kernel)
theorem D307_183 {g : im_g} : im_D g 307 183 (.iload 12) 185 := im_D.of (by decide +kernel)
theorem D307_185 {g : im_g} : im_D g 307 185 (.iconst 4) 186 := im_D.of (by decide +kernel)
theorem D307_186 {g : im_g} : im_D g 307 186 (.if_icmp .ge 56) 189 := im_D.of (by decide +kernel)
theorem D307_189 {g : im_g} : im_D g 307 189 (.aload_n 0) 190 := im_D.of (by decide +kernel)
theorem D307_190 {g : im_g} : im_D g 307 190 (.aload_n 0) 191 := im_D.of (by decide +kernel)
theorem D307_191 {g : im_g} : im_D g 307 191 (.getfield 1140) 194 := im_D.of (by decide +kernel)
theorem D307_194 {g : im_g} : im_D g 307 194 (.iload 11) 196 := im_D.of (by decide +kernel)
theorem D307_196 {g : im_g} : im_D g 307 196 (.iadd) 197 := im_D.of (by decide +kernel)
theorem D307_197 {g : im_g} : im_D g 307 197 (.iconst 4) 198 := im_D.of (by decide +kernel)
theorem D307_198 {g : im_g} : im_D g 307 198 (.isub) 199 := im_D.of (by decide +kernel)
theorem D307_199 {g : im_g} : im_D g 307 199 (.iload 12) 201 := im_D.of (by decide +kernel)
theorem D307_201 {g : im_g} : im_D g 307 201 (.iadd) 202 := im_D.of (by decide +kernel)
theorem D307_202 {g : im_g} : im_D g 307 202 (.aload_n 0) 203 := im_D.of (by decide +kernel)
theorem D307_203 {g : im_g} : im_D g 307 203 (.getfield 1133) 206 := im_D.of (by decide +kernel)
theorem D307_206 {g : im_g} : im_D g 307 206 (.bipush 24) 208 := im_D.of (by decide +kernel)
theorem D307_208 {g : im_g} : im_D g 307 208 (.bipush 8) 210 := im_D.of (by decide +kernel)
theorem D307_210 {g : im_g} : im_D g 307 210 (.iload 12) 212 := im_D.of (by decide +kernel)
theorem D307_212 {g : im_g} : im_D g 307 212 (.imul) 213 := im_D.of (by decide +kernel)
theorem D307_213 {g : im_g} : im_D g 307 213 (.isub) 214 := im_D.of (by decide +kernel)
theorem D307_214 {g : im_g} : im_D g 307 214 (.ishr) 215 := im_D.of (by decide +kernel)
theorem D307_215 {g : im_g} : im_D g 307 215 (.invokevirtual 1148) 218 := im_D.of (by decide +kernel)
theorem D307_218 {g : im_g} : im_D g 307 218 (.ifCond .ne 18) 221 := im_D.of (by decide +kernel)
theorem D307_221 {g : im_g} : im_D g 307 221 (.aload_n 0) 222 := im_D.of (by decide +kernel)
theorem D307_222 {g : im_g} : im_D g 307 222 (.getfield 396) 225 := im_D.of (by decide +kernel)
theorem D307_225 {g : im_g} : im_D g 307 225 (.aload_n 0) 226 := im_D.of (by decide +kernel)
theorem D307_226 {g : im_g} : im_D g 307 226 (.getfield 1140) 229 := im_D.of (by decide +kernel)
theorem D307_229 {g : im_g} : im_D g 307 229 (.iconst 2) 230 := im_D.of (by decide +kernel)
theorem D307_230 {g : im_g} : im_D g 307 230 (.iadd) 231 := im_D.of (by decide +kernel)
theorem D307_231 {g : im_g} : im_D g 307 231 (.iconst 0) 232 := im_D.of (by decide +kernel)
theorem D307_232 {g : im_g} : im_D g 307 232 (.iastore) 233 := im_D.of (by decide +kernel)
theorem D307_233 {g : im_g} : im_D g 307 233 (.bipush (-100)) 235 := im_D.of (by decide +kernel)
theorem D307_235 {g : im_g} : im_D g 307 235 (.ireturn) 236 := im_D.of (by decide +kernel)
theorem D307_236 {g : im_g} : im_D g 307 236 (.iinc 12 1) 239 := im_D.of (by decide +kernel)
theorem D307_239 {g : im_g} : im_D g 307 239 (.goto (-56)) 242 := im_D.of (by decide +kernel)
theorem D307_242 {g : im_g} : im_D g 307 242 (.aload_n 0) 243 := im_D.of (by decide +kernel)
theorem D307_243 {g : im_g} : im_D g 307 243 (.dup) 244 := im_D.of (by decide +kernel)
theorem D307_244 {g : im_g} : im_D g 307 244 (.getfield 1140) 247 := im_D.of (by decide +kernel)
theorem D307_247 {g : im_g} : im_D g 307 247 (.iload 11) 249 := im_D.of (by decide +kernel)
theorem D307_249 {g : im_g} : im_D g 307 249 (.iadd) 250 := im_D.of (by decide +kernel)
theorem D307_250 {g : im_g} : im_D g 307 250 (.putfield 1140) 253 := im_D.of (by decide +kernel)
theorem D307_253 {g : im_g} : im_D g 307 253 (.aload_n 0) 254 := im_D.of (by decide +kernel)
theorem D307_254 {g : im_g} : im_D g 307 254 (.dup) 255 := im_D.of (by decide +kernel)
theorem D307_255 {g : im_g} : im_D g 307 255 (.getfield 1154) 258 := im_D.of (by decide +kernel)
theorem D307_258 {g : im_g} : im_D g 307 258 (.iconst 1) 259 := im_D.of (by decide +kernel)
theorem D307_259 {g : im_g} : im_D g 307 259 (.iadd) 260 := im_D.of (by decide +kernel)
theorem D307_260 {g : im_g} : im_D g 307 260 (.putfield 1154) 263 := im_D.of (by decide +kernel)
theorem D307_263 {g : im_g} : im_D g 307 263 (.iconst 0) 264 := im_D.of (by decide +kernel)
theorem D307_264 {g : im_g} : im_D g 307 264 (.ireturn) 265 := im_D.of (by decide +kernel)
theorem D308_0 {g : im_g} : im_D g 308 0 (.iload_n 1) 1 := im_D.of (by decide +kernel)
theorem D308_1 {g : im_g} : im_D g 308 1 (.iconst 3) 2 := im_D.of (by decide +kernel)
theorem D308_2 {g : im_g} : im_D g 308 2 (.if_icmp .ge 29) 5 := im_D.of (by decide +kernel)
theorem D308_5 {g : im_g} : im_D g 308 5 (.iload_n 1) 6 := im_D.of (by decide +kernel)
theorem D308_6 {g : im_g} : im_D g 308 6 (.ifCond .ne 10) 9 := im_D.of (by decide +kernel)
theorem D308_9 {g : im_g} : im_D g 308 9 (.iload_n 2) 10 := im_D.of (by decide +kernel)
theorem D308_10 {g : im_g} : im_D g 308 10 (.bipush 8) 12 := im_D.of (by decide +kernel)
theorem D308_12 {g : im_g} : im_D g 308 12 (.ishr) 13 := im_D.of (by decide +kernel)
theorem D308_13 {g : im_g} : im_D g 308 13 (.goto 17) 16 := im_D.of (by decide +kernel)
theorem D308_16 {g : im_g} : im_D g 308 16 (.iload_n 1) 17 := im_D.of (by decide +kernel)
theorem D308_17 {g : im_g} : im_D g 308 17 (.iconst 1) 18 := im_D.of (by decide +kernel)
theorem D308_18 {g : im_g} : im_D g 308 18 (.if_icmp .ne 11) 21 := im_D.of (by decide +kernel)
theorem D308_21 {g : im_g} : im_D g 308 21 (.iload_n 2) 22 := im_D.of (by decide +kernel)
theorem D308_22 {g : im_g} : im_D g 308 22 (.sipush 255) 25 := im_D.of (by decide +kernel)
theorem D308_25 {g : im_g} : im_D g 308 25 (.iand) 26 := im_D.of (by decide +kernel)
theorem D308_26 {g : im_g} : im_D g 308 26 (.goto 4) 29 := im_D.of (by decide +kernel)
theorem D308_29 {g : im_g} : im_D g 308 29 (.iload_n 3) 30 := im_D.of (by decide +kernel)
theorem D308_30 {g : im_g} : im_D g 308 30 (.ireturn) 31 := im_D.of (by decide +kernel)
theorem D308_31 {g : im_g} : im_D g 308 31 (.iload_n 1) 32 := im_D.of (by decide +kernel)
theorem D308_32 {g : im_g} : im_D g 308 32 (.iconst 3) 33 := im_D.of (by decide +kernel)
theorem D308_33 {g : im_g} : im_D g 308 33 (.isub) 34 := im_D.of (by decide +kernel)
theorem D308_34 {g : im_g} : im_D g 308 34 (.bipush 8) 36 := im_D.of (by decide +kernel)
theorem D308_36 {g : im_g} : im_D g 308 36 (.idiv) 37 := im_D.of (by decide +kernel)
theorem D308_37 {g : im_g} : im_D g 308 37 (.istore 10) 39 := im_D.of (by decide +kernel)
theorem D308_39 {g : im_g} : im_D g 308 39 (.iload 10) 41 := im_D.of (by decide +kernel)
theorem D308_41 {g : im_g} : im_D g 308 41 (.ifCond .ne 8) 44 := im_D.of (by decide +kernel)
theorem D308_44 {g : im_g} : im_D g 308 44 (.lload 4) 46 := im_D.of (by decide +kernel)
theorem D308_46 {g : im_g} : im_D g 308 46 (.goto 16) 49 := im_D.of (by decide +kernel)
theorem D308_49 {g : im_g} : im_D g 308 49 (.iload 10) 51 := im_D.of (by decide +kernel)
theorem D308_51 {g : im_g} : im_D g 308 51 (.iconst 1) 52 := im_D.of (by decide +kernel)
theorem D308_52 {g : im_g} : im_D g 308 52 (.if_icmp .ne 8) 55 := im_D.of (by decide +kernel)
theorem D308_55 {g : im_g} : im_D g 308 55 (.lload 6) 57 := im_D.of (by decide +kernel)
theorem D308_57 {g : im_g} : im_D g 308 57 (.goto 5) 60 := im_D.of (by decide +kernel)
theorem D308_60 {g : im_g} : im_D g 308 60 (.lload 8) 62 := im_D.of (by decide +kernel)
theorem D308_62 {g : im_g} : im_D g 308 62 (.lstore 11) 64 := im_D.of (by decide +kernel)
theorem D308_64 {g : im_g} : im_D g 308 64 (.lload 11) 66 := im_D.of (by decide +kernel)
theorem D308_66 {g : im_g} : im_D g 308 66 (.bipush 56) 68 := im_D.of (by decide +kernel)
theorem D308_68 {g : im_g} : im_D g 308 68 (.bipush 8) 70 := im_D.of (by decide +kernel)
theorem D308_70 {g : im_g} : im_D g 308 70 (.iload_n 1) 71 := im_D.of (by decide +kernel)
theorem D308_71 {g : im_g} : im_D g 308 71 (.iconst 3) 72 := im_D.of (by decide +kernel)
theorem D308_72 {g : im_g} : im_D g 308 72 (.isub) 73 := im_D.of (by decide +kernel)
theorem D308_73 {g : im_g} : im_D g 308 73 (.bipush 8) 75 := im_D.of (by decide +kernel)
theorem D308_75 {g : im_g} : im_D g 308 75 (.irem) 76 := im_D.of (by decide +kernel)
theorem D308_76 {g : im_g} : im_D g 308 76 (.imul) 77 := im_D.of (by decide +kernel)
theorem D308_77 {g : im_g} : im_D g 308 77 (.isub) 78 := im_D.of (by decide +kernel)
theorem D308_78 {g : im_g} : im_D g 308 78 (.lshr) 79 := im_D.of (by decide +kernel)
theorem D308_79 {g : im_g} : im_D g 308 79 (.ldc2_w 436) 82 := im_D.of (by decide +kernel)
theorem D308_82 {g : im_g} : im_D g 308 82 (.land) 83 := im_D.of (by decide +kernel)
theorem D308_83 {g : im_g} : im_D g 308 83 (.l2i) 84 := im_D.of (by decide +kernel)
theorem D308_84 {g : im_g} : im_D g 308 84 (.ireturn) 85 := im_D.of (by decide +kernel)
theorem D309_0 {g : im_g} : im_D g 309 0 (.aload_n 0) 1 := im_D.of (by decide +kernel)
theorem D309_1 {g : im_g} : im_D g 309 1 (.aload_n 0) 2 := im_D.of (by decide +kernel)
theorem D309_2 {g : im_g} : im_D g 309 2 (.getfield 1133) 5 := im_D.of (by decide +kernel)
theorem D309_5 {g : im_g} : im_D g 309 5 (.iload_n 1) 6 := im_D.of (by decide +kernel)
theorem D309_6 {g : im_g} : im_D g 309 6 (.sipush 255) 9 := im_D.of (by decide +kernel)
theorem D309_9 {g : im_g} : im_D g 309 9 (.iand) 10 := im_D.of (by decide +kernel)
theorem D309_10 {g : im_g} : im_D g 309 10 (.ixor) 11 := im_D.of (by decide +kernel)
theorem D309_11 {g : im_g} : im_D g 309 11 (.ldc_w 1136) 14 := im_D.of (by decide +kernel)
theorem D309_14 {g : im_g} : im_D g 309 14 (.imul) 15 := im_D.of (by decide +kernel)
theorem D309_15 {g : im_g} : im_D g 309 15 (.putfield 1133) 18 := im_D.of (by decide +kernel)
theorem D309_18 {g : im_g} : im_D g 309 18 (.return_) 19 := im_D.of (by decide +kernel)
theorem D310_0 {g : im_g} : im_D g 310 0 (.aload_n 0) 1 := im_D.of (by decide +kernel)
theorem D310_1 {g : im_g} : im_D g 310 1 (.getfield 399) 4 := im_D.of (by decide +kernel)
theorem D310_4 {g : im_g} : im_D g 310 4 (.ifCond .ne 10) 7 := im_D.of (by decide +kernel)
theorem D310_7 {g : im_g} : im_D g 310 7 (.aload_n 0) 8 := im_D.of (by decide +kernel)
theorem D310_8 {g : im_g} : im_D g 310 8 (.iconst 1) 9 := im_D.of (by decide +kernel)
theorem D310_9 {g : im_g} : im_D g 310 9 (.putfield 412) 12 := im_D.of (by decide +kernel)
theorem D310_12 {g : im_g} : im_D g 310 12 (.iconst 0) 13 := im_D.of (by decide +kernel)
theorem D310_13 {g : im_g} : im_D g 310 13 (.ireturn) 14 := im_D.of (by decide +kernel)
theorem D310_14 {g : im_g} : im_D g 310 14 (.aload_n 0) 15 := im_D.of (by decide +kernel)
theorem D310_15 {g : im_g} : im_D g 310 15 (.dup) 16 := im_D.of (by decide +kernel)
theorem D310_16 {g : im_g} : im_D g 310 16 (.getfield 399) 19 := im_D.of (by decide +kernel)
theorem D310_19 {g : im_g} : im_D g 310 19 (.aload_n 0) 20 := im_D.of (by decide +kernel)
theorem D310_20 {g : im_g} : im_D g 310 20 (.getfield 399) 23 := im_D.of (by decide +kernel)
theorem D310_23 {g : im_g} : im_D g 310 23 (.ifCond .le 7) 26 := im_D.of (by decide +kernel)
theorem D310_26 {g : im_g} : im_D g 310 26 (.iconst 1) 27 := im_D.of (by decide +kernel)
theorem D310_27 {g : im_g} : im_D g 310 27 (.goto 4) 30 := im_D.of (by decide +kernel)
theorem D310_30 {g : im_g} : im_D g 310 30 (.iconst 0) 31 := im_D.of (by decide +kernel)
theorem D310_31 {g : im_g} : im_D g 310 31 (.isub) 32 := im_D.of (by decide +kernel)
theorem D310_32 {g : im_g} : im_D g 310 32 (.putfield 399) 35 := im_D.of (by decide +kernel)
theorem D310_35 {g : im_g} : im_D g 310 35 (.aload_n 0) 36 := im_D.of (by decide +kernel)
theorem D310_36 {g : im_g} : im_D g 310 36 (.getfield 396) 39 := im_D.of (by decide +kernel)
theorem D310_39 {g : im_g} : im_D g 310 39 (.iload_n 1) 40 := im_D.of (by decide +kernel)
theorem D310_40 {g : im_g} : im_D g 310 40 (.iload_n 2) 41 := im_D.of (by decide +kernel)
theorem D310_41 {g : im_g} : im_D g 310 41 (.sipush 255) 44 := im_D.of (by decide +kernel)
theorem D310_44 {g : im_g} : im_D g 310 44 (.iand) 45 := im_D.of (by decide +kernel)
theorem D310_45 {g : im_g} : im_D g 310 45 (.iastore) 46 := im_D.of (by decide +kernel)
theorem D310_46 {g : im_g} : im_D g 310 46 (.iconst 1) 47 := im_D.of (by decide +kernel)
theorem D310_47 {g : im_g} : im_D g 310 47 (.ireturn) 48 := im_D.of (by decide +kernel)
theorem D311_0 {g : im_g} : im_D g 311 0 (.bipush 24) 2 := im_D.of (by decide +kernel)
theorem D311_2 {g : im_g} : im_D g 311 2 (.istore_n 2) 3 := im_D.of (by decide +kernel)
theorem D311_3 {g : im_g} : im_D g 311 3 (.iload_n 2) 4 := im_D.of (by decide +kernel)
theorem D311_4 {g : im_g} : im_D g 311 4 (.ifCond .lt 16) 7 := im_D.of (by decide +kernel)
theorem D311_7 {g : im_g} : im_D g 311 7 (.aload_n 0) 8 := im_D.of (by decide +kernel)
theorem D311_8 {g : im_g} : im_D g 311 8 (.iload_n 1) 9 := im_D.of (by decide +kernel)
theorem D311_9 {g : im_g} : im_D g 311 9 (.iload_n 2) 10 := im_D.of (by decide +kernel)
theorem D311_10 {g : im_g} : im_D g 311 10 (.ishr) 11 := im_D.of (by decide +kernel)
theorem D311_11 {g : im_g} : im_D g 311 11 (.invokevirtual 1137) 14 := im_D.of (by decide +kernel)
theorem D311_14 {g : im_g} : im_D g 311 14 (.iinc 2 (-8)) 17 := im_D.of (by decide +kernel)
theorem D311_17 {g : im_g} : im_D g 311 17 (.goto (-14)) 20 := im_D.of (by decide +kernel)
theorem D311_20 {g : im_g} : im_D g 311 20 (.return_) 21 := im_D.of (by decide +kernel)
theorem D312_0 {g : im_g} : im_D g 312 0 (.aload_n 0) 1 := im_D.of (by decide +kernel)
theorem D312_1 {g : im_g} : im_D g 312 1 (.getfield 106) 4 := im_D.of (by decide +kernel)
theorem D312_4 {g : im_g} : im_D g 312 4 (.iload_n 1) 5 := im_D.of (by decide +kernel)
theorem D312_5 {g : im_g} : im_D g 312 5 (.iconst 1) 6 := im_D.of (by decide +kernel)
theorem D312_6 {g : im_g} : im_D g 312 6 (.bastore) 7 := im_D.of (by decide +kernel)
theorem D312_7 {g : im_g} : im_D g 312 7 (.aload_n 0) 8 := im_D.of (by decide +kernel)
theorem D312_8 {g : im_g} : im_D g 312 8 (.getfield 109) 11 := im_D.of (by decide +kernel)
theorem D312_11 {g : im_g} : im_D g 312 11 (.iload_n 1) 12 := im_D.of (by decide +kernel)
theorem D312_12 {g : im_g} : im_D g 312 12 (.aload_n 0) 13 := im_D.of (by decide +kernel)
theorem D312_13 {g : im_g} : im_D g 312 13 (.getfield 626) 16 := im_D.of (by decide +kernel)
theorem D312_16 {g : im_g} : im_D g 312 16 (.iastore) 17 := im_D.of (by decide +kernel)
theorem D312_17 {g : im_g} : im_D g 312 17 (.aload_n 0) 18 := im_D.of (by decide +kernel)
theorem D312_18 {g : im_g} : im_D g 312 18 (.getfield 112) 21 := im_D.of (by decide +kernel)
theorem D312_21 {g : im_g} : im_D g 312 21 (.iload_n 1) 22 := im_D.of (by decide +kernel)
theorem D312_22 {g : im_g} : im_D g 312 22 (.aload_n 0) 23 := im_D.of (by decide +kernel)
theorem D312_23 {g : im_g} : im_D g 312 23 (.getfield 629) 26 := im_D.of (by decide +kernel)
theorem D312_26 {g : im_g} : im_D g 312 26 (.aload_n 0) 27 := im_D.of (by decide +kernel)
theorem D312_27 {g : im_g} : im_D g 312 27 (.getfield 632) 30 := im_D.of (by decide +kernel)
theorem D312_30 {g : im_g} : im_D g 312 30 (.isub) 31 := im_D.of (by decide +kernel)
theorem D312_31 {g : im_g} : im_D g 312 31 (.iastore) 32 := im_D.of (by decide +kernel)
theorem D312_32 {g : im_g} : im_D g 312 32 (.aload_n 0) 33 := im_D.of (by decide +kernel)
theorem D312_33 {g : im_g} : im_D g 312 33 (.aload_n 0) 34 := im_D.of (by decide +kernel)
theorem D312_34 {g : im_g} : im_D g 312 34 (.getfield 629) 37 := im_D.of (by decide +kernel)
theorem D312_37 {g : im_g} : im_D g 312 37 (.putfield 632) 40 := im_D.of (by decide +kernel)
theorem D312_40 {g : im_g} : im_D g 312 40 (.aload_n 0) 41 := im_D.of (by decide +kernel)
theorem D312_41 {g : im_g} : im_D g 312 41 (.aload_n 0) 42 := im_D.of (by decide +kernel)
theorem D312_42 {g : im_g} : im_D g 312 42 (.getfield 665) 45 := im_D.of (by decide +kernel)
theorem D312_45 {g : im_g} : im_D g 312 45 (.putfield 710) 48 := im_D.of (by decide +kernel)
theorem D312_48 {g : im_g} : im_D g 312 48 (.aload_n 0) 49 := im_D.of (by decide +kernel)
theorem D312_49 {g : im_g} : im_D g 312 49 (.aload_n 0) 50 := im_D.of (by decide +kernel)
theorem D312_50 {g : im_g} : im_D g 312 50 (.getfield 449) 53 := im_D.of (by decide +kernel)
theorem D312_53 {g : im_g} : im_D g 312 53 (.putfield 617) 56 := im_D.of (by decide +kernel)
theorem D312_56 {g : im_g} : im_D g 312 56 (.aload_n 0) 57 := im_D.of (by decide +kernel)
theorem D312_57 {g : im_g} : im_D g 312 57 (.getfield 112) 60 := im_D.of (by decide +kernel)
theorem D312_60 {g : im_g} : im_D g 312 60 (.iload_n 1) 61 := im_D.of (by decide +kernel)
theorem D312_61 {g : im_g} : im_D g 312 61 (.iaload) 62 := im_D.of (by decide +kernel)
theorem D312_62 {g : im_g} : im_D g 312 62 (.ireturn) 63 := im_D.of (by decide +kernel)
theorem D313_0 {g : im_g} : im_D g 313 0 (.aload_n 0) 1 := im_D.of (by decide +kernel)
theorem D313_1 {g : im_g} : im_D g 313 1 (.iconst 0) 2 := im_D.of (by decide +kernel)
theorem D313_2 {g : im_g} : im_D g 313 2 (.putfield 409) 5 := im_D.of (by decide +kernel)
theorem D313_5 {g : im_g} : im_D g 313 5 (.iload_n 1) 6 := im_D.of (by decide +kernel)
theorem D313_6 {g : im_g} : im_D g 313 6 (.ifCond .eq 10) 9 := im_D.of (by decide +kernel)
theorem D313_9 {g : im_g} : im_D g 313 9 (.aload_n 0) 10 := im_D.of (by decide +kernel)
theorem D313_10 {g : im_g} : im_D g 313 10 (.getfield 406) 13 := im_D.of (by decide +kernel)
theorem D313_13 {g : im_g} : im_D g 313 13 (.goto 7) 16 := im_D.of (by decide +kernel)
theorem D313_16 {g : im_g} : im_D g 313 16 (.aload_n 0) 17 := im_D.of (by decide +kernel)
theorem D313_17 {g : im_g} : im_D g 313 17 (.getfield 403) 20 := im_D.of (by decide +kernel)
theorem D313_20 {g : im_g} : im_D g 313 20 (.ireturn) 21 := im_D.of (by decide +kernel)
theorem D314_0 {g : im_g} : im_D g 314 0 (.aload_n 0) 1 := im_D.of (by decide +kernel)
theorem D314_1 {g : im_g} : im_D g 314 1 (.iconst 2) 2 := im_D.of (by decide +kernel)
theorem D314_2 {g : im_g} : im_D g 314 2 (.iload_n 1) 3 := im_D.of (by decide +kernel)
theorem D314_3 {g : im_g} : im_D g 314 3 (.i2l) 4 := im_D.of (by decide +kernel)
theorem D314_4 {g : im_g} : im_D g 314 4 (.lconst 0) 5 := im_D.of (by decide +kernel)
theorem D314_5 {g : im_g} : im_D g 314 5 (.ldc2_w 729) 8 := im_D.of (by decide +kernel)
theorem D314_8 {g : im_g} : im_D g 314 8 (.invokestatic 428) 11 := im_D.of (by decide +kernel)
theorem D314_11 {g : im_g} : im_D g 314 11 (.iload_n 1) 12 := im_D.of (by decide +kernel)
theorem D314_12 {g : im_g} : im_D g 314 12 (.i2l) 13 := im_D.of (by decide +kernel)
theorem D314_13 {g : im_g} : im_D g 314 13 (.lconst 0) 14 := im_D.of (by decide +kernel)
theorem D314_14 {g : im_g} : im_D g 314 14 (.ldc2_w 729) 17 := im_D.of (by decide +kernel)
theorem D314_17 {g : im_g} : im_D g 314 17 (.invokestatic 428) 20 := im_D.of (by decide +kernel)
theorem D314_20 {g : im_g} : im_D g 314 20 (.ifCond .eq 16) 23 := im_D.of (by decide +kernel)
theorem D314_23 {g : im_g} : im_D g 314 23 (.aload_n 0) 24 := im_D.of (by decide +kernel)
theorem D314_24 {g : im_g} : im_D g 314 24 (.getfield 106) 27 := im_D.of (by decide +kernel)
theorem D314_27 {g : im_g} : im_D g 314 27 (.iload_n 1) 28 := im_D.of (by decide +kernel)
theorem D314_28 {g : im_g} : im_D g 314 28 (.baload) 29 := im_D.of (by decide +kernel)
theorem D314_29 {g : im_g} : im_D g 314 29 (.ifCond .eq 7) 32 := im_D.of (by decide +kernel)
theorem D314_32 {g : im_g} : im_D g 314 32 (.iconst 1) 33 := im_D.of (by decide +kernel)
theorem D314_33 {g : im_g} : im_D g 314 33 (.goto 4) 36 := im_D.of (by decide +kernel)
theorem D314_36 {g : im_g} : im_D g 314 36 (.iconst 0) 37 := im_D.of (by decide +kernel)
theorem D314_37 {g : im_g} : im_D g 314 37 (.iconst 1) 38 := im_D.of (by decide +kernel)
theorem D314_38 {g : im_g} : im_D g 314 38 (.invokevirtual 419) 41 := im_D.of (by decide +kernel)
theorem D314_41 {g : im_g} : im_D g 314 41 (.ifCond .ne 5) 44 := im_D.of (by decide +kernel)
theorem D314_44 {g : im_g} : im_D g 314 44 (.iconst 0) 45 := im_D.of (by decide +kernel)
theorem D314_45 {g : im_g} : im_D g 314 45 (.ireturn) 46 := im_D.of (by decide +kernel)
theorem D314_46 {g : im_g} : im_D g 314 46 (.aload_n 0) 47 := im_D.of (by decide +kernel)
theorem D314_47 {g : im_g} : im_D g 314 47 (.iconst 2) 48 := im_D.of (by decide +kernel)
theorem D314_48 {g : im_g} : im_D g 314 48 (.iconst 1) 49 := im_D.of (by decide +kernel)
theorem D314_49 {g : im_g} : im_D g 314 49 (.iload_n 1) 50 := im_D.of (by decide +kernel)
theorem D314_50 {g : im_g} : im_D g 314 50 (.i2l) 51 := im_D.of (by decide +kernel)
theorem D314_51 {g : im_g} : im_D g 314 51 (.lconst 0) 52 := im_D.of (by decide +kernel)
theorem D314_52 {g : im_g} : im_D g 314 52 (.lconst 0) 53 := im_D.of (by decide +kernel)
theorem D314_53 {g : im_g} : im_D g 314 53 (.iconst 0) 54 := im_D.of (by decide +kernel)
theorem D314_54 {g : im_g} : im_D g 314 54 (.invokevirtual 740) 57 := im_D.of (by decide +kernel)
theorem D314_57 {g : im_g} : im_D g 314 57 (.istore_n 2) 58 := im_D.of (by decide +kernel)
theorem D314_58 {g : im_g} : im_D g 314 58 (.iload_n 2) 59 := im_D.of (by decide +kernel)
theorem D314_59 {g : im_g} : im_D g 314 59 (.bipush (-100)) 61 := im_D.of (by decide +kernel)
theorem D314_61 {g : im_g} : im_D g 314 61 (.if_icmp .ne 10) 64 := im_D.of (by decide +kernel)
theorem D314_64 {g : im_g} : im_D g 314 64 (.aload_n 0) 65 := im_D.of (by decide +kernel)
theorem D314_65 {g : im_g} : im_D g 314 65 (.iconst 2) 66 := im_D.of (by decide +kernel)
theorem D314_66 {g : im_g} : im_D g 314 66 (.putfield 409) 69 := im_D.of (by decide +kernel)
theorem D314_69 {g : im_g} : im_D g 314 69 (.iconst 0) 70 := im_D.of (by decide +kernel)
theorem D314_70 {g : im_g} : im_D g 314 70 (.ireturn) 71 := im_D.of (by decide +kernel)
theorem D314_71 {g : im_g} : im_D g 314 71 (.aload_n 0) 72 := im_D.of (by decide +kernel)
theorem D314_72 {g : im_g} : im_D g 314 72 (.getfield 106) 75 := im_D.of (by decide +kernel)
theorem D314_75 {g : im_g} : im_D g 314 75 (.iload_n 1) 76 := im_D.of (by decide +kernel)
theorem D314_76 {g : im_g} : im_D g 314 76 (.aload_n 0) 77 := im_D.of (by decide +kernel)
theorem D314_77 {g : im_g} : im_D g 314 77 (.getfield 106) 80 := im_D.of (by decide +kernel)
theorem D314_80 {g : im_g} : im_D g 314 80 (.iload_n 1) 81 := im_D.of (by decide +kernel)
theorem D314_81 {g : im_g} : im_D g 314 81 (.baload) 82 := im_D.of (by decide +kernel)
theorem D314_82 {g : im_g} : im_D g 314 82 (.ifCond .eq 11) 85 := im_D.of (by decide +kernel)
theorem D314_85 {g : im_g} : im_D g 314 85 (.iload_n 2) 86 := im_D.of (by decide +kernel)
theorem D314_86 {g : im_g} : im_D g 314 86 (.ifCond .ge 7) 89 := im_D.of (by decide +kernel)
theorem D314_89 {g : im_g} : im_D g 314 89 (.iconst 1) 90 := im_D.of (by decide +kernel)
theorem D314_90 {g : im_g} : im_D g 314 90 (.goto 4) 93 := im_D.of (by decide +kernel)
theorem D314_93 {g : im_g} : im_D g 314 93 (.iconst 0) 94 := im_D.of (by decide +kernel)
theorem D314_94 {g : im_g} : im_D g 314 94 (.bastore) 95 := im_D.of (by decide +kernel)
theorem D314_95 {g : im_g} : im_D g 314 95 (.iload_n 2) 96 := im_D.of (by decide +kernel)
theorem D314_96 {g : im_g} : im_D g 314 96 (.ireturn) 97 := im_D.of (by decide +kernel)
theorem D315_0 {g : im_g} : im_D g 315 0 (.aload_n 0) 1 := im_D.of (by decide +kernel)
theorem D315_1 {g : im_g} : im_D g 315 1 (.iconst 2) 2 := im_D.of (by decide +kernel)
theorem D315_2 {g : im_g} : im_D g 315 2 (.iload_n 1) 3 := im_D.of (by decide +kernel)
theorem D315_3 {g : im_g} : im_D g 315 3 (.i2l) 4 := im_D.of (by decide +kernel)
theorem D315_4 {g : im_g} : im_D g 315 4 (.lconst 0) 5 := im_D.of (by decide +kernel)
theorem D315_5 {g : im_g} : im_D g 315 5 (.ldc2_w 729) 8 := im_D.of (by decide +kernel)
theorem D315_8 {g : im_g} : im_D g 315 8 (.invokestatic 428) 11 := im_D.of (by decide +kernel)
theorem D315_11 {g : im_g} : im_D g 315 11 (.iload_n 1) 12 := im_D.of (by decide +kernel)
theorem D315_12 {g : im_g} : im_D g 315 12 (.i2l) 13 := im_D.of (by decide +kernel)
theorem D315_13 {g : im_g} : im_D g 315 13 (.lconst 0) 14 := im_D.of (by decide +kernel)
theorem D315_14 {g : im_g} : im_D g 315 14 (.ldc2_w 729) 17 := im_D.of (by decide +kernel)
theorem D315_17 {g : im_g} : im_D g 315 17 (.invokestatic 428) 20 := im_D.of (by decide +kernel)
theorem D315_20 {g : im_g} : im_D g 315 20 (.ifCond .eq 16) 23 := im_D.of (by decide +kernel)
theorem D315_23 {g : im_g} : im_D g 315 23 (.aload_n 0) 24 := im_D.of (by decide +kernel)
theorem D315_24 {g : im_g} : im_D g 315 24 (.getfield 106) 27 := im_D.of (by decide +kernel)
theorem D315_27 {g : im_g} : im_D g 315 27 (.iload_n 1) 28 := im_D.of (by decide +kernel)
theorem D315_28 {g : im_g} : im_D g 315 28 (.baload) 29 := im_D.of (by decide +kernel)
theorem D315_29 {g : im_g} : im_D g 315 29 (.ifCond .eq 7) 32 := im_D.of (by decide +kernel)
theorem D315_32 {g : im_g} : im_D g 315 32 (.iconst 1) 33 := im_D.of (by decide +kernel)
theorem D315_33 {g : im_g} : im_D g 315 33 (.goto 4) 36 := im_D.of (by decide +kernel)
theorem D315_36 {g : im_g} : im_D g 315 36 (.iconst 0) 37 := im_D.of (by decide +kernel)
theorem D315_37 {g : im_g} : im_D g 315 37 (.iconst 1) 38 := im_D.of (by decide +kernel)
theorem D315_38 {g : im_g} : im_D g 315 38 (.invokevirtual 419) 41 := im_D.of (by decide +kernel)
theorem D315_41 {g : im_g} : im_D g 315 41 (.ifCond .eq 16) 44 := im_D.of (by decide +kernel)
theorem D315_44 {g : im_g} : im_D g 315 44 (.aload_n 0) 45 := im_D.of (by decide +kernel)
theorem D315_45 {g : im_g} : im_D g 315 45 (.aload_n 0) 46 := im_D.of (by decide +kernel)
theorem D315_46 {g : im_g} : im_D g 315 46 (.getfield 109) 49 := im_D.of (by decide +kernel)
theorem D315_49 {g : im_g} : im_D g 315 49 (.iload_n 1) 50 := im_D.of (by decide +kernel)
theorem D315_50 {g : im_g} : im_D g 315 50 (.iaload) 51 := im_D.of (by decide +kernel)
theorem D315_51 {g : im_g} : im_D g 315 51 (.invokevirtual 776) 54 := im_D.of (by decide +kernel)
theorem D315_54 {g : im_g} : im_D g 315 54 (.goto 4) 57 := im_D.of (by decide +kernel)
theorem D315_57 {g : im_g} : im_D g 315 57 (.iconst 0) 58 := im_D.of (by decide +kernel)
theorem D315_58 {g : im_g} : im_D g 315 58 (.ireturn) 59 := im_D.of (by decide +kernel)
theorem D316_0 {g : im_g} : im_D g 316 0 (.aload_n 0) 1 := im_D.of (by decide +kernel)
theorem D316_1 {g : im_g} : im_D g 316 1 (.iconst 0) 2 := im_D.of (by decide +kernel)
theorem D316_2 {g : im_g} : im_D g 316 2 (.putfield 423) 5 := im_D.of (by decide +kernel)
theorem D316_5 {g : im_g} : im_D g 316 5 (.aload_n 0) 6 := im_D.of (by decide +kernel)
theorem D316_6 {g : im_g} : im_D g 316 6 (.iconst 0) 7 := im_D.of (by decide +kernel)
theorem D316_7 {g : im_g} : im_D g 316 7 (.putfield 747) 10 := im_D.of (by decide +kernel)
theorem D316_10 {g : im_g} : im_D g 316 10 (.aload_n 0) 11 := im_D.of (by decide +kernel)
theorem D316_11 {g : im_g} : im_D g 316 11 (.iconst 0) 12 := im_D.of (by decide +kernel)
theorem D316_12 {g : im_g} : im_D g 316 12 (.iload_n 1) 13 := im_D.of (by decide +kernel)
theorem D316_13 {g : im_g} : im_D g 316 13 (.invokevirtual 753) 16 := im_D.of (by decide +kernel)
theorem D316_16 {g : im_g} : im_D g 316 16 (.aload_n 0) 17 := im_D.of (by decide +kernel)
theorem D316_17 {g : im_g} : im_D g 316 17 (.getfield 747) 20 := im_D.of (by decide +kernel)
theorem D316_20 {g : im_g} : im_D g 316 20 (.ifCond .le 116) 23 := im_D.of (by decide +kernel)
theorem D316_23 {g : im_g} : im_D g 316 23 (.aload_n 0) 24 := im_D.of (by decide +kernel)
theorem D316_24 {g : im_g} : im_D g 316 24 (.dup) 25 := im_D.of (by decide +kernel)
theorem D316_25 {g : im_g} : im_D g 316 25 (.getfield 747) 28 := im_D.of (by decide +kernel)
theorem D316_28 {g : im_g} : im_D g 316 28 (.iconst 1) 29 := im_D.of (by decide +kernel)
theorem D316_29 {g : im_g} : im_D g 316 29 (.isub) 30 := im_D.of (by decide +kernel)
theorem D316_30 {g : im_g} : im_D g 316 30 (.putfield 747) 33 := im_D.of (by decide +kernel)
theorem D316_33 {g : im_g} : im_D g 316 33 (.aload_n 0) 34 := im_D.of (by decide +kernel)
theorem D316_34 {g : im_g} : im_D g 316 34 (.getfield 118) 37 := im_D.of (by decide +kernel)
theorem D316_37 {g : im_g} : im_D g 316 37 (.aload_n 0) 38 := im_D.of (by decide +kernel)
theorem D316_38 {g : im_g} : im_D g 316 38 (.getfield 747) 41 := im_D.of (by decide +kernel)
theorem D316_41 {g : im_g} : im_D g 316 41 (.iaload) 42 := im_D.of (by decide +kernel)
theorem D316_42 {g : im_g} : im_D g 316 42 (.istore_n 2) 43 := im_D.of (by decide +kernel)
theorem D316_43 {g : im_g} : im_D g 316 43 (.aload_n 0) 44 := im_D.of (by decide +kernel)
theorem D316_44 {g : im_g} : im_D g 316 44 (.getfield 115) 47 := im_D.of (by decide +kernel)
theorem D316_47 {g : im_g} : im_D g 316 47 (.aload_n 0) 48 := im_D.of (by decide +kernel)
theorem D316_48 {g : im_g} : im_D g 316 48 (.getfield 747) 51 := im_D.of (by decide +kernel)
theorem D316_51 {g : im_g} : im_D g 316 51 (.iaload) 52 := im_D.of (by decide +kernel)
theorem D316_52 {g : im_g} : im_D g 316 52 (.istore_n 3) 53 := im_D.of (by decide +kernel)
theorem D316_53 {g : im_g} : im_D g 316 53 (.iload_n 2) 54 := im_D.of (by decide +kernel)
theorem D316_54 {g : im_g} : im_D g 316 54 (.ifCond .ne 11) 57 := im_D.of (by decide +kernel)
theorem D316_57 {g : im_g} : im_D g 316 57 (.aload_n 0) 58 := im_D.of (by decide +kernel)
theorem D316_58 {g : im_g} : im_D g 316 58 (.iload_n 3) 59 := im_D.of (by decide +kernel)
theorem D316_59 {g : im_g} : im_D g 316 59 (.invokevirtual 770) 62 := im_D.of (by decide +kernel)
theorem D316_62 {g : im_g} : im_D g 316 62 (.goto 71) 65 := im_D.of (by decide +kernel)
theorem D316_65 {g : im_g} : im_D g 316 65 (.iload_n 2) 66 := im_D.of (by decide +kernel)
theorem D316_66 {g : im_g} : im_D g 316 66 (.iconst 3) 67 := im_D.of (by decide +kernel)
theorem D316_67 {g : im_g} : im_D g 316 67 (.if_icmp .ge 28) 70 := im_D.of (by decide +kernel)
theorem D316_70 {g : im_g} : im_D g 316 70 (.aload_n 0) 71 := im_D.of (by decide +kernel)
theorem D316_71 {g : im_g} : im_D g 316 71 (.bipush 32) 73 := im_D.of (by decide +kernel)
theorem D316_73 {g : im_g} : im_D g 316 73 (.invokevirtual 432) 76 := im_D.of (by decide +kernel)
theorem D316_76 {g : im_g} : im_D g 316 76 (.aload_n 0) 77 := im_D.of (by decide +kernel)
theorem D316_77 {g : im_g} : im_D g 316 77 (.iload_n 2) 78 := im_D.of (by decide +kernel)
theorem D316_78 {g : im_g} : im_D g 316 78 (.iconst 1) 79 := im_D.of (by decide +kernel)
theorem D316_79 {g : im_g} : im_D g 316 79 (.if_icmp .ne 8) 82 := im_D.of (by decide +kernel)
theorem D316_82 {g : im_g} : im_D g 316 82 (.bipush 91) 84 := im_D.of (by decide +kernel)
theorem D316_84 {g : im_g} : im_D g 316 84 (.goto 5) 87 := im_D.of (by decide +kernel)
theorem D316_87 {g : im_g} : im_D g 316 87 (.bipush 93) 89 := im_D.of (by decide +kernel)
theorem D316_89 {g : im_g} : im_D g 316 89 (.invokevirtual 432) 92 := im_D.of (by decide +kernel)
theorem D316_92 {g : im_g} : im_D g 316 92 (.goto 41) 95 := im_D.of (by decide +kernel)
theorem D316_95 {g : im_g} : im_D g 316 95 (.aload_n 0) 96 := im_D.of (by decide +kernel)
theorem D316_96 {g : im_g} : im_D g 316 96 (.getfield 63) 99 := im_D.of (by decide +kernel)
theorem D316_99 {g : im_g} : im_D g 316 99 (.iload_n 3) 100 := im_D.of (by decide +kernel)
theorem D316_100 {g : im_g} : im_D g 316 100 (.baload) 101 := im_D.of (by decide +kernel)
theorem D316_101 {g : im_g} : im_D g 316 101 (.ifCond .eq 16) 104 := im_D.of (by decide +kernel)
theorem D316_104 {g : im_g} : im_D g 316 104 (.aload_n 0) 105 := im_D.of (by decide +kernel)
theorem D316_105 {g : im_g} : im_D g 316 105 (.aload_n 0) 106 := im_D.of (by decide +kernel)
theorem D316_106 {g : im_g} : im_D g 316 106 (.getfield 36) 109 := im_D.of (by decide +kernel)
theorem D316_109 {g : im_g} : im_D g 316 109 (.iload_n 3) 110 := im_D.of (by decide +kernel)
theorem D316_110 {g : im_g} : im_D g 316 110 (.laload) 111 := im_D.of (by decide +kernel)
theorem D316_111 {g : im_g} : im_D g 316 111 (.invokevirtual 764) 114 := im_D.of (by decide +kernel)
theorem D316_114 {g : im_g} : im_D g 316 114 (.goto 19) 117 := im_D.of (by decide +kernel)
theorem D316_117 {g : im_g} : im_D g 316 117 (.aload_n 0) 118 := im_D.of (by decide +kernel)
theorem D316_118 {g : im_g} : im_D g 316 118 (.bipush 32) 120 := im_D.of (by decide +kernel)
theorem D316_120 {g : im_g} : im_D g 316 120 (.invokevirtual 432) 123 := im_D.of (by decide +kernel)
theorem D316_123 {g : im_g} : im_D g 316 123 (.aload_n 0) 124 := im_D.of (by decide +kernel)
theorem D316_124 {g : im_g} : im_D g 316 124 (.aload_n 0) 125 := im_D.of (by decide +kernel)
theorem D316_125 {g : im_g} : im_D g 316 125 (.getfield 60) 128 := im_D.of (by decide +kernel)
theorem D316_128 {g : im_g} : im_D g 316 128 (.iload_n 3) 129 := im_D.of (by decide +kernel)
theorem D316_129 {g : im_g} : im_D g 316 129 (.laload) 130 := im_D.of (by decide +kernel)
theorem D316_130 {g : im_g} : im_D g 316 130 (.invokevirtual 773) 133 := im_D.of (by decide +kernel)
theorem D316_133 {g : im_g} : im_D g 316 133 (.goto (-117)) 136 := im_D.of (by decide +kernel)
theorem D316_136 {g : im_g} : im_D g 316 136 (.aload_n 0) 137 := im_D.of (by decide +kernel)
theorem D316_137 {g : im_g} : im_D g 316 137 (.getfield 423) 140 := im_D.of (by decide +kernel)
theorem D316_140 {g : im_g} : im_D g 316 140 (.ireturn) 141 := im_D.of (by decide +kernel)
theorem D317_0 {g : im_g} : im_D g 317 0 (.iload_n 2) 1 := im_D.of (by decide +kernel)
theorem D317_1 {g : im_g} : im_D g 317 1 (.iconst (-1)) 2 := im_D.of (by decide +kernel)
theorem D317_2 {g : im_g} : im_D g 317 2 (.if_icmp .eq 33) 5 := im_D.of (by decide +kernel)
theorem D317_5 {g : im_g} : im_D g 317 5 (.aload_n 0) 6 := im_D.of (by decide +kernel)
theorem D317_6 {g : im_g} : im_D g 317 6 (.getfield 118) 9 := im_D.of (by decide +kernel)
theorem D317_9 {g : im_g} : im_D g 317 9 (.aload_n 0) 10 := im_D.of (by decide +kernel)
theorem D317_10 {g : im_g} : im_D g 317 10 (.getfield 747) 13 := im_D.of (by decide +kernel)
theorem D317_13 {g : im_g} : im_D g 317 13 (.iload_n 1) 14 := im_D.of (by decide +kernel)
theorem D317_14 {g : im_g} : im_D g 317 14 (.iastore) 15 := im_D.of (by decide +kernel)
theorem D317_15 {g : im_g} : im_D g 317 15 (.aload_n 0) 16 := im_D.of (by decide +kernel)
theorem D317_16 {g : im_g} : im_D g 317 16 (.getfield 115) 19 := im_D.of (by decide +kernel)
theorem D317_19 {g : im_g} : im_D g 317 19 (.aload_n 0) 20 := im_D.of (by decide +kernel)
theorem D317_20 {g : im_g} : im_D g 317 20 (.getfield 747) 23 := im_D.of (by decide +kernel)
theorem D317_23 {g : im_g} : im_D g 317 23 (.iload_n 2) 24 := im_D.of (by decide +kernel)
theorem D317_24 {g : im_g} : im_D g 317 24 (.iastore) 25 := im_D.of (by decide +kernel)
theorem D317_25 {g : im_g} : im_D g 317 25 (.aload_n 0) 26 := im_D.of (by decide +kernel)
theorem D317_26 {g : im_g} : im_D g 317 26 (.dup) 27 := im_D.of (by decide +kernel)
theorem D317_27 {g : im_g} : im_D g 317 27 (.getfield 747) 30 := im_D.of (by decide +kernel)
theorem D317_30 {g : im_g} : im_D g 317 30 (.iconst 1) 31 := im_D.of (by decide +kernel)
theorem D317_31 {g : im_g} : im_D g 317 31 (.iadd) 32 := im_D.of (by decide +kernel)
theorem D317_32 {g : im_g} : im_D g 317 32 (.putfield 747) 35 := im_D.of (by decide +kernel)
theorem D317_35 {g : im_g} : im_D g 317 35 (.return_) 36 := im_D.of (by decide +kernel)
set_option maxRecDepth 20000 in
set_option maxHeartbeats 4000000 in
theorem b_readSign_0 {g : im_g} {d : Nat} {e : im_E} {M : im_M} {K : im_K} {p1 p2 : Int} (hd : 1 ≤ d) (hP : ((((((M 6952 15) = 2) ∧ ((M 6952 18) = 29807)) ∨ (((M 6952 15) = 2) ∧ (¬ (M 6952 18) = 29807) ∧ ((M 6952 18) = 1768846447))) → (im_i32 p1) ∧ ((∀ x17 : Int, (((¬ p1 = 5) ∧ (¬ p1 = 6) ∧ (¬ (M 6952 15) = 7) ∧ x17 = 0) ∨ ((¬ p1 = 5) ∧ (¬ p1 = 6) ∧ ((M 6952 15) = 7) ∧ x17 = 1) ∨ ((¬ p1 = 5) ∧ (p1 = 6) ∧ x17 = 1) ∨ ((p1 = 5) ∧ (¬ (M 6952 15) = 6) ∧ x17 = 0) ∨ ((p1 = 5) ∧ ((M 6952 15) = 6) ∧ x17 = 1)) → ((((¬ x17 = 0 → ((p1 = 6 → (((M 6952 18) = 1768846447 → (0 ≤ p2 ∧ p2 < 5100) ∧ im_T g (d - 1) 282 0 [some (.ref 6952)] [] e (im_u M 6960 p2 3) (im_r0 (fun  e_ M31 => e = e_ ∧ K (.inl none) e M31))))))) ∧ (x17 = 0 → im_T g (d - 1) 285 0 [some (.ref 6952)] [] e M (im_r0 (fun  e_ M33 => e = e_ ∧ K (.inl none) e M33))))) ∧ ((((¬ x17 = 0) ∧ (¬ p1 = 6)) ∨ ((¬ x17 = 0) ∧ (p1 = 6) ∧ (¬ (M 6952 18) = 1768846447))) → im_T g (d - 1) 282 0 [some (.ref 6952)] [] e M (im_r0 (fun  e_ M28 => e = e_ ∧ K (.inl none) e M28))))))) ∧ ((((¬ (M 6952 15) = 2)) ∨ (((M 6952 15) = 2) ∧ (¬ (M 6952 18) = 29807) ∧ (¬ (M 6952 18) = 1768846447))) → (im_i32 p1) ∧ ((∀ x45 : Int, (((¬ p1 = 5) ∧ (¬ p1 = 6) ∧ (¬ (M 6952 15) = 7) ∧ x45 = 0) ∨ ((¬ p1 = 5) ∧ (¬ p1 = 6) ∧ ((M 6952 15) = 7) ∧ x45 = 1) ∨ ((¬ p1 = 5) ∧ (p1 = 6) ∧ x45 = 0) ∨ ((p1 = 5) ∧ (¬ (M 6952 15) = 6) ∧ x45 = 0) ∨ ((p1 = 5) ∧ ((M 6952 15) = 6) ∧ x45 = 1)) → ((((¬ x45 = 0 → ((p1 = 6 → (((M 6952 18) = 1768846447 → (0 ≤ p2 ∧ p2 < 5100) ∧ im_T g (d - 1) 282 0 [some (.ref 6952)] [] e (im_u M 6960 p2 3) (im_r0 (fun  e_ M59 => e = e_ ∧ K (.inl none) e M59))))))) ∧ (x45 = 0 → im_T g (d - 1) 285 0 [some (.ref 6952)] [] e M (im_r0 (fun  e_ M61 => e = e_ ∧ K (.inl none) e M61))))) ∧ ((((¬ x45 = 0) ∧ (¬ p1 = 6)) ∨ ((¬ x45 = 0) ∧ (p1 = 6) ∧ (¬ (M 6952 18) = 1768846447))) → im_T g (d - 1) 282 0 [some (.ref 6952)] [] e M (im_r0 (fun  e_ M56 => e = e_ ∧ K (.inl none) e M56))))))))) : im_T g d 305 0 [some (.ref 6952), some (vI p1), some (vI p2), none, none] [] e M K := by
  refine im_ld (q := 1) (i := 0) D305_0 rfl rfl rfl ?_
  refine im_rng (j := 15) sf_6952 (by decide) (by decide) (fun hr1 => ?_)
  refine im_gfI (q := 4) D305_1 (im_fl cn_305 fl_12_591) sf_6952 rfl rfl tI_12_15 rfl ?_
  refine im_iconst (q := 5) D305_4 ?_
  obtain ⟨hJ7, hJ35⟩ := hP
  have kJ8 : ((((M 6952 15) = 2) ∧ ((M 6952 18) = 29807)) ∨ (((M 6952 15) = 2) ∧ (¬ (M 6952 18) = 29807) ∧ ((M 6952 18) = 1768846447))) → im_T g d 305 30 [some (.ref 6952), some (vI p1), some (vI p2), none, none] [] e M K := by
    intro  hx9
    have hP := hJ7  hx9
    refine im_iconst (q := 31) D305_30 ?_
    refine im_goto (q := 34) (t := 35) D305_31 rfl ?_
    refine im_st1 (q := 36) (i := 3) (L' := [some (.ref 6952), some (vI p1), some (vI p2), some (vI 1), none]) D305_35 (Or.inl ⟨_, rfl, rfl⟩) (Nat.le_of_ble_eq_true rfl) rfl ?_
    refine im_ld (q := 37) (i := 1) D305_36 rfl rfl rfl ?_
    refine im_iconst (q := 38) D305_37 ?_
    obtain ⟨hg10, hP⟩ := hP
    have hJ18 := hP
    have kJ19 : ∀ x17 : Int, (((¬ p1 = 5) ∧ (¬ p1 = 6) ∧ (¬ (M 6952 15) = 7) ∧ x17 = 0) ∨ ((¬ p1 = 5) ∧ (¬ p1 = 6) ∧ ((M 6952 15) = 7) ∧ x17 = 1) ∨ ((¬ p1 = 5) ∧ (p1 = 6) ∧ x17 = 1) ∨ ((p1 = 5) ∧ (¬ (M 6952 15) = 6) ∧ x17 = 0) ∨ ((p1 = 5) ∧ ((M 6952 15) = 6) ∧ x17 = 1)) → im_T g d 305 82 [some (.ref 6952), some (vI p1), some (vI p2), none, none] [vI x17] e M K := by
      intro x17 hx20
      have hP := hJ18 x17 hx20
      refine im_st1 (q := 84) (i := 4) (L' := [some (.ref 6952), some (vI p1), some (vI p2), none, some (vI x17)]) D305_82 (Or.inr rfl) (Nat.le_of_ble_eq_true rfl) rfl ?_
      refine im_ld (q := 86) (i := 4) D305_84 rfl rfl rfl ?_
      obtain ⟨hP, hJ25⟩ := hP
      have kJ26 : (((¬ x17 = 0) ∧ (¬ p1 = 6)) ∨ ((¬ x17 = 0) ∧ (p1 = 6) ∧ (¬ (M 6952 18) = 1768846447))) → im_T g d 305 118 [some (.ref 6952), none, none, none, none] [] e M K := by
        intro  hx27
        have hP := hJ25  hx27
        refine im_ld (q := 119) (i := 0) D305_118 rfl rfl rfl ?_
        refine im_callV (q := 122) (kd := 1) (y := 282) (n := 0) (ci := 12) (a := 6952) (vs := [.ref 6952]) (r := []) (L2 := [some (.ref 6952)]) D305_119 (im_cal cn_305 cl_12_649) (Or.inl rfl) rfl sf_6952 rfl rfl rfl rfl hd ⟨rfl, trivial⟩ ?_
        refine hP.mono ?_
        rintro _ e29 M28 ⟨rfl, rfl, hP⟩
        refine im_bkN ?_
        exact im_vret (q := 123) D305_122 rfl hP
      refine im_ifc (q := 89) (t := 94) D305_86 rfl (by omega) (fun hc21 => ?_) (fun hc21 => ?_)
      · replace hP := hP.1 hc21
        refine im_ld (q := 95) (i := 1) D305_94 rfl rfl rfl ?_
        refine im_bipush (q := 97) D305_95 rfl ?_
        refine im_icmp (q := 100) (t := 118) D305_97 rfl hg10 (by decide) (fun hc22 => ?_) (fun hc22 => ?_)
        · exact (kJ26  (Or.inl ⟨hc21, hc22⟩)).wk ⟨rfl, trivial⟩
        · replace hP := hP (Decidable.not_not.mp hc22)
          refine im_ld (q := 101) (i := 0) D305_100 rfl rfl rfl ?_
          refine im_rng (j := 18) sf_6952 (by decide) (by decide) (fun hr23 => ?_)
          refine im_gfL (q := 104) D305_101 (im_fl cn_305 fl_12_597) sf_6952 rfl rfl tL_12_18 rfl ?_
          refine im_ldc2 (q := 107) (n := 1768846447) D305_104 rfl ?_
          refine im_lif (q := 108) (q2 := 111) (t := 118) D305_107 D305_108 rfl hr23 (by decide) (fun hc24 => ?_) (fun hc24 => ?_)
          · exact (kJ26  (Or.inr ⟨hc21, (Decidable.not_not.mp hc22), hc24⟩)).wk ⟨rfl, trivial⟩
          · replace hP := hP (Decidable.not_not.mp hc24)
            refine im_ld (q := 112) (i := 0) D305_111 rfl rfl rfl ?_
            refine im_gfR (q := 115) (b := 6960) D305_112 (im_fl cn_305 fl_12_33) sf_6952 rfl rfl tR_12_21 rf_6952_21 ?_
            refine im_ld (q := 116) (i := 2) D305_115 rfl rfl rfl ?_
            refine im_iconst (q := 117) D305_116 ?_
            obtain ⟨hg30, hP⟩ := hP
            refine im_iast (q := 118) D305_117 sf_6960 hg30.1 hg30.2 (by decide) (by decide) ?_
            refine im_ld (q := 119) (i := 0) D305_118 rfl rfl rfl ?_
            refine im_callV (q := 122) (kd := 1) (y := 282) (n := 0) (ci := 12) (a := 6952) (vs := [.ref 6952]) (r := []) (L2 := [some (.ref 6952)]) D305_119 (im_cal cn_305 cl_12_649) (Or.inl rfl) rfl sf_6952 rfl rfl rfl rfl hd ⟨rfl, trivial⟩ ?_
            refine hP.mono ?_
            rintro _ e32 M31 ⟨rfl, rfl, hP⟩
            refine im_bkN ?_
            exact im_vret (q := 123) D305_122 rfl hP
      · replace hP := hP.2 (Decidable.not_not.mp hc21)
        refine im_ld (q := 90) (i := 0) D305_89 rfl rfl rfl ?_
        refine im_callV (q := 93) (kd := 1) (y := 285) (n := 0) (ci := 12) (a := 6952) (vs := [.ref 6952]) (r := []) (L2 := [some (.ref 6952)]) D305_90 (im_cal cn_305 cl_12_639) (Or.inl rfl) rfl sf_6952 rfl rfl rfl rfl hd ⟨rfl, trivial⟩ ?_
        refine hP.mono ?_
        rintro _ e34 M33 ⟨rfl, rfl, hP⟩
        refine im_bkN ?_
        exact im_vret (q := 94) D305_93 rfl hP
    refine im_icmp (q := 41) (t := 58) D305_38 rfl hg10 (by decide) (fun hc11 => ?_) (fun hc11 => ?_)
    · refine im_ld (q := 59) (i := 1) D305_58 rfl rfl rfl ?_
      refine im_bipush (q := 61) D305_59 rfl ?_
      refine im_icmp (q := 64) (t := 68) D305_61 rfl hg10 (by decide) (fun hc12 => ?_) (fun hc12 => ?_)
      · refine im_ld (q := 69) (i := 0) D305_68 rfl rfl rfl ?_
        refine im_gfI (q := 72) D305_69 (im_fl cn_305 fl_12_591) sf_6952 rfl rfl tI_12_15 rfl ?_
        refine im_bipush (q := 74) D305_72 rfl ?_
        refine im_icmp (q := 77) (t := 81) D305_74 rfl hr1 (by decide) (fun hc14 => ?_) (fun hc14 => ?_)
        · refine im_iconst (q := 82) D305_81 ?_
          exact (kJ19 (0) (Or.inl ⟨hc11, hc12, hc14, rfl⟩)).wk ⟨rfl, rfl, rfl, trivial⟩
        · refine im_iconst (q := 78) D305_77 ?_
          refine im_goto (q := 81) (t := 82) D305_78 rfl ?_
          exact (kJ19 (1) (Or.inr (Or.inl ⟨hc11, hc12, (Decidable.not_not.mp hc14), rfl⟩))).wk ⟨rfl, rfl, rfl, trivial⟩
      · refine im_ld (q := 65) (i := 3) D305_64 rfl rfl rfl ?_
        refine im_goto (q := 68) (t := 82) D305_65 rfl ?_
        exact (kJ19 (1) (Or.inr (Or.inr (Or.inl ⟨hc11, (Decidable.not_not.mp hc12), rfl⟩)))).wk ⟨rfl, rfl, rfl, trivial⟩
    · refine im_ld (q := 42) (i := 0) D305_41 rfl rfl rfl ?_
      refine im_gfI (q := 45) D305_42 (im_fl cn_305 fl_12_591) sf_6952 rfl rfl tI_12_15 rfl ?_
      refine im_bipush (q := 47) D305_45 rfl ?_
      refine im_icmp (q := 50) (t := 54) D305_47 rfl hr1 (by decide) (fun hc16 => ?_) (fun hc16 => ?_)
      · refine im_iconst (q := 55) D305_54 ?_
        refine im_goto (q := 58) (t := 82) D305_55 rfl ?_
        exact (kJ19 (0) (Or.inr (Or.inr (Or.inr (Or.inl ⟨(Decidable.not_not.mp hc11), hc16, rfl⟩))))).wk ⟨rfl, rfl, rfl, trivial⟩
      · refine im_iconst (q := 51) D305_50 ?_
        refine im_goto (q := 54) (t := 82) D305_51 rfl ?_
        exact (kJ19 (1) (Or.inr (Or.inr (Or.inr (Or.inr ⟨(Decidable.not_not.mp hc11), (Decidable.not_not.mp hc16), rfl⟩))))).wk ⟨rfl, rfl, rfl, trivial⟩
  have kJ36 : (((¬ (M 6952 15) = 2)) ∨ (((M 6952 15) = 2) ∧ (¬ (M 6952 18) = 29807) ∧ (¬ (M 6952 18) = 1768846447))) → im_T g d 305 34 [some (.ref 6952), some (vI p1), some (vI p2), none, none] [] e M K := by
    intro  hx37
    have hP := hJ35  hx37
    refine im_iconst (q := 35) D305_34 ?_
    refine im_st1 (q := 36) (i := 3) (L' := [some (.ref 6952), some (vI p1), some (vI p2), some (vI 0), none]) D305_35 (Or.inl ⟨_, rfl, rfl⟩) (Nat.le_of_ble_eq_true rfl) rfl ?_
    refine im_ld (q := 37) (i := 1) D305_36 rfl rfl rfl ?_
    refine im_iconst (q := 38) D305_37 ?_
    obtain ⟨hg38, hP⟩ := hP
    have hJ46 := hP
    have kJ47 : ∀ x45 : Int, (((¬ p1 = 5) ∧ (¬ p1 = 6) ∧ (¬ (M 6952 15) = 7) ∧ x45 = 0) ∨ ((¬ p1 = 5) ∧ (¬ p1 = 6) ∧ ((M 6952 15) = 7) ∧ x45 = 1) ∨ ((¬ p1 = 5) ∧ (p1 = 6) ∧ x45 = 0) ∨ ((p1 = 5) ∧ (¬ (M 6952 15) = 6) ∧ x45 = 0) ∨ ((p1 = 5) ∧ ((M 6952 15) = 6) ∧ x45 = 1)) → im_T g d 305 82 [some (.ref 6952), some (vI p1), some (vI p2), none, none] [vI x45] e M K := by
      intro x45 hx48
      have hP := hJ46 x45 hx48
      refine im_st1 (q := 84) (i := 4) (L' := [some (.ref 6952), some (vI p1), some (vI p2), none, some (vI x45)]) D305_82 (Or.inr rfl) (Nat.le_of_ble_eq_true rfl) rfl ?_
      refine im_ld (q := 86) (i := 4) D305_84 rfl rfl rfl ?_
      obtain ⟨hP, hJ53⟩ := hP
      have kJ54 : (((¬ x45 = 0) ∧ (¬ p1 = 6)) ∨ ((¬ x45 = 0) ∧ (p1 = 6) ∧ (¬ (M 6952 18) = 1768846447))) → im_T g d 305 118 [some (.ref 6952), none, none, none, none] [] e M K := by
        intro  hx55
        have hP := hJ53  hx55
        refine im_ld (q := 119) (i := 0) D305_118 rfl rfl rfl ?_
        refine im_callV (q := 122) (kd := 1) (y := 282) (n := 0) (ci := 12) (a := 6952) (vs := [.ref 6952]) (r := []) (L2 := [some (.ref 6952)]) D305_119 (im_cal cn_305 cl_12_649) (Or.inl rfl) rfl sf_6952 rfl rfl rfl rfl hd ⟨rfl, trivial⟩ ?_
        refine hP.mono ?_
        rintro _ e57 M56 ⟨rfl, rfl, hP⟩
        refine im_bkN ?_
        exact im_vret (q := 123) D305_122 rfl hP
      refine im_ifc (q := 89) (t := 94) D305_86 rfl (by omega) (fun hc49 => ?_) (fun hc49 => ?_)
      · replace hP := hP.1 hc49
        refine im_ld (q := 95) (i := 1) D305_94 rfl rfl rfl ?_
        refine im_bipush (q := 97) D305_95 rfl ?_
        refine im_icmp (q := 100) (t := 118) D305_97 rfl hg38 (by decide) (fun hc50 => ?_) (fun hc50 => ?_)
        · exact (kJ54  (Or.inl ⟨hc49, hc50⟩)).wk ⟨rfl, trivial⟩
        · replace hP := hP (Decidable.not_not.mp hc50)
          refine im_ld (q := 101) (i := 0) D305_100 rfl rfl rfl ?_
          refine im_rng (j := 18) sf_6952 (by decide) (by decide) (fun hr51 => ?_)
          refine im_gfL (q := 104) D305_101 (im_fl cn_305 fl_12_597) sf_6952 rfl rfl tL_12_18 rfl ?_
          refine im_ldc2 (q := 107) (n := 1768846447) D305_104 rfl ?_
          refine im_lif (q := 108) (q2 := 111) (t := 118) D305_107 D305_108 rfl hr51 (by decide) (fun hc52 => ?_) (fun hc52 => ?_)
          · exact (kJ54  (Or.inr ⟨hc49, (Decidable.not_not.mp hc50), hc52⟩)).wk ⟨rfl, trivial⟩
          · replace hP := hP (Decidable.not_not.mp hc52)
            refine im_ld (q := 112) (i := 0) D305_111 rfl rfl rfl ?_
            refine im_gfR (q := 115) (b := 6960) D305_112 (im_fl cn_305 fl_12_33) sf_6952 rfl rfl tR_12_21 rf_6952_21 ?_
            refine im_ld (q := 116) (i := 2) D305_115 rfl rfl rfl ?_
            refine im_iconst (q := 117) D305_116 ?_
            obtain ⟨hg58, hP⟩ := hP
            refine im_iast (q := 118) D305_117 sf_6960 hg58.1 hg58.2 (by decide) (by decide) ?_
            refine im_ld (q := 119) (i := 0) D305_118 rfl rfl rfl ?_
            refine im_callV (q := 122) (kd := 1) (y := 282) (n := 0) (ci := 12) (a := 6952) (vs := [.ref 6952]) (r := []) (L2 := [some (.ref 6952)]) D305_119 (im_cal cn_305 cl_12_649) (Or.inl rfl) rfl sf_6952 rfl rfl rfl rfl hd ⟨rfl, trivial⟩ ?_
            refine hP.mono ?_
            rintro _ e60 M59 ⟨rfl, rfl, hP⟩
            refine im_bkN ?_
            exact im_vret (q := 123) D305_122 rfl hP
      · replace hP := hP.2 (Decidable.not_not.mp hc49)
        refine im_ld (q := 90) (i := 0) D305_89 rfl rfl rfl ?_
        refine im_callV (q := 93) (kd := 1) (y := 285) (n := 0) (ci := 12) (a := 6952) (vs := [.ref 6952]) (r := []) (L2 := [some (.ref 6952)]) D305_90 (im_cal cn_305 cl_12_639) (Or.inl rfl) rfl sf_6952 rfl rfl rfl rfl hd ⟨rfl, trivial⟩ ?_
        refine hP.mono ?_
        rintro _ e62 M61 ⟨rfl, rfl, hP⟩
        refine im_bkN ?_
        exact im_vret (q := 94) D305_93 rfl hP
    refine im_icmp (q := 41) (t := 58) D305_38 rfl hg38 (by decide) (fun hc39 => ?_) (fun hc39 => ?_)
    · refine im_ld (q := 59) (i := 1) D305_58 rfl rfl rfl ?_
      refine im_bipush (q := 61) D305_59 rfl ?_
      refine im_icmp (q := 64) (t := 68) D305_61 rfl hg38 (by decide) (fun hc40 => ?_) (fun hc40 => ?_)
      · refine im_ld (q := 69) (i := 0) D305_68 rfl rfl rfl ?_
        refine im_gfI (q := 72) D305_69 (im_fl cn_305 fl_12_591) sf_6952 rfl rfl tI_12_15 rfl ?_
        refine im_bipush (q := 74) D305_72 rfl ?_
        refine im_icmp (q := 77) (t := 81) D305_74 rfl hr1 (by decide) (fun hc42 => ?_) (fun hc42 => ?_)
        · refine im_iconst (q := 82) D305_81 ?_
          exact (kJ47 (0) (Or.inl ⟨hc39, hc40, hc42, rfl⟩)).wk ⟨rfl, rfl, rfl, trivial⟩
        · refine im_iconst (q := 78) D305_77 ?_
          refine im_goto (q := 81) (t := 82) D305_78 rfl ?_
          exact (kJ47 (1) (Or.inr (Or.inl ⟨hc39, hc40, (Decidable.not_not.mp hc42), rfl⟩))).wk ⟨rfl, rfl, rfl, trivial⟩
      · refine im_ld (q := 65) (i := 3) D305_64 rfl rfl rfl ?_
        refine im_goto (q := 68) (t := 82) D305_65 rfl ?_
        exact (kJ47 (0) (Or.inr (Or.inr (Or.inl ⟨hc39, (Decidable.not_not.mp hc40), rfl⟩)))).wk ⟨rfl, rfl, rfl, trivial⟩
    · refine im_ld (q := 42) (i := 0) D305_41 rfl rfl rfl ?_
      refine im_gfI (q := 45) D305_42 (im_fl cn_305 fl_12_591) sf_6952 rfl rfl tI_12_15 rfl ?_
      refine im_bipush (q := 47) D305_45 rfl ?_
      refine im_icmp (q := 50) (t := 54) D305_47 rfl hr1 (by decide) (fun hc44 => ?_) (fun hc44 => ?_)
      · refine im_iconst (q := 55) D305_54 ?_
        refine im_goto (q := 58) (t := 82) D305_55 rfl ?_
        exact (kJ47 (0) (Or.inr (Or.inr (Or.inr (Or.inl ⟨(Decidable.not_not.mp hc39), hc44, rfl⟩))))).wk ⟨rfl, rfl, rfl, trivial⟩
      · refine im_iconst (q := 51) D305_50 ?_
        refine im_goto (q := 54) (t := 82) D305_51 rfl ?_
        exact (kJ47 (1) (Or.inr (Or.inr (Or.inr (Or.inr ⟨(Decidable.not_not.mp hc39), (Decidable.not_not.mp hc44), rfl⟩))))).wk ⟨rfl, rfl, rfl, trivial⟩
  refine im_icmp (q := 8) (t := 34) D305_5 rfl hr1 (by decide) (fun hc2 => ?_) (fun hc2 => ?_)
  · exact (kJ36  (Or.inl hc2)).wk ⟨rfl, rfl, rfl, trivial⟩
  · refine im_ld (q := 9) (i := 0) D305_8 rfl rfl rfl ?_
    refine im_rng (j := 18) sf_6952 (by decide) (by decide) (fun hr3 => ?_)
    refine im_gfL (q := 12) D305_9 (im_fl cn_305 fl_12_597) sf_6952 rfl rfl tL_12_18 rfl ?_
    refine im_ldc2 (q := 15) (n := 29807) D305_12 rfl ?_
    refine im_lif (q := 16) (q2 := 19) (t := 30) D305_15 D305_16 rfl hr3 (by decide) (fun hc4 => ?_) (fun hc4 => ?_)
    · exact (kJ8  (Or.inl ⟨(Decidable.not_not.mp hc2), hc4⟩)).wk ⟨rfl, rfl, rfl, trivial⟩
    · refine im_ld (q := 20) (i := 0) D305_19 rfl rfl rfl ?_
      refine im_gfL (q := 23) D305_20 (im_fl cn_305 fl_12_597) sf_6952 rfl rfl tL_12_18 rfl ?_
      refine im_ldc2 (q := 26) (n := 1768846447) D305_23 rfl ?_
      refine im_lif (q := 27) (q2 := 30) (t := 34) D305_26 D305_27 rfl hr3 (by decide) (fun hc6 => ?_) (fun hc6 => ?_)
      · exact (kJ36  (Or.inr ⟨(Decidable.not_not.mp hc2), hc4, hc6⟩)).wk ⟨rfl, rfl, rfl, trivial⟩
      · exact (kJ8  (Or.inr ⟨(Decidable.not_not.mp hc2), hc4, (Decidable.not_not.mp hc6)⟩)).wk ⟨rfl, rfl, rfl, trivial⟩
set_option maxRecDepth 20000 in
set_option maxHeartbeats 4000000 in
theorem b_endText_0 {g : im_g} {d : Nat} {e : im_E} {M : im_M} {K : im_K} (hd : 1 ≤ d) (hP : im_T g (d - 1) 277 0 [some (.ref 6952), none] [] e M (im_r0 (fun  e_ M1 => e = e_ ∧ ((∀ x10 : Int, ((((M1 6952 19) = 0) ∧ (¬ (M1 6952 15) = 0) ∧ (¬ (M1 6952 15) = 9) ∧ (¬ (M1 6952 15) = 10) ∧ x10 = 9) ∨ (((M1 6952 19) = 0) ∧ (¬ (M1 6952 15) = 0) ∧ (¬ (M1 6952 15) = 9) ∧ ((M1 6952 15) = 10) ∧ x10 = 2) ∨ (((M1 6952 19) = 0) ∧ (¬ (M1 6952 15) = 0) ∧ ((M1 6952 15) = 9) ∧ x10 = 1)) → im_T g (d - 1) 286 0 [some (.ref 6952), some (vI x10)] [] e M1 (im_r0 (fun  e_ M14 => e = e_ ∧ K (.inl none) e M14))) ∧ ((((¬ (M1 6952 19) = 0)) ∨ (((M1 6952 19) = 0) ∧ ((M1 6952 15) = 0))) → K (.inl none) e M1))))) : im_T g d 306 0 [some (.ref 6952)] [] e M K := by
  refine im_ld (q := 1) (i := 0) D306_0 rfl rfl rfl ?_
  refine im_callV (q := 4) (kd := 1) (y := 277) (n := 0) (ci := 12) (a := 6952) (vs := [.ref 6952]) (r := []) (L2 := [some (.ref 6952), none]) D306_1 (im_cal cn_306 cl_12_620) (Or.inl rfl) rfl sf_6952 rfl rfl rfl rfl hd ⟨rfl, trivial⟩ ?_
  refine hP.mono ?_
  rintro _ e19 M1 ⟨rfl, rfl, hP⟩
  refine im_bkN ?_
  refine im_ld (q := 5) (i := 0) D306_4 rfl rfl rfl ?_
  refine im_rng (j := 19) sf_6952 (by decide) (by decide) (fun hr2 => ?_)
  refine im_gfI (q := 8) D306_5 (im_fl cn_306 fl_12_403) sf_6952 rfl rfl tI_12_19 rfl ?_
  obtain ⟨hJ11, hJ16⟩ := hP
  have kJ12 : ∀ x10 : Int, ((((M1 6952 19) = 0) ∧ (¬ (M1 6952 15) = 0) ∧ (¬ (M1 6952 15) = 9) ∧ (¬ (M1 6952 15) = 10) ∧ x10 = 9) ∨ (((M1 6952 19) = 0) ∧ (¬ (M1 6952 15) = 0) ∧ (¬ (M1 6952 15) = 9) ∧ ((M1 6952 15) = 10) ∧ x10 = 2) ∨ (((M1 6952 19) = 0) ∧ (¬ (M1 6952 15) = 0) ∧ ((M1 6952 15) = 9) ∧ x10 = 1)) → im_T g d 306 47 [none] [vI x10, .ref 6952] e M1 K := by
    intro x10 hx13
    have hP := hJ11 x10 hx13
    refine im_callV (q := 50) (kd := 1) (y := 286) (n := 1) (ci := 12) (a := 6952) (vs := [.ref 6952, vI x10]) (r := []) (L2 := [some (.ref 6952), some (vI x10)]) D306_47 (im_cal cn_306 cl_12_614) (Or.inl rfl) rfl sf_6952 rfl rfl rfl rfl hd ⟨rfl, rfl, trivial⟩ ?_
    refine hP.mono ?_
    rintro _ e15 M14 ⟨rfl, rfl, hP⟩
    refine im_bkN ?_
    exact im_vret (q := 51) D306_50 rfl hP
  have kJ17 : (((¬ (M1 6952 19) = 0)) ∨ (((M1 6952 19) = 0) ∧ ((M1 6952 15) = 0))) → im_T g d 306 50 [none] [] e M1 K := by
    intro  hx18
    have hP := hJ16  hx18
    exact im_vret (q := 51) D306_50 rfl hP
  refine im_ifc (q := 11) (t := 50) D306_8 rfl hr2 (fun hc3 => ?_) (fun hc3 => ?_)
  · exact (kJ17  (Or.inl hc3)).wk trivial
  · refine im_ld (q := 12) (i := 0) D306_11 rfl rfl rfl ?_
    refine im_rng (j := 15) sf_6952 (by decide) (by decide) (fun hr4 => ?_)
    refine im_gfI (q := 15) D306_12 (im_fl cn_306 fl_12_591) sf_6952 rfl rfl tI_12_15 rfl ?_
    refine im_ifc (q := 18) (t := 50) D306_15 rfl hr4 (fun hc5 => ?_) (fun hc5 => ?_)
    · exact (kJ17  (Or.inr ⟨(Decidable.not_not.mp hc3), hc5⟩)).wk trivial
    · refine im_ld (q := 19) (i := 0) D306_18 rfl rfl rfl ?_
      refine im_ld (q := 20) (i := 0) D306_19 rfl rfl rfl ?_
      refine im_gfI (q := 23) D306_20 (im_fl cn_306 fl_12_591) sf_6952 rfl rfl tI_12_15 rfl ?_
      refine im_bipush (q := 25) D306_23 rfl ?_
      refine im_icmp (q := 28) (t := 32) D306_25 rfl hr4 (by decide) (fun hc7 => ?_) (fun hc7 => ?_)
      · refine im_ld (q := 33) (i := 0) D306_32 rfl rfl rfl ?_
        refine im_gfI (q := 36) D306_33 (im_fl cn_306 fl_12_591) sf_6952 rfl rfl tI_12_15 rfl ?_
        refine im_bipush (q := 38) D306_36 rfl ?_
        refine im_icmp (q := 41) (t := 45) D306_38 rfl hr4 (by decide) (fun hc9 => ?_) (fun hc9 => ?_)
        · refine im_bipush (q := 47) D306_45 rfl ?_
          exact (kJ12 (9) (Or.inl ⟨(Decidable.not_not.mp hc3), hc5, hc7, hc9, rfl⟩)).wk trivial
        · refine im_iconst (q := 42) D306_41 ?_
          refine im_goto (q := 45) (t := 47) D306_42 rfl ?_
          exact (kJ12 (2) (Or.inr (Or.inl ⟨(Decidable.not_not.mp hc3), hc5, hc7, (Decidable.not_not.mp hc9), rfl⟩))).wk trivial
      · refine im_iconst (q := 29) D306_28 ?_
        refine im_goto (q := 32) (t := 47) D306_29 rfl ?_
        exact (kJ12 (1) (Or.inr (Or.inr ⟨(Decidable.not_not.mp hc3), hc5, (Decidable.not_not.mp hc7), rfl⟩))).wk trivial
set_option maxRecDepth 20000 in
set_option maxHeartbeats 4000000 in
theorem b_write_0 {g : im_g} {d : Nat} {e : im_E} {M : im_M} {K : im_K} {p1 p2 p3 p5 p7 p9 : Int} (hP : (im_i32 p9) ∧ ((∀ x4 : Int, (((p9 = 0) ∧ x4 = 0) ∨ ((¬ p9 = 0) ∧ x4 = (M 6952 13))) → (im_i32 ((M 6952 177) + (((3 + (8 * p2)) + x4) + 4))) ∧ ((((M 6952 177) + (((3 + (8 * p2)) + x4) + 4)) ≤ 16384 → (im_i32 (((M 6952 177) + (((3 + (8 * p2)) + x4) + 4)) + 2)) ∧ ((16384 ≤ (((M 6952 177) + (((3 + (8 * p2)) + x4) + 4)) + 2) → im_T g d 307 84 [some (.ref 6952), some (vI p1), none, some (vL p3), none, some (vL p5), none, some (vL p7), none, none, some (vI (3 + (8 * p2))), some (vI (((3 + (8 * p2)) + x4) + 4)), some (vI 0), none] [] e (im_u M 6952 181 (-2128831035)) K) ∧ ((((M 6952 177) + (((3 + (8 * p2)) + x4) + 4)) + 2) < 16384 → (0 ≤ (((M 6952 177) + (((3 + (8 * p2)) + x4) + 4)) + 2) ∧ (((M 6952 177) + (((3 + (8 * p2)) + x4) + 4)) + 2) < 16384) ∧ im_T g d 307 84 [some (.ref 6952), some (vI p1), none, some (vL p3), none, some (vL p5), none, some (vL p7), none, none, some (vI (3 + (8 * p2))), some (vI (((3 + (8 * p2)) + x4) + 4)), some (vI 0), none] [] e (im_u (im_u M 7080 (((M 6952 177) + (((3 + (8 * p2)) + x4) + 4)) + 2) 0) 6952 181 (-2128831035)) K))) ∧ (16384 < ((M 6952 177) + (((3 + (8 * p2)) + x4) + 4)) → K (.inl (some (vI (-10)))) e M))))) : im_T g d 307 0 [some (.ref 6952), some (vI p1), some (vI p2), some (vL p3), none, some (vL p5), none, some (vL p7), none, some (vI p9), none, none, none, none] [] e M K := by
  refine im_iconst (q := 1) D307_0 ?_
  refine im_bipush (q := 3) D307_1 rfl ?_
  refine im_ld (q := 4) (i := 2) D307_3 rfl rfl rfl ?_
  refine im_imul (q := 5) D307_4 ?_
  refine im_iadd (q := 6) D307_5 ?_
  refine im_st1 (q := 8) (i := 10) (L' := [some (.ref 6952), some (vI p1), some (vI p2), some (vL p3), none, some (vL p5), none, some (vL p7), none, some (vI p9), some (vI (3 + (8 * p2))), none, none, none]) D307_6 (Or.inr rfl) (Nat.le_of_ble_eq_true rfl) rfl ?_
  refine im_ld (q := 10) (i := 10) D307_8 rfl rfl rfl ?_
  refine im_ld (q := 12) (i := 9) D307_10 rfl rfl rfl ?_
  obtain ⟨hg1, hP⟩ := hP
  have hJ5 := hP
  have kJ6 : ∀ x4 : Int, (((p9 = 0) ∧ x4 = 0) ∨ ((¬ p9 = 0) ∧ x4 = (M 6952 13))) → im_T g d 307 23 [some (.ref 6952), some (vI p1), none, some (vL p3), none, some (vL p5), none, some (vL p7), none, none, some (vI (3 + (8 * p2))), none, none, none] [vI x4, vI (3 + (8 * p2))] e M K := by
    intro x4 hx7
    have hP := hJ5 x4 hx7
    refine im_iadd (q := 24) D307_23 ?_
    refine im_iconst (q := 25) D307_24 ?_
    refine im_iadd (q := 26) D307_25 ?_
    refine im_st1 (q := 28) (i := 11) (L' := [some (.ref 6952), some (vI p1), none, some (vL p3), none, some (vL p5), none, some (vL p7), none, none, some (vI (3 + (8 * p2))), some (vI (((3 + (8 * p2)) + x4) + 4)), none, none]) D307_26 (Or.inr rfl) (Nat.le_of_ble_eq_true rfl) rfl ?_
    refine im_ld (q := 29) (i := 0) D307_28 rfl rfl rfl ?_
    refine im_rng (j := 177) sf_6952 (by decide) (by decide) (fun hr8 => ?_)
    refine im_gfI (q := 32) D307_29 (im_fl cn_307 fl_12_1140) sf_6952 rfl rfl tI_12_177 rfl ?_
    refine im_ld (q := 34) (i := 11) D307_32 rfl rfl rfl ?_
    refine im_iadd (q := 35) D307_34 ?_
    refine im_sipush (q := 38) D307_35 rfl ?_
    obtain ⟨hg9, hP⟩ := hP
    refine im_icmp (q := 41) (t := 44) D307_38 rfl hg9 (by decide) (fun hc10 => ?_) (fun hc10 => ?_)
    · replace hP := hP.1 hc10
      refine im_ld (q := 45) (i := 0) D307_44 rfl rfl rfl ?_
      refine im_gfI (q := 48) D307_45 (im_fl cn_307 fl_12_1140) sf_6952 rfl rfl tI_12_177 rfl ?_
      refine im_ld (q := 50) (i := 11) D307_48 rfl rfl rfl ?_
      refine im_iadd (q := 51) D307_50 ?_
      refine im_iconst (q := 52) D307_51 ?_
      refine im_iadd (q := 53) D307_52 ?_
      refine im_sipush (q := 56) D307_53 rfl ?_
      obtain ⟨hg12, hP⟩ := hP
      refine im_icmp (q := 59) (t := 74) D307_56 rfl hg12 (by decide) (fun hc13 => ?_) (fun hc13 => ?_)
      · replace hP := hP.1 hc13
        refine im_ld (q := 75) (i := 0) D307_74 rfl rfl rfl ?_
        refine im_ldc (q := 78) (n := (-2128831035)) (Or.inr rfl) D307_75 rfl rfl ?_
        refine im_pfI (q := 81) D307_78 (im_fl cn_307 fl_12_1133) sf_6952 rfl rfl ti_12_181 (by decide) ?_
        refine im_iconst (q := 82) D307_81 ?_
        refine im_st1 (q := 84) (i := 12) (L' := [some (.ref 6952), some (vI p1), none, some (vL p3), none, some (vL p5), none, some (vL p7), none, none, some (vI (3 + (8 * p2))), some (vI (((3 + (8 * p2)) + x4) + 4)), some (vI 0), none]) D307_82 (Or.inr rfl) (Nat.le_of_ble_eq_true rfl) rfl ?_
        exact hP.wk ⟨rfl, rfl, rfl, rfl, rfl, rfl, rfl, rfl, trivial⟩
      · replace hP := hP.2 (Int.not_le.mp hc13)
        refine im_ld (q := 60) (i := 0) D307_59 rfl rfl rfl ?_
        refine im_gfR (q := 63) (b := 7080) D307_60 (im_fl cn_307 fl_12_396) sf_6952 rfl rfl tR_12_176 rf_6952_176 ?_
        refine im_ld (q := 64) (i := 0) D307_63 rfl rfl rfl ?_
        refine im_gfI (q := 67) D307_64 (im_fl cn_307 fl_12_1140) sf_6952 rfl rfl tI_12_177 rfl ?_
        refine im_ld (q := 69) (i := 11) D307_67 rfl rfl rfl ?_
        refine im_iadd (q := 70) D307_69 ?_
        refine im_iconst (q := 71) D307_70 ?_
        refine im_iadd (q := 72) D307_71 ?_
        refine im_iconst (q := 73) D307_72 ?_
        obtain ⟨hg15, hP⟩ := hP
        refine im_iast (q := 74) D307_73 sf_7080 hg15.1 hg15.2 (by decide) (by decide) ?_
        refine im_ld (q := 75) (i := 0) D307_74 rfl rfl rfl ?_
        refine im_ldc (q := 78) (n := (-2128831035)) (Or.inr rfl) D307_75 rfl rfl ?_
        refine im_pfI (q := 81) D307_78 (im_fl cn_307 fl_12_1133) sf_6952 rfl rfl ti_12_181 (by decide) ?_
        refine im_iconst (q := 82) D307_81 ?_
        refine im_st1 (q := 84) (i := 12) (L' := [some (.ref 6952), some (vI p1), none, some (vL p3), none, some (vL p5), none, some (vL p7), none, none, some (vI (3 + (8 * p2))), some (vI (((3 + (8 * p2)) + x4) + 4)), some (vI 0), none]) D307_82 (Or.inr rfl) (Nat.le_of_ble_eq_true rfl) rfl ?_
        exact hP.wk ⟨rfl, rfl, rfl, rfl, rfl, rfl, rfl, rfl, trivial⟩
    · replace hP := hP.2 (Int.not_le.mp hc10)
      refine im_bipush (q := 43) D307_41 rfl ?_
      exact im_iret (q := 44) D307_43 rfl hP
  refine im_ifc (q := 15) (t := 22) D307_12 rfl hg1 (fun hc2 => ?_) (fun hc2 => ?_)
  · refine im_iconst (q := 23) D307_22 ?_
    exact (kJ6 (0) (Or.inl ⟨hc2, rfl⟩)).wk ⟨rfl, rfl, rfl, rfl, rfl, rfl, trivial⟩
  · refine im_ld (q := 16) (i := 0) D307_15 rfl rfl rfl ?_
    refine im_rng (j := 13) sf_6952 (by decide) (by decide) (fun hr3 => ?_)
    refine im_gfI (q := 19) D307_16 (im_fl cn_307 fl_12_604) sf_6952 rfl rfl tI_12_13 rfl ?_
    refine im_goto (q := 22) (t := 23) D307_19 rfl ?_
    exact (kJ6 ((M 6952 13)) (Or.inr ⟨hc2, rfl⟩)).wk ⟨rfl, rfl, rfl, rfl, rfl, rfl, trivial⟩
set_option maxRecDepth 20000 in
set_option maxHeartbeats 4000000 in
theorem b_write_84 {g : im_g} {d : Nat} {e : im_E} {M : im_M} {K : im_K} {p1 p3 p5 p7 p10 p11 p12 : Int} (hd : 1 ≤ d) (hP : (im_i32 p12) ∧ (im_i32 (p11 - 4)) ∧ (((p11 - 4) ≤ p12 → im_T g (d - 1) 311 0 [some (.ref 6952), some (vI (M 6952 177)), none] [] e M (im_r0 (fun  e_ M9 => e = e_ ∧ im_T g d 307 183 [some (.ref 6952), none, none, none, none, none, none, none, none, none, none, some (vI p11), some (vI 0), none] [] e M9 K))) ∧ (p12 < (p11 - 4) → (im_i32 p10) ∧ ((p10 ≤ p12 → (0 ≤ (p12 - p10) ∧ (p12 - p10) < 16384) ∧ im_T g (d - 1) 309 0 [some (.ref 6952), some (vI (M 6959 (p12 - p10)))] [] e M (im_r0 (fun  e_ M11 => e = e_ ∧ im_T g (d - 1) 310 0 [some (.ref 6952), some (vI ((M11 6952 177) + p12)), some (vI (M 6959 (p12 - p10)))] [] e M11 (im_ri (fun x14 e_ M13 => e = e_ ∧ (im_i32 x14) ∧ ((¬ x14 = 0 → im_T g d 307 84 [some (.ref 6952), some (vI p1), none, some (vL p3), none, some (vL p5), none, some (vL p7), none, none, some (vI p10), some (vI p11), some (vI (p12 + 1)), none] [] e M13 K) ∧ (x14 = 0 → (0 ≤ ((M13 6952 177) + 2) ∧ ((M13 6952 177) + 2) < 16384) ∧ K (.inl (some (vI (-100)))) e (im_u M13 7080 ((M13 6952 177) + 2) 0)))))))) ∧ (p12 < p10 → im_T g (d - 1) 308 0 [some (.ref 6952), some (vI p12), some (vI p11), some (vI p1), some (vL p3), none, some (vL p5), none, some (vL p7), none, none, none, none] [] e M (im_ri (fun x22 e_ M21 => e = e_ ∧ im_T g (d - 1) 309 0 [some (.ref 6952), some (vI x22)] [] e M21 (im_r0 (fun  e_ M23 => e = e_ ∧ im_T g (d - 1) 310 0 [some (.ref 6952), some (vI ((M23 6952 177) + p12)), some (vI x22)] [] e M23 (im_ri (fun x26 e_ M25 => e = e_ ∧ (im_i32 x26) ∧ ((¬ x26 = 0 → im_T g d 307 84 [some (.ref 6952), some (vI p1), none, some (vL p3), none, some (vL p5), none, some (vL p7), none, none, some (vI p10), some (vI p11), some (vI (p12 + 1)), none] [] e M25 K) ∧ (x26 = 0 → (0 ≤ ((M25 6952 177) + 2) ∧ ((M25 6952 177) + 2) < 16384) ∧ K (.inl (some (vI (-100)))) e (im_u M25 7080 ((M25 6952 177) + 2) 0)))))))))))))) : im_T g d 307 84 [some (.ref 6952), some (vI p1), none, some (vL p3), none, some (vL p5), none, some (vL p7), none, none, some (vI p10), some (vI p11), some (vI p12), none] [] e M K := by
  refine im_ld (q := 86) (i := 12) D307_84 rfl rfl rfl ?_
  refine im_ld (q := 88) (i := 11) D307_86 rfl rfl rfl ?_
  refine im_iconst (q := 89) D307_88 ?_
  refine im_isub (q := 90) D307_89 ?_
  obtain ⟨hg1, hP⟩ := hP
  obtain ⟨hg2, hP⟩ := hP
  refine im_icmp (q := 93) (t := 172) D307_90 rfl hg1 hg2 (fun hc3 => ?_) (fun hc3 => ?_)
  · replace hP := hP.1 hc3
    refine im_ld (q := 173) (i := 0) D307_172 rfl rfl rfl ?_
    refine im_ld (q := 174) (i := 0) D307_173 rfl rfl rfl ?_
    refine im_rng (j := 177) sf_6952 (by decide) (by decide) (fun hr4 => ?_)
    refine im_gfI (q := 177) D307_174 (im_fl cn_307 fl_12_1140) sf_6952 rfl rfl tI_12_177 rfl ?_
    refine im_callV (q := 180) (kd := 1) (y := 311) (n := 1) (ci := 12) (a := 6952) (vs := [.ref 6952, vI (M 6952 177)]) (r := []) (L2 := [some (.ref 6952), some (vI (M 6952 177)), none]) D307_177 (im_cal cn_307 cl_12_1151) (Or.inl rfl) rfl sf_6952 rfl rfl rfl rfl hd ⟨rfl, rfl, trivial⟩ ?_
    refine hP.mono ?_
    rintro _ e10 M9 ⟨rfl, rfl, hP⟩
    refine im_bkN ?_
    refine im_iconst (q := 181) D307_180 ?_
    refine im_st1 (q := 183) (i := 12) (L' := [some (.ref 6952), some (vI p1), none, some (vL p3), none, some (vL p5), none, some (vL p7), none, none, some (vI p10), some (vI p11), some (vI 0), none]) D307_181 (Or.inr rfl) (Nat.le_of_ble_eq_true rfl) rfl ?_
    exact hP.wk ⟨rfl, rfl, rfl, trivial⟩
  · replace hP := hP.2 (Int.not_le.mp hc3)
    refine im_ld (q := 95) (i := 12) D307_93 rfl rfl rfl ?_
    refine im_ld (q := 97) (i := 10) D307_95 rfl rfl rfl ?_
    obtain ⟨hg5, hP⟩ := hP
    refine im_icmp (q := 100) (t := 117) D307_97 rfl hg1 hg5 (fun hc6 => ?_) (fun hc6 => ?_)
    · replace hP := hP.1 hc6
      refine im_ld (q := 118) (i := 0) D307_117 rfl rfl rfl ?_
      refine im_gfR (q := 121) (b := 6959) D307_118 (im_fl cn_307 fl_12_30) sf_6952 rfl rfl tR_12_12 rf_6952_12 ?_
      refine im_ld (q := 123) (i := 12) D307_121 rfl rfl rfl ?_
      refine im_ld (q := 125) (i := 10) D307_123 rfl rfl rfl ?_
      refine im_isub (q := 126) D307_125 ?_
      obtain ⟨hg7, hP⟩ := hP
      refine im_rng (j := (p12 - p10)) sf_6959 hg7.1 hg7.2 (fun hr8 => ?_)
      refine im_iald (q := 127) D307_126 sf_6959 hg7.1 hg7.2 (by decide) rfl ?_
      refine im_st1 (q := 129) (i := 13) (L' := [some (.ref 6952), some (vI p1), none, some (vL p3), none, some (vL p5), none, some (vL p7), none, none, some (vI p10), some (vI p11), some (vI p12), some (vI (M 6959 (p12 - p10)))]) D307_127 (Or.inr rfl) (Nat.le_of_ble_eq_true rfl) rfl ?_
      refine im_ld (q := 130) (i := 0) D307_129 rfl rfl rfl ?_
      refine im_ld (q := 132) (i := 13) D307_130 rfl rfl rfl ?_
      refine im_callV (q := 135) (kd := 1) (y := 309) (n := 1) (ci := 12) (a := 6952) (vs := [.ref 6952, vI (M 6959 (p12 - p10))]) (r := []) (L2 := [some (.ref 6952), some (vI (M 6959 (p12 - p10)))]) D307_132 (im_cal cn_307 cl_12_1137) (Or.inl rfl) rfl sf_6952 rfl rfl rfl rfl hd ⟨rfl, rfl, trivial⟩ ?_
      refine hP.mono ?_
      rintro _ e20 M11 ⟨rfl, rfl, hP⟩
      refine im_bkN ?_
      refine im_ld (q := 136) (i := 0) D307_135 rfl rfl rfl ?_
      refine im_ld (q := 137) (i := 0) D307_136 rfl rfl rfl ?_
      refine im_rng (j := 177) sf_6952 (by decide) (by decide) (fun hr12 => ?_)
      refine im_gfI (q := 140) D307_137 (im_fl cn_307 fl_12_1140) sf_6952 rfl rfl tI_12_177 rfl ?_
      refine im_ld (q := 142) (i := 12) D307_140 rfl rfl rfl ?_
      refine im_iadd (q := 143) D307_142 ?_
      refine im_ld (q := 145) (i := 13) D307_143 rfl rfl rfl ?_
      refine im_callV (q := 148) (kd := 1) (y := 310) (n := 2) (ci := 12) (a := 6952) (vs := [.ref 6952, vI ((M11 6952 177) + p12), vI (M 6959 (p12 - p10))]) (r := []) (L2 := [some (.ref 6952), some (vI ((M11 6952 177) + p12)), some (vI (M 6959 (p12 - p10)))]) D307_145 (im_cal cn_307 cl_12_1148) (Or.inl rfl) rfl sf_6952 rfl rfl rfl rfl hd ⟨rfl, rfl, rfl, trivial⟩ ?_
      refine hP.mono ?_
      rintro _ e19 M13 ⟨x14, rfl, rfl, hP⟩
      refine im_bkS ?_
      obtain ⟨hg15, hP⟩ := hP
      refine im_ifc (q := 151) (t := 166) D307_148 rfl hg15 (fun hc16 => ?_) (fun hc16 => ?_)
      · replace hP := hP.1 hc16
        refine im_iinc (q := 169) (i := 12) (L' := [some (.ref 6952), some (vI p1), none, some (vL p3), none, some (vL p5), none, some (vL p7), none, none, some (vI p10), some (vI p11), some (vI (p12 + 1)), some (vI (M 6959 (p12 - p10)))]) D307_166 rfl (Nat.le_of_ble_eq_true rfl) rfl ?_
        refine im_goto (q := 172) (t := 84) D307_169 rfl ?_
        exact hP.wk ⟨rfl, rfl, rfl, rfl, rfl, rfl, rfl, rfl, trivial⟩
      · replace hP := hP.2 (Decidable.not_not.mp hc16)
        refine im_ld (q := 152) (i := 0) D307_151 rfl rfl rfl ?_
        refine im_gfR (q := 155) (b := 7080) D307_152 (im_fl cn_307 fl_12_396) sf_6952 rfl rfl tR_12_176 rf_6952_176 ?_
        refine im_ld (q := 156) (i := 0) D307_155 rfl rfl rfl ?_
        refine im_rng (j := 177) sf_6952 (by decide) (by decide) (fun hr17 => ?_)
        refine im_gfI (q := 159) D307_156 (im_fl cn_307 fl_12_1140) sf_6952 rfl rfl tI_12_177 rfl ?_
        refine im_iconst (q := 160) D307_159 ?_
        refine im_iadd (q := 161) D307_160 ?_
        refine im_iconst (q := 162) D307_161 ?_
        obtain ⟨hg18, hP⟩ := hP
        refine im_iast (q := 163) D307_162 sf_7080 hg18.1 hg18.2 (by decide) (by decide) ?_
        refine im_bipush (q := 165) D307_163 rfl ?_
        exact im_iret (q := 166) D307_165 rfl hP
    · replace hP := hP.2 (Int.not_le.mp hc6)
      refine im_ld (q := 101) (i := 0) D307_100 rfl rfl rfl ?_
      refine im_ld (q := 103) (i := 12) D307_101 rfl rfl rfl ?_
      refine im_ld (q := 105) (i := 11) D307_103 rfl rfl rfl ?_
      refine im_ld (q := 106) (i := 1) D307_105 rfl rfl rfl ?_
      refine im_ld (q := 107) (i := 3) D307_106 rfl rfl rfl ?_
      refine im_ld (q := 109) (i := 5) D307_107 rfl rfl rfl ?_
      refine im_ld (q := 111) (i := 7) D307_109 rfl rfl rfl ?_
      refine im_callV (q := 114) (kd := 1) (y := 308) (n := 6) (ci := 12) (a := 6952) (vs := [.ref 6952, vI p12, vI p11, vI p1, vL p3, vL p5, vL p7]) (r := []) (L2 := [some (.ref 6952), some (vI p12), some (vI p11), some (vI p1), some (vL p3), none, some (vL p5), none, some (vL p7), none, none, none, none]) D307_111 (im_cal cn_307 cl_12_1144) (Or.inl rfl) rfl sf_6952 rfl rfl rfl rfl hd ⟨rfl, rfl, rfl, rfl, rfl, rfl, rfl, trivial⟩ ?_
      refine hP.mono ?_
      rintro _ e33 M21 ⟨x22, rfl, rfl, hP⟩
      refine im_bkS ?_
      refine im_goto (q := 117) (t := 127) D307_114 rfl ?_
      refine im_st1 (q := 129) (i := 13) (L' := [some (.ref 6952), some (vI p1), none, some (vL p3), none, some (vL p5), none, some (vL p7), none, none, some (vI p10), some (vI p11), some (vI p12), some (vI x22)]) D307_127 (Or.inr rfl) (Nat.le_of_ble_eq_true rfl) rfl ?_
      refine im_ld (q := 130) (i := 0) D307_129 rfl rfl rfl ?_
      refine im_ld (q := 132) (i := 13) D307_130 rfl rfl rfl ?_
      refine im_callV (q := 135) (kd := 1) (y := 309) (n := 1) (ci := 12) (a := 6952) (vs := [.ref 6952, vI x22]) (r := []) (L2 := [some (.ref 6952), some (vI x22)]) D307_132 (im_cal cn_307 cl_12_1137) (Or.inl rfl) rfl sf_6952 rfl rfl rfl rfl hd ⟨rfl, rfl, trivial⟩ ?_
      refine hP.mono ?_
      rintro _ e32 M23 ⟨rfl, rfl, hP⟩
      refine im_bkN ?_
      refine im_ld (q := 136) (i := 0) D307_135 rfl rfl rfl ?_
      refine im_ld (q := 137) (i := 0) D307_136 rfl rfl rfl ?_
      refine im_rng (j := 177) sf_6952 (by decide) (by decide) (fun hr24 => ?_)
      refine im_gfI (q := 140) D307_137 (im_fl cn_307 fl_12_1140) sf_6952 rfl rfl tI_12_177 rfl ?_
      refine im_ld (q := 142) (i := 12) D307_140 rfl rfl rfl ?_
      refine im_iadd (q := 143) D307_142 ?_
      refine im_ld (q := 145) (i := 13) D307_143 rfl rfl rfl ?_
      refine im_callV (q := 148) (kd := 1) (y := 310) (n := 2) (ci := 12) (a := 6952) (vs := [.ref 6952, vI ((M23 6952 177) + p12), vI x22]) (r := []) (L2 := [some (.ref 6952), some (vI ((M23 6952 177) + p12)), some (vI x22)]) D307_145 (im_cal cn_307 cl_12_1148) (Or.inl rfl) rfl sf_6952 rfl rfl rfl rfl hd ⟨rfl, rfl, rfl, trivial⟩ ?_
      refine hP.mono ?_
      rintro _ e31 M25 ⟨x26, rfl, rfl, hP⟩
      refine im_bkS ?_
      obtain ⟨hg27, hP⟩ := hP
      refine im_ifc (q := 151) (t := 166) D307_148 rfl hg27 (fun hc28 => ?_) (fun hc28 => ?_)
      · replace hP := hP.1 hc28
        refine im_iinc (q := 169) (i := 12) (L' := [some (.ref 6952), some (vI p1), none, some (vL p3), none, some (vL p5), none, some (vL p7), none, none, some (vI p10), some (vI p11), some (vI (p12 + 1)), some (vI x22)]) D307_166 rfl (Nat.le_of_ble_eq_true rfl) rfl ?_
        refine im_goto (q := 172) (t := 84) D307_169 rfl ?_
        exact hP.wk ⟨rfl, rfl, rfl, rfl, rfl, rfl, rfl, rfl, trivial⟩
      · replace hP := hP.2 (Decidable.not_not.mp hc28)
        refine im_ld (q := 152) (i := 0) D307_151 rfl rfl rfl ?_
        refine im_gfR (q := 155) (b := 7080) D307_152 (im_fl cn_307 fl_12_396) sf_6952 rfl rfl tR_12_176 rf_6952_176 ?_
        refine im_ld (q := 156) (i := 0) D307_155 rfl rfl rfl ?_
        refine im_rng (j := 177) sf_6952 (by decide) (by decide) (fun hr29 => ?_)
        refine im_gfI (q := 159) D307_156 (im_fl cn_307 fl_12_1140) sf_6952 rfl rfl tI_12_177 rfl ?_
        refine im_iconst (q := 160) D307_159 ?_
        refine im_iadd (q := 161) D307_160 ?_
        refine im_iconst (q := 162) D307_161 ?_
        obtain ⟨hg30, hP⟩ := hP
        refine im_iast (q := 163) D307_162 sf_7080 hg30.1 hg30.2 (by decide) (by decide) ?_
        refine im_bipush (q := 165) D307_163 rfl ?_
        exact im_iret (q := 166) D307_165 rfl hP
set_option maxRecDepth 20000 in
set_option maxHeartbeats 4000000 in
theorem b_write_183 {g : im_g} {d : Nat} {e : im_E} {M : im_M} {K : im_K} {p11 p12 : Int} (hd : 1 ≤ d) (hP : (im_i32 p12) ∧ ((4 ≤ p12 → (im_i32 ((M 6952 177) + p11)) ∧ (im_i32 ((M 6952 178) + 1)) ∧ K (.inl (some (vI 0))) e (im_u (im_u M 6952 177 ((M 6952 177) + p11)) 6952 178 ((M 6952 178) + 1))) ∧ (p12 < 4 → im_T g (d - 1) 310 0 [some (.ref 6952), some (vI ((((M 6952 177) + p11) - 4) + p12)), some (vI (xishr (M 6952 181) (24 - (8 * p12))))] [] e M (im_ri (fun x10 e_ M9 => e = e_ ∧ (im_i32 x10) ∧ ((¬ x10 = 0 → im_T g d 307 183 [some (.ref 6952), none, none, none, none, none, none, none, none, none, none, some (vI p11), some (vI (p12 + 1)), none] [] e M9 K) ∧ (x10 = 0 → (0 ≤ ((M9 6952 177) + 2) ∧ ((M9 6952 177) + 2) < 16384) ∧ K (.inl (some (vI (-100)))) e (im_u M9 7080 ((M9 6952 177) + 2) 0)))))))) : im_T g d 307 183 [some (.ref 6952), none, none, none, none, none, none, none, none, none, none, some (vI p11), some (vI p12), none] [] e M K := by
  refine im_ld (q := 185) (i := 12) D307_183 rfl rfl rfl ?_
  refine im_iconst (q := 186) D307_185 ?_
  obtain ⟨hg1, hP⟩ := hP
  refine im_icmp (q := 189) (t := 242) D307_186 rfl hg1 (by decide) (fun hc2 => ?_) (fun hc2 => ?_)
  · replace hP := hP.1 hc2
    refine im_ld (q := 243) (i := 0) D307_242 rfl rfl rfl ?_
    refine im_dup (q := 244) D307_243 rfl ?_
    refine im_rng (j := 177) sf_6952 (by decide) (by decide) (fun hr3 => ?_)
    refine im_gfI (q := 247) D307_244 (im_fl cn_307 fl_12_1140) sf_6952 rfl rfl tI_12_177 rfl ?_
    refine im_ld (q := 249) (i := 11) D307_247 rfl rfl rfl ?_
    refine im_iadd (q := 250) D307_249 ?_
    obtain ⟨hg6, hP⟩ := hP
    refine im_pfI (q := 253) D307_250 (im_fl cn_307 fl_12_1140) sf_6952 rfl rfl ti_12_177 hg6 ?_
    refine im_ld (q := 254) (i := 0) D307_253 rfl rfl rfl ?_
    refine im_dup (q := 255) D307_254 rfl ?_
    refine im_rng (j := 178) sf_6952 (by decide) (by decide) (fun hr7 => ?_)
    refine im_gfI (q := 258) D307_255 (im_fl cn_307 fl_12_1154) sf_6952 rfl rfl tI_12_178 (im_rdk _ _ _ (by decide)) ?_
    refine im_iconst (q := 259) D307_258 ?_
    refine im_iadd (q := 260) D307_259 ?_
    obtain ⟨hg8, hP⟩ := hP
    refine im_pfI (q := 263) D307_260 (im_fl cn_307 fl_12_1154) sf_6952 rfl rfl ti_12_178 hg8 ?_
    refine im_iconst (q := 264) D307_263 ?_
    exact im_iret (q := 265) D307_264 rfl hP
  · replace hP := hP.2 (Int.not_le.mp hc2)
    refine im_ld (q := 190) (i := 0) D307_189 rfl rfl rfl ?_
    refine im_ld (q := 191) (i := 0) D307_190 rfl rfl rfl ?_
    refine im_rng (j := 177) sf_6952 (by decide) (by decide) (fun hr4 => ?_)
    refine im_gfI (q := 194) D307_191 (im_fl cn_307 fl_12_1140) sf_6952 rfl rfl tI_12_177 rfl ?_
    refine im_ld (q := 196) (i := 11) D307_194 rfl rfl rfl ?_
    refine im_iadd (q := 197) D307_196 ?_
    refine im_iconst (q := 198) D307_197 ?_
    refine im_isub (q := 199) D307_198 ?_
    refine im_ld (q := 201) (i := 12) D307_199 rfl rfl rfl ?_
    refine im_iadd (q := 202) D307_201 ?_
    refine im_ld (q := 203) (i := 0) D307_202 rfl rfl rfl ?_
    refine im_rng (j := 181) sf_6952 (by decide) (by decide) (fun hr5 => ?_)
    refine im_gfI (q := 206) D307_203 (im_fl cn_307 fl_12_1133) sf_6952 rfl rfl tI_12_181 rfl ?_
    refine im_bipush (q := 208) D307_206 rfl ?_
    refine im_bipush (q := 210) D307_208 rfl ?_
    refine im_ld (q := 212) (i := 12) D307_210 rfl rfl rfl ?_
    refine im_imul (q := 213) D307_212 ?_
    refine im_isub (q := 214) D307_213 ?_
    refine im_ishr (q := 215) D307_214 ?_
    refine im_callV (q := 218) (kd := 1) (y := 310) (n := 2) (ci := 12) (a := 6952) (vs := [.ref 6952, vI ((((M 6952 177) + p11) - 4) + p12), vI (xishr (M 6952 181) (24 - (8 * p12)))]) (r := []) (L2 := [some (.ref 6952), some (vI ((((M 6952 177) + p11) - 4) + p12)), some (vI (xishr (M 6952 181) (24 - (8 * p12))))]) D307_215 (im_cal cn_307 cl_12_1148) (Or.inl rfl) rfl sf_6952 rfl rfl rfl rfl hd ⟨rfl, rfl, rfl, trivial⟩ ?_
    refine hP.mono ?_
    rintro _ e15 M9 ⟨x10, rfl, rfl, hP⟩
    refine im_bkS ?_
    obtain ⟨hg11, hP⟩ := hP
    refine im_ifc (q := 221) (t := 236) D307_218 rfl hg11 (fun hc12 => ?_) (fun hc12 => ?_)
    · replace hP := hP.1 hc12
      refine im_iinc (q := 239) (i := 12) (L' := [some (.ref 6952), none, none, none, none, none, none, none, none, none, none, some (vI p11), some (vI (p12 + 1)), none]) D307_236 rfl (Nat.le_of_ble_eq_true rfl) rfl ?_
      refine im_goto (q := 242) (t := 183) D307_239 rfl ?_
      exact hP.wk ⟨rfl, rfl, rfl, trivial⟩
    · replace hP := hP.2 (Decidable.not_not.mp hc12)
      refine im_ld (q := 222) (i := 0) D307_221 rfl rfl rfl ?_
      refine im_gfR (q := 225) (b := 7080) D307_222 (im_fl cn_307 fl_12_396) sf_6952 rfl rfl tR_12_176 rf_6952_176 ?_
      refine im_ld (q := 226) (i := 0) D307_225 rfl rfl rfl ?_
      refine im_rng (j := 177) sf_6952 (by decide) (by decide) (fun hr13 => ?_)
      refine im_gfI (q := 229) D307_226 (im_fl cn_307 fl_12_1140) sf_6952 rfl rfl tI_12_177 rfl ?_
      refine im_iconst (q := 230) D307_229 ?_
      refine im_iadd (q := 231) D307_230 ?_
      refine im_iconst (q := 232) D307_231 ?_
      obtain ⟨hg14, hP⟩ := hP
      refine im_iast (q := 233) D307_232 sf_7080 hg14.1 hg14.2 (by decide) (by decide) ?_
      refine im_bipush (q := 235) D307_233 rfl ?_
      exact im_iret (q := 236) D307_235 rfl hP
set_option maxRecDepth 20000 in
set_option maxHeartbeats 4000000 in
theorem b_recordByte_0 {g : im_g} {d : Nat} {e : im_E} {M : im_M} {K : im_K} {p1 p2 p3 p4 p6 p8 : Int} (hP : (im_i32 p1) ∧ ((((3 ≤ p1 → (im_i32 (p1 - 3)) ∧ (im_i32 ((p1 - 3).tdiv 8)) ∧ ((∀ x13 : Int, (((¬ ((p1 - 3).tdiv 8) = 0) ∧ (¬ ((p1 - 3).tdiv 8) = 1) ∧ x13 = p8) ∨ ((¬ ((p1 - 3).tdiv 8) = 0) ∧ (((p1 - 3).tdiv 8) = 1) ∧ x13 = p6) ∨ ((((p1 - 3).tdiv 8) = 0) ∧ x13 = p4)) → K (.inl (some (vI (xland (xlshr x13 (56 - (8 * ((p1 - 3).tmod 8)))) 255)))) e M))))) ∧ (∀ x6 : Int, (((p1 < 3) ∧ (¬ p1 = 0) ∧ (¬ p1 = 1) ∧ x6 = p3) ∨ ((p1 < 3) ∧ (¬ p1 = 0) ∧ (p1 = 1) ∧ x6 = (xiand p2 255)) ∨ ((p1 < 3) ∧ (p1 = 0) ∧ x6 = (xishr p2 8))) → K (.inl (some (vI x6))) e M))) : im_T g d 308 0 [some (.ref 6952), some (vI p1), some (vI p2), some (vI p3), some (vL p4), none, some (vL p6), none, some (vL p8), none, none, none, none] [] e M K := by
  refine im_ld (q := 1) (i := 1) D308_0 rfl rfl rfl ?_
  refine im_iconst (q := 2) D308_1 ?_
  obtain ⟨hg1, hP⟩ := hP
  obtain ⟨hP, hJ7⟩ := hP
  have kJ8 : ∀ x6 : Int, (((p1 < 3) ∧ (¬ p1 = 0) ∧ (¬ p1 = 1) ∧ x6 = p3) ∨ ((p1 < 3) ∧ (¬ p1 = 0) ∧ (p1 = 1) ∧ x6 = (xiand p2 255)) ∨ ((p1 < 3) ∧ (p1 = 0) ∧ x6 = (xishr p2 8))) → im_T g d 308 30 [none, none, none, none, none, none, none, none, none, none, none, none, none] [vI x6] e M K := by
    intro x6 hx9
    have hP := hJ7 x6 hx9
    exact im_iret (q := 31) D308_30 rfl hP
  refine im_icmp (q := 5) (t := 31) D308_2 rfl hg1 (by decide) (fun hc2 => ?_) (fun hc2 => ?_)
  · replace hP := hP hc2
    refine im_ld (q := 32) (i := 1) D308_31 rfl rfl rfl ?_
    refine im_iconst (q := 33) D308_32 ?_
    refine im_isub (q := 34) D308_33 ?_
    refine im_bipush (q := 36) D308_34 rfl ?_
    obtain ⟨hg3, hP⟩ := hP
    refine im_idiv (q := 37) D308_36 hg3 (by decide) (by decide) ?_
    refine im_st1 (q := 39) (i := 10) (L' := [some (.ref 6952), some (vI p1), some (vI p2), some (vI p3), some (vL p4), none, some (vL p6), none, some (vL p8), none, some (vI ((p1 - 3).tdiv 8)), none, none]) D308_37 (Or.inr rfl) (Nat.le_of_ble_eq_true rfl) rfl ?_
    refine im_ld (q := 41) (i := 10) D308_39 rfl rfl rfl ?_
    obtain ⟨hg10, hP⟩ := hP
    have hJ14 := hP
    have kJ15 : ∀ x13 : Int, (((¬ ((p1 - 3).tdiv 8) = 0) ∧ (¬ ((p1 - 3).tdiv 8) = 1) ∧ x13 = p8) ∨ ((¬ ((p1 - 3).tdiv 8) = 0) ∧ (((p1 - 3).tdiv 8) = 1) ∧ x13 = p6) ∨ ((((p1 - 3).tdiv 8) = 0) ∧ x13 = p4)) → im_T g d 308 62 [none, some (vI p1), none, none, none, none, none, none, none, none, none, none, none] [vL x13] e M K := by
      intro x13 hx16
      have hP := hJ14 x13 hx16
      refine im_st2 (q := 64) (i := 11) (L' := [none, some (vI p1), none, none, none, none, none, none, none, none, none, some (vL x13), none]) D308_62 (Or.inr rfl) (Nat.le_of_ble_eq_true rfl) rfl ?_
      refine im_ld (q := 66) (i := 11) D308_64 rfl rfl rfl ?_
      refine im_bipush (q := 68) D308_66 rfl ?_
      refine im_bipush (q := 70) D308_68 rfl ?_
      refine im_ld (q := 71) (i := 1) D308_70 rfl rfl rfl ?_
      refine im_iconst (q := 72) D308_71 ?_
      refine im_isub (q := 73) D308_72 ?_
      refine im_bipush (q := 75) D308_73 rfl ?_
      refine im_irem (q := 76) D308_75 hg3 (by decide) (by decide) ?_
      refine im_imul (q := 77) D308_76 ?_
      refine im_isub (q := 78) D308_77 ?_
      refine im_lshr (q := 79) D308_78 ?_
      refine im_ldc2 (q := 82) (n := 255) D308_79 rfl ?_
      refine im_land (q := 83) D308_82 ?_
      refine im_l2i (q := 84) D308_83 ?_
      exact im_iret (q := 85) D308_84 rfl hP
    refine im_ifc (q := 44) (t := 49) D308_41 rfl hg10 (fun hc11 => ?_) (fun hc11 => ?_)
    · refine im_ld (q := 51) (i := 10) D308_49 rfl rfl rfl ?_
      refine im_iconst (q := 52) D308_51 ?_
      refine im_icmp (q := 55) (t := 60) D308_52 rfl hg10 (by decide) (fun hc12 => ?_) (fun hc12 => ?_)
      · refine im_ld (q := 62) (i := 8) D308_60 rfl rfl rfl ?_
        exact (kJ15 (p8) (Or.inl ⟨hc11, hc12, rfl⟩)).wk ⟨rfl, trivial⟩
      · refine im_ld (q := 57) (i := 6) D308_55 rfl rfl rfl ?_
        refine im_goto (q := 60) (t := 62) D308_57 rfl ?_
        exact (kJ15 (p6) (Or.inr (Or.inl ⟨hc11, (Decidable.not_not.mp hc12), rfl⟩))).wk ⟨rfl, trivial⟩
    · refine im_ld (q := 46) (i := 4) D308_44 rfl rfl rfl ?_
      refine im_goto (q := 49) (t := 62) D308_46 rfl ?_
      exact (kJ15 (p4) (Or.inr (Or.inr ⟨(Decidable.not_not.mp hc11), rfl⟩))).wk ⟨rfl, trivial⟩
  · refine im_ld (q := 6) (i := 1) D308_5 rfl rfl rfl ?_
    refine im_ifc (q := 9) (t := 16) D308_6 rfl hg1 (fun hc4 => ?_) (fun hc4 => ?_)
    · refine im_ld (q := 17) (i := 1) D308_16 rfl rfl rfl ?_
      refine im_iconst (q := 18) D308_17 ?_
      refine im_icmp (q := 21) (t := 29) D308_18 rfl hg1 (by decide) (fun hc5 => ?_) (fun hc5 => ?_)
      · refine im_ld (q := 30) (i := 3) D308_29 rfl rfl rfl ?_
        exact (kJ8 (p3) (Or.inl ⟨(Int.not_le.mp hc2), hc4, hc5, rfl⟩)).wk trivial
      · refine im_ld (q := 22) (i := 2) D308_21 rfl rfl rfl ?_
        refine im_sipush (q := 25) D308_22 rfl ?_
        refine im_iand (q := 26) D308_25 ?_
        refine im_goto (q := 29) (t := 30) D308_26 rfl ?_
        exact (kJ8 ((xiand p2 255)) (Or.inr (Or.inl ⟨(Int.not_le.mp hc2), hc4, (Decidable.not_not.mp hc5), rfl⟩))).wk trivial
    · refine im_ld (q := 10) (i := 2) D308_9 rfl rfl rfl ?_
      refine im_bipush (q := 12) D308_10 rfl ?_
      refine im_ishr (q := 13) D308_12 ?_
      refine im_goto (q := 16) (t := 30) D308_13 rfl ?_
      exact (kJ8 ((xishr p2 8)) (Or.inr (Or.inr ⟨(Int.not_le.mp hc2), (Decidable.not_not.mp hc4), rfl⟩))).wk trivial
set_option maxRecDepth 20000 in
set_option maxHeartbeats 4000000 in
theorem b_checkByte_0 {g : im_g} {d : Nat} {e : im_E} {M : im_M} {K : im_K} {p1 : Int} (hP : (im_i32 ((xixor (M 6952 181) (xiand p1 255)) * 16777619)) ∧ K (.inl none) e (im_u M 6952 181 ((xixor (M 6952 181) (xiand p1 255)) * 16777619))) : im_T g d 309 0 [some (.ref 6952), some (vI p1)] [] e M K := by
  refine im_ld (q := 1) (i := 0) D309_0 rfl rfl rfl ?_
  refine im_ld (q := 2) (i := 0) D309_1 rfl rfl rfl ?_
  refine im_rng (j := 181) sf_6952 (by decide) (by decide) (fun hr1 => ?_)
  refine im_gfI (q := 5) D309_2 (im_fl cn_309 fl_12_1133) sf_6952 rfl rfl tI_12_181 rfl ?_
  refine im_ld (q := 6) (i := 1) D309_5 rfl rfl rfl ?_
  refine im_sipush (q := 9) D309_6 rfl ?_
  refine im_iand (q := 10) D309_9 ?_
  refine im_ixor (q := 11) D309_10 ?_
  refine im_ldc (q := 14) (n := 16777619) (Or.inr rfl) D309_11 rfl rfl ?_
  refine im_imul (q := 15) D309_14 ?_
  obtain ⟨hg2, hP⟩ := hP
  refine im_pfI (q := 18) D309_15 (im_fl cn_309 fl_12_1133) sf_6952 rfl rfl ti_12_181 hg2 ?_
  exact im_vret (q := 19) D309_18 rfl hP
set_option maxRecDepth 20000 in
set_option maxHeartbeats 4000000 in
theorem b_lasts_0 {g : im_g} {d : Nat} {e : im_E} {M : im_M} {K : im_K} {p1 p2 : Int} (hP : (((((M 6952 179) = 0 → K (.inl (some (vI 0))) e (im_u M 6952 180 1)))) ∧ (∀ x6 : Int, (((¬ (M 6952 179) = 0) ∧ ((M 6952 179) ≤ 0) ∧ x6 = 0) ∨ ((¬ (M 6952 179) = 0) ∧ (0 < (M 6952 179)) ∧ x6 = 1)) → (im_i32 ((M 6952 179) - x6)) ∧ (0 ≤ p1 ∧ p1 < 16384) ∧ K (.inl (some (vI 1))) e (im_u (im_u M 6952 179 ((M 6952 179) - x6)) 7080 p1 (xiand p2 255))))) : im_T g d 310 0 [some (.ref 6952), some (vI p1), some (vI p2)] [] e M K := by
  refine im_ld (q := 1) (i := 0) D310_0 rfl rfl rfl ?_
  refine im_rng (j := 179) sf_6952 (by decide) (by decide) (fun hr1 => ?_)
  refine im_gfI (q := 4) D310_1 (im_fl cn_310 fl_12_399) sf_6952 rfl rfl tI_12_179 rfl ?_
  obtain ⟨hP, hJ7⟩ := hP
  have kJ8 : ∀ x6 : Int, (((¬ (M 6952 179) = 0) ∧ ((M 6952 179) ≤ 0) ∧ x6 = 0) ∨ ((¬ (M 6952 179) = 0) ∧ (0 < (M 6952 179)) ∧ x6 = 1)) → im_T g d 310 31 [some (.ref 6952), some (vI p1), some (vI p2)] [vI x6, vI (M 6952 179), .ref 6952] e M K := by
    intro x6 hx9
    have hP := hJ7 x6 hx9
    refine im_isub (q := 32) D310_31 ?_
    obtain ⟨hg10, hP⟩ := hP
    refine im_pfI (q := 35) D310_32 (im_fl cn_310 fl_12_399) sf_6952 rfl rfl ti_12_179 hg10 ?_
    refine im_ld (q := 36) (i := 0) D310_35 rfl rfl rfl ?_
    refine im_gfR (q := 39) (b := 7080) D310_36 (im_fl cn_310 fl_12_396) sf_6952 rfl rfl tR_12_176 rf_6952_176 ?_
    refine im_ld (q := 40) (i := 1) D310_39 rfl rfl rfl ?_
    refine im_ld (q := 41) (i := 2) D310_40 rfl rfl rfl ?_
    refine im_sipush (q := 44) D310_41 rfl ?_
    refine im_iand (q := 45) D310_44 ?_
    obtain ⟨hg11, hP⟩ := hP
    refine im_iast (q := 46) D310_45 sf_7080 hg11.1 hg11.2 (by decide) (xiand_r _ _) ?_
    refine im_iconst (q := 47) D310_46 ?_
    exact im_zret (q := 48) D310_47 rfl (by decide) hP
  refine im_ifc (q := 7) (t := 14) D310_4 rfl hr1 (fun hc2 => ?_) (fun hc2 => ?_)
  · refine im_ld (q := 15) (i := 0) D310_14 rfl rfl rfl ?_
    refine im_dup (q := 16) D310_15 rfl ?_
    refine im_gfI (q := 19) D310_16 (im_fl cn_310 fl_12_399) sf_6952 rfl rfl tI_12_179 rfl ?_
    refine im_ld (q := 20) (i := 0) D310_19 rfl rfl rfl ?_
    refine im_gfI (q := 23) D310_20 (im_fl cn_310 fl_12_399) sf_6952 rfl rfl tI_12_179 rfl ?_
    refine im_ifc (q := 26) (t := 30) D310_23 rfl hr1 (fun hc5 => ?_) (fun hc5 => ?_)
    · refine im_iconst (q := 31) D310_30 ?_
      exact (kJ8 (0) (Or.inl ⟨hc2, hc5, rfl⟩)).wk ⟨rfl, rfl, rfl, trivial⟩
    · refine im_iconst (q := 27) D310_26 ?_
      refine im_goto (q := 30) (t := 31) D310_27 rfl ?_
      exact (kJ8 (1) (Or.inr ⟨hc2, (Int.not_le.mp hc5), rfl⟩)).wk ⟨rfl, rfl, rfl, trivial⟩
  · replace hP := hP (Decidable.not_not.mp hc2)
    refine im_ld (q := 8) (i := 0) D310_7 rfl rfl rfl ?_
    refine im_iconst (q := 9) D310_8 ?_
    refine im_pfZ (q := 12) D310_9 (im_fl cn_310 fl_12_412) sf_6952 rfl rfl tz_12_180 (by decide) ?_
    refine im_iconst (q := 13) D310_12 ?_
    exact im_zret (q := 14) D310_13 rfl (by decide) hP
set_option maxRecDepth 20000 in
set_option maxHeartbeats 4000000 in
theorem b_checkPlace_0 {g : im_g} {d : Nat} {e : im_E} {M : im_M} {K : im_K} {p1 : Int} (hP : im_T g d 311 3 [some (.ref 6952), some (vI p1), some (vI 24)] [] e M K) : im_T g d 311 0 [some (.ref 6952), some (vI p1), none] [] e M K := by
  refine im_bipush (q := 2) D311_0 rfl ?_
  refine im_st1 (q := 3) (i := 2) (L' := [some (.ref 6952), some (vI p1), some (vI 24)]) D311_2 (Or.inl ⟨_, rfl, rfl⟩) (Nat.le_of_ble_eq_true rfl) rfl ?_
  exact hP.wk ⟨rfl, rfl, rfl, trivial⟩
set_option maxRecDepth 20000 in
set_option maxHeartbeats 4000000 in
theorem b_checkPlace_3 {g : im_g} {d : Nat} {e : im_E} {M : im_M} {K : im_K} {p1 p2 : Int} (hd : 1 ≤ d) (hP : (im_i32 p2) ∧ ((p2 < 0 → K (.inl none) e M) ∧ (0 ≤ p2 → im_T g (d - 1) 309 0 [some (.ref 6952), some (vI (xishr p1 p2))] [] e M (im_r0 (fun  e_ M3 => e = e_ ∧ im_T g d 311 3 [some (.ref 6952), some (vI p1), some (vI (p2 + (-8)))] [] e M3 K))))) : im_T g d 311 3 [some (.ref 6952), some (vI p1), some (vI p2)] [] e M K := by
  refine im_ld (q := 4) (i := 2) D311_3 rfl rfl rfl ?_
  obtain ⟨hg1, hP⟩ := hP
  refine im_ifc (q := 7) (t := 20) D311_4 rfl hg1 (fun hc2 => ?_) (fun hc2 => ?_)
  · replace hP := hP.1 hc2
    exact im_vret (q := 21) D311_20 rfl hP
  · replace hP := hP.2 (Int.not_lt.mp hc2)
    refine im_ld (q := 8) (i := 0) D311_7 rfl rfl rfl ?_
    refine im_ld (q := 9) (i := 1) D311_8 rfl rfl rfl ?_
    refine im_ld (q := 10) (i := 2) D311_9 rfl rfl rfl ?_
    refine im_ishr (q := 11) D311_10 ?_
    refine im_callV (q := 14) (kd := 1) (y := 309) (n := 1) (ci := 12) (a := 6952) (vs := [.ref 6952, vI (xishr p1 p2)]) (r := []) (L2 := [some (.ref 6952), some (vI (xishr p1 p2))]) D311_11 (im_cal cn_311 cl_12_1137) (Or.inl rfl) rfl sf_6952 rfl rfl rfl rfl hd ⟨rfl, rfl, trivial⟩ ?_
    refine hP.mono ?_
    rintro _ e4 M3 ⟨rfl, rfl, hP⟩
    refine im_bkN ?_
    refine im_iinc (q := 17) (i := 2) (L' := [some (.ref 6952), some (vI p1), some (vI (p2 + (-8)))]) D311_14 rfl (Nat.le_of_ble_eq_true rfl) rfl ?_
    refine im_goto (q := 20) (t := 3) D311_17 rfl ?_
    exact hP.wk ⟨rfl, rfl, rfl, trivial⟩
set_option maxRecDepth 20000 in
set_option maxHeartbeats 4000000 in
theorem b_doKeep_0 {g : im_g} {d : Nat} {e : im_E} {M : im_M} {K : im_K} {p1 : Int} (hP : (0 ≤ p1 ∧ p1 < 16) ∧ (im_i32 ((M 6952 39) - (M 6952 38))) ∧ K (.inl (some (vI ((M 6952 39) - (M 6952 38))))) e (im_u (im_u (im_u (im_u (im_u (im_u M 6984 p1 1) 6985 p1 (M 6952 40)) 6986 p1 ((M 6952 39) - (M 6952 38))) 6952 38 (M 6952 39)) 6952 36 (M 6952 37)) 6952 6 (M 6952 7))) : im_T g d 312 0 [some (.ref 6952), some (vI p1)] [] e M K := by
  refine im_ld (q := 1) (i := 0) D312_0 rfl rfl rfl ?_
  refine im_gfR (q := 4) (b := 6984) D312_1 (im_fl cn_312 fl_12_106) sf_6952 rfl rfl tR_12_52 rf_6952_52 ?_
  refine im_ld (q := 5) (i := 1) D312_4 rfl rfl rfl ?_
  refine im_iconst (q := 6) D312_5 ?_
  obtain ⟨hg1, hP⟩ := hP
  refine im_zast (q := 7) D312_6 sf_6984 hg1.1 hg1.2 (by decide) (by decide) ?_
  refine im_ld (q := 8) (i := 0) D312_7 rfl rfl rfl ?_
  refine im_gfR (q := 11) (b := 6985) D312_8 (im_fl cn_312 fl_12_109) sf_6952 rfl rfl tR_12_53 rf_6952_53 ?_
  refine im_ld (q := 12) (i := 1) D312_11 rfl rfl rfl ?_
  refine im_ld (q := 13) (i := 0) D312_12 rfl rfl rfl ?_
  refine im_rng (j := 40) sf_6952 (by decide) (by decide) (fun hr2 => ?_)
  refine im_gfI (q := 16) D312_13 (im_fl cn_312 fl_12_626) sf_6952 rfl rfl tI_12_40 (im_rdn _ _ _ _ (by decide)) ?_
  refine im_iast (q := 17) D312_16 sf_6985 hg1.1 hg1.2 (by decide) (im_rgc hr2 (im_rdn _ _ _ _ (by decide))) ?_
  refine im_ld (q := 18) (i := 0) D312_17 rfl rfl rfl ?_
  refine im_gfR (q := 21) (b := 6986) D312_18 (im_fl cn_312 fl_12_112) sf_6952 rfl rfl tR_12_54 rf_6952_54 ?_
  refine im_ld (q := 22) (i := 1) D312_21 rfl rfl rfl ?_
  refine im_ld (q := 23) (i := 0) D312_22 rfl rfl rfl ?_
  refine im_rng (j := 39) sf_6952 (by decide) (by decide) (fun hr3 => ?_)
  refine im_gfI (q := 26) D312_23 (im_fl cn_312 fl_12_629) sf_6952 rfl rfl tI_12_39 ((im_rdn _ _ _ _ (by decide)).trans (im_rdn _ _ _ _ (by decide))) ?_
  refine im_ld (q := 27) (i := 0) D312_26 rfl rfl rfl ?_
  refine im_rng (j := 38) sf_6952 (by decide) (by decide) (fun hr4 => ?_)
  refine im_gfI (q := 30) D312_27 (im_fl cn_312 fl_12_632) sf_6952 rfl rfl tI_12_38 ((im_rdn _ _ _ _ (by decide)).trans (im_rdn _ _ _ _ (by decide))) ?_
  refine im_isub (q := 31) D312_30 ?_
  obtain ⟨hg5, hP⟩ := hP
  refine im_iast (q := 32) D312_31 sf_6986 hg1.1 hg1.2 (by decide) hg5 ?_
  refine im_ld (q := 33) (i := 0) D312_32 rfl rfl rfl ?_
  refine im_ld (q := 34) (i := 0) D312_33 rfl rfl rfl ?_
  refine im_gfI (q := 37) D312_34 (im_fl cn_312 fl_12_629) sf_6952 rfl rfl tI_12_39 ((im_rdn _ _ _ _ (by decide)).trans ((im_rdn _ _ _ _ (by decide)).trans (im_rdn _ _ _ _ (by decide)))) ?_
  refine im_pfI (q := 40) D312_37 (im_fl cn_312 fl_12_632) sf_6952 rfl rfl ti_12_38 (im_rgc hr3 ((im_rdn _ _ _ _ (by decide)).trans (im_rdn _ _ _ _ (by decide)))) ?_
  refine im_ld (q := 41) (i := 0) D312_40 rfl rfl rfl ?_
  refine im_ld (q := 42) (i := 0) D312_41 rfl rfl rfl ?_
  refine im_rng (j := 37) sf_6952 (by decide) (by decide) (fun hr7 => ?_)
  refine im_gfI (q := 45) D312_42 (im_fl cn_312 fl_12_665) sf_6952 rfl rfl tI_12_37 ((im_rdk _ _ _ (by decide)).trans ((im_rdn _ _ _ _ (by decide)).trans ((im_rdn _ _ _ _ (by decide)).trans (im_rdn _ _ _ _ (by decide))))) ?_
  refine im_pfI (q := 48) D312_45 (im_fl cn_312 fl_12_710) sf_6952 rfl rfl ti_12_36 (im_rgc hr7 ((im_rdk _ _ _ (by decide)).trans ((im_rdn _ _ _ _ (by decide)).trans ((im_rdn _ _ _ _ (by decide)).trans (im_rdn _ _ _ _ (by decide)))))) ?_
  refine im_ld (q := 49) (i := 0) D312_48 rfl rfl rfl ?_
  refine im_ld (q := 50) (i := 0) D312_49 rfl rfl rfl ?_
  refine im_rng (j := 7) sf_6952 (by decide) (by decide) (fun hr8 => ?_)
  refine im_gfI (q := 53) D312_50 (im_fl cn_312 fl_12_449) sf_6952 rfl rfl tI_12_7 ((im_rdk _ _ _ (by decide)).trans ((im_rdk _ _ _ (by decide)).trans ((im_rdn _ _ _ _ (by decide)).trans ((im_rdn _ _ _ _ (by decide)).trans (im_rdn _ _ _ _ (by decide)))))) ?_
  refine im_pfI (q := 56) D312_53 (im_fl cn_312 fl_12_617) sf_6952 rfl rfl ti_12_6 (im_rgc hr8 ((im_rdk _ _ _ (by decide)).trans ((im_rdk _ _ _ (by decide)).trans ((im_rdn _ _ _ _ (by decide)).trans ((im_rdn _ _ _ _ (by decide)).trans (im_rdn _ _ _ _ (by decide))))))) ?_
  refine im_ld (q := 57) (i := 0) D312_56 rfl rfl rfl ?_
  refine im_gfR (q := 60) (b := 6986) D312_57 (im_fl cn_312 fl_12_112) sf_6952 rfl rfl tR_12_54 rf_6952_54 ?_
  refine im_ld (q := 61) (i := 1) D312_60 rfl rfl rfl ?_
  refine im_iald (q := 62) D312_61 sf_6986 hg1.1 hg1.2 (by decide) ((im_rdn _ _ _ _ (by decide)).trans ((im_rdn _ _ _ _ (by decide)).trans ((im_rdn _ _ _ _ (by decide)).trans (im_rds _ _ _ _)))) ?_
  exact im_iret (q := 63) D312_62 rfl hP
set_option maxRecDepth 20000 in
set_option maxHeartbeats 4000000 in
theorem b_fault_0 {g : im_g} {d : Nat} {e : im_E} {M : im_M} {K : im_K} {p1 : Int} (hP : (im_i32 p1) ∧ ((∀ x5 : Int, (((p1 = 0) ∧ x5 = (M 6952 19)) ∨ ((¬ p1 = 0) ∧ x5 = (M 6952 20))) → K (.inl (some (vI x5))) e (im_u M 6952 0 0)))) : im_T g d 313 0 [some (.ref 6952), some (vI p1)] [] e M K := by
  refine im_ld (q := 1) (i := 0) D313_0 rfl rfl rfl ?_
  refine im_iconst (q := 2) D313_1 ?_
  refine im_pfI (q := 5) D313_2 (im_fl cn_313 fl_12_409) sf_6952 rfl rfl ti_12_0 (by decide) ?_
  refine im_ld (q := 6) (i := 1) D313_5 rfl rfl rfl ?_
  obtain ⟨hg1, hP⟩ := hP
  have hJ6 := hP
  have kJ7 : ∀ x5 : Int, (((p1 = 0) ∧ x5 = (M 6952 19)) ∨ ((¬ p1 = 0) ∧ x5 = (M 6952 20))) → im_T g d 313 20 [none, none] [vI x5] e (im_u M 6952 0 0) K := by
    intro x5 hx8
    have hP := hJ6 x5 hx8
    exact im_iret (q := 21) D313_20 rfl hP
  refine im_ifc (q := 9) (t := 16) D313_6 rfl hg1 (fun hc2 => ?_) (fun hc2 => ?_)
  · refine im_ld (q := 17) (i := 0) D313_16 rfl rfl rfl ?_
    refine im_rng (j := 19) sf_6952 (by decide) (by decide) (fun hr3 => ?_)
    refine im_gfI (q := 20) D313_17 (im_fl cn_313 fl_12_403) sf_6952 rfl rfl tI_12_19 (im_rdk _ _ _ (by decide)) ?_
    exact (kJ7 ((M 6952 19)) (Or.inl ⟨hc2, rfl⟩)).wk trivial
  · refine im_ld (q := 10) (i := 0) D313_9 rfl rfl rfl ?_
    refine im_rng (j := 20) sf_6952 (by decide) (by decide) (fun hr4 => ?_)
    refine im_gfI (q := 13) D313_10 (im_fl cn_313 fl_12_406) sf_6952 rfl rfl tI_12_20 (im_rdk _ _ _ (by decide)) ?_
    refine im_goto (q := 16) (t := 20) D313_13 rfl ?_
    exact (kJ7 ((M 6952 20)) (Or.inr ⟨hc2, rfl⟩)).wk trivial
set_option maxRecDepth 20000 in
set_option maxHeartbeats 4000000 in
theorem b_drop_0 {g : im_g} {d : Nat} {e : im_E} {M : im_M} {K : im_K} {p1 : Int} (hd : 1 ≤ d) (hP : (im_i32 p1) ∧ im_T g (d - 1) 268 0 [some (vL p1), none, some (vL 0), none, some (vL 15), none] [] e M (im_ri (fun x3 e_ M2 => e = e_ ∧ im_T g (d - 1) 268 0 [some (vL p1), none, some (vL 0), none, some (vL 15), none] [] e M2 (im_ri (fun x5 e_ M4 => e = e_ ∧ (im_i32 x5) ∧ ((((¬ x5 = 0 → (0 ≤ p1 ∧ p1 < 16) ∧ ((¬ (M4 6984 p1) = 0 → im_T g (d - 1) 264 0 [some (.ref 6952), some (vI 2), some (vI x3), some (vI 1), some (vI 1)] [] e M4 (im_ri (fun x33 e_ M32 => e = e_ ∧ (im_i32 x33) ∧ ((¬ x33 = 0 → im_T g (d - 1) 307 0 [some (.ref 6952), some (vI 2), some (vI 1), some (vL p1), none, some (vL 0), none, some (vL 0), none, some (vI 0), none, none, none, none] [] e M32 (im_ri (fun x37 e_ M36 => e = e_ ∧ (im_i32 x37) ∧ ((((¬ x37 = (-100) → ((¬ (M36 6984 p1) = 0 → ((x37 < 0 → K (.inl (some (vI x37))) e (im_u M36 6984 p1 1)))))) ∧ (x37 = (-100) → K (.inl (some (vI 0))) e (im_u M36 6952 0 2)))) ∧ ((((¬ x37 = (-100)) ∧ ((M36 6984 p1) = 0)) ∨ ((¬ x37 = (-100)) ∧ (¬ (M36 6984 p1) = 0) ∧ (0 ≤ x37))) → K (.inl (some (vI x37))) e (im_u M36 6984 p1 0)))))) ∧ (x33 = 0 → K (.inl (some (vI 0))) e M32))))))))) ∧ ((((x5 = 0)) ∨ ((¬ x5 = 0) ∧ ((M4 6984 p1) = 0))) → im_T g (d - 1) 264 0 [some (.ref 6952), some (vI 2), some (vI x3), some (vI 0), some (vI 1)] [] e M4 (im_ri (fun x15 e_ M14 => e = e_ ∧ (im_i32 x15) ∧ ((¬ x15 = 0 → im_T g (d - 1) 307 0 [some (.ref 6952), some (vI 2), some (vI 1), some (vL p1), none, some (vL 0), none, some (vL 0), none, some (vI 0), none, none, none, none] [] e M14 (im_ri (fun x19 e_ M18 => e = e_ ∧ (im_i32 x19) ∧ ((((¬ x19 = (-100) → (0 ≤ p1 ∧ p1 < 16) ∧ ((¬ (M18 6984 p1) = 0 → ((x19 < 0 → K (.inl (some (vI x19))) e (im_u M18 6984 p1 1)))))) ∧ (x19 = (-100) → K (.inl (some (vI 0))) e (im_u M18 6952 0 2)))) ∧ ((((¬ x19 = (-100)) ∧ ((M18 6984 p1) = 0)) ∨ ((¬ x19 = (-100)) ∧ (¬ (M18 6984 p1) = 0) ∧ (0 ≤ x19))) → (0 ≤ p1 ∧ p1 < 16) ∧ K (.inl (some (vI x19))) e (im_u M18 6984 p1 0)))))) ∧ (x15 = 0 → K (.inl (some (vI 0))) e M14))))))))))) : im_T g d 314 0 [some (.ref 6952), some (vI p1), none] [] e M K := by
  refine im_ld (q := 1) (i := 0) D314_0 rfl rfl rfl ?_
  refine im_iconst (q := 2) D314_1 ?_
  refine im_ld (q := 3) (i := 1) D314_2 rfl rfl rfl ?_
  obtain ⟨hg1, hP⟩ := hP
  refine im_i2l (q := 4) D314_3 hg1 ?_
  refine im_lconst (q := 5) (z := 0) D314_4 rfl ?_
  refine im_ldc2 (q := 8) (n := 15) D314_5 rfl ?_
  refine im_callS (q := 11) (kd := 0) (y := 268) (n := 3) (z := 12) (vs := [vL p1, vL 0, vL 15]) (r := [vI 2, .ref 6952]) (L2 := [some (vL p1), none, some (vL 0), none, some (vL 15), none]) D314_8 rfl (im_cal cn_314 cl_12_428) (Or.inl rfl) rfl rfl rfl rfl rfl hd ⟨rfl, rfl, rfl, trivial⟩ ?_
  refine hP.mono ?_
  rintro _ e49 M2 ⟨x3, rfl, rfl, hP⟩
  refine im_bkS ?_
  refine im_ld (q := 12) (i := 1) D314_11 rfl rfl rfl ?_
  refine im_i2l (q := 13) D314_12 hg1 ?_
  refine im_lconst (q := 14) (z := 0) D314_13 rfl ?_
  refine im_ldc2 (q := 17) (n := 15) D314_14 rfl ?_
  refine im_callS (q := 20) (kd := 0) (y := 268) (n := 3) (z := 12) (vs := [vL p1, vL 0, vL 15]) (r := [vI x3, vI 2, .ref 6952]) (L2 := [some (vL p1), none, some (vL 0), none, some (vL 15), none]) D314_17 rfl (im_cal cn_314 cl_12_428) (Or.inl rfl) rfl rfl rfl rfl rfl hd ⟨rfl, rfl, rfl, trivial⟩ ?_
  refine hP.mono ?_
  rintro _ e48 M4 ⟨x5, rfl, rfl, hP⟩
  refine im_bkS ?_
  obtain ⟨hg6, hP⟩ := hP
  obtain ⟨hP, hJ11⟩ := hP
  have kJ12 : (((x5 = 0)) ∨ ((¬ x5 = 0) ∧ ((M4 6984 p1) = 0))) → im_T g d 314 36 [some (.ref 6952), some (vI p1), none] [vI x3, vI 2, .ref 6952] e M4 K := by
    intro  hx13
    have hP := hJ11  hx13
    refine im_iconst (q := 37) D314_36 ?_
    refine im_iconst (q := 38) D314_37 ?_
    refine im_callV (q := 41) (kd := 1) (y := 264) (n := 4) (ci := 12) (a := 6952) (vs := [.ref 6952, vI 2, vI x3, vI 0, vI 1]) (r := []) (L2 := [some (.ref 6952), some (vI 2), some (vI x3), some (vI 0), some (vI 1)]) D314_38 (im_cal cn_314 cl_12_419) (Or.inl rfl) rfl sf_6952 rfl rfl rfl rfl hd ⟨rfl, rfl, rfl, rfl, rfl, trivial⟩ ?_
    refine hP.mono ?_
    rintro _ e31 M14 ⟨x15, rfl, rfl, hP⟩
    refine im_bkS ?_
    obtain ⟨hg16, hP⟩ := hP
    refine im_ifc (q := 44) (t := 46) D314_41 rfl hg16 (fun hc17 => ?_) (fun hc17 => ?_)
    · replace hP := hP.1 hc17
      refine im_ld (q := 47) (i := 0) D314_46 rfl rfl rfl ?_
      refine im_iconst (q := 48) D314_47 ?_
      refine im_iconst (q := 49) D314_48 ?_
      refine im_ld (q := 50) (i := 1) D314_49 rfl rfl rfl ?_
      refine im_i2l (q := 51) D314_50 hg1 ?_
      refine im_lconst (q := 52) (z := 0) D314_51 rfl ?_
      refine im_lconst (q := 53) (z := 0) D314_52 rfl ?_
      refine im_iconst (q := 54) D314_53 ?_
      refine im_callV (q := 57) (kd := 1) (y := 307) (n := 6) (ci := 12) (a := 6952) (vs := [.ref 6952, vI 2, vI 1, vL p1, vL 0, vL 0, vI 0]) (r := []) (L2 := [some (.ref 6952), some (vI 2), some (vI 1), some (vL p1), none, some (vL 0), none, some (vL 0), none, some (vI 0), none, none, none, none]) D314_54 (im_cal cn_314 cl_12_740) (Or.inl rfl) rfl sf_6952 rfl rfl rfl rfl hd ⟨rfl, rfl, rfl, rfl, rfl, rfl, rfl, trivial⟩ ?_
      refine hP.mono ?_
      rintro _ e30 M18 ⟨x19, rfl, rfl, hP⟩
      refine im_bkS ?_
      refine im_st1 (q := 58) (i := 2) (L' := [some (.ref 6952), some (vI p1), some (vI x19)]) D314_57 (Or.inl ⟨_, rfl, rfl⟩) (Nat.le_of_ble_eq_true rfl) rfl ?_
      refine im_ld (q := 59) (i := 2) D314_58 rfl rfl rfl ?_
      refine im_bipush (q := 61) D314_59 rfl ?_
      obtain ⟨hg20, hP⟩ := hP
      obtain ⟨hP, hJ26⟩ := hP
      have kJ27 : (((¬ x19 = (-100)) ∧ ((M18 6984 p1) = 0)) ∨ ((¬ x19 = (-100)) ∧ (¬ (M18 6984 p1) = 0) ∧ (0 ≤ x19))) → im_T g d 314 93 [none, none, some (vI x19)] [vI p1, .ref 6984] e M18 K := by
        intro  hx28
        have hP := hJ26  hx28
        refine im_iconst (q := 94) D314_93 ?_
        obtain ⟨hg29, hP⟩ := hP
        refine im_zast (q := 95) D314_94 sf_6984 hg29.1 hg29.2 (by decide) (by decide) ?_
        refine im_ld (q := 96) (i := 2) D314_95 rfl rfl rfl ?_
        exact im_iret (q := 97) D314_96 rfl hP
      refine im_icmp (q := 64) (t := 71) D314_61 rfl hg20 (by decide) (fun hc21 => ?_) (fun hc21 => ?_)
      · replace hP := hP.1 hc21
        refine im_ld (q := 72) (i := 0) D314_71 rfl rfl rfl ?_
        refine im_gfR (q := 75) (b := 6984) D314_72 (im_fl cn_314 fl_12_106) sf_6952 rfl rfl tR_12_52 rf_6952_52 ?_
        refine im_ld (q := 76) (i := 1) D314_75 rfl rfl rfl ?_
        refine im_ld (q := 77) (i := 0) D314_76 rfl rfl rfl ?_
        refine im_gfR (q := 80) (b := 6984) D314_77 (im_fl cn_314 fl_12_106) sf_6952 rfl rfl tR_12_52 rf_6952_52 ?_
        refine im_ld (q := 81) (i := 1) D314_80 rfl rfl rfl ?_
        obtain ⟨hg22, hP⟩ := hP
        refine im_rng (j := p1) sf_6984 hg22.1 hg22.2 (fun hr23 => ?_)
        refine im_bald (q := 82) D314_81 sf_6984 (Or.inr rfl) hg22.1 hg22.2 (by decide) rfl ?_
        refine im_ifc (q := 85) (t := 93) D314_82 rfl (im_z32 hr23) (fun hc24 => ?_) (fun hc24 => ?_)
        · exact (kJ27  (Or.inl ⟨hc21, hc24⟩)).wk ⟨rfl, trivial⟩
        · replace hP := hP hc24
          refine im_ld (q := 86) (i := 2) D314_85 rfl rfl rfl ?_
          refine im_ifc (q := 89) (t := 93) D314_86 rfl hg20 (fun hc25 => ?_) (fun hc25 => ?_)
          · exact (kJ27  (Or.inr ⟨hc21, hc24, hc25⟩)).wk ⟨rfl, trivial⟩
          · replace hP := hP (Int.not_le.mp hc25)
            refine im_iconst (q := 90) D314_89 ?_
            refine im_goto (q := 93) (t := 94) D314_90 rfl ?_
            refine im_zast (q := 95) D314_94 sf_6984 hg22.1 hg22.2 (by decide) (by decide) ?_
            refine im_ld (q := 96) (i := 2) D314_95 rfl rfl rfl ?_
            exact im_iret (q := 97) D314_96 rfl hP
      · replace hP := hP.2 (Decidable.not_not.mp hc21)
        refine im_ld (q := 65) (i := 0) D314_64 rfl rfl rfl ?_
        refine im_iconst (q := 66) D314_65 ?_
        refine im_pfI (q := 69) D314_66 (im_fl cn_314 fl_12_409) sf_6952 rfl rfl ti_12_0 (by decide) ?_
        refine im_iconst (q := 70) D314_69 ?_
        exact im_iret (q := 71) D314_70 rfl hP
    · replace hP := hP.2 (Decidable.not_not.mp hc17)
      refine im_iconst (q := 45) D314_44 ?_
      exact im_iret (q := 46) D314_45 rfl hP
  refine im_ifc (q := 23) (t := 36) D314_20 rfl hg6 (fun hc7 => ?_) (fun hc7 => ?_)
  · exact (kJ12  (Or.inl hc7)).wk ⟨rfl, rfl, trivial⟩
  · replace hP := hP hc7
    refine im_ld (q := 24) (i := 0) D314_23 rfl rfl rfl ?_
    refine im_gfR (q := 27) (b := 6984) D314_24 (im_fl cn_314 fl_12_106) sf_6952 rfl rfl tR_12_52 rf_6952_52 ?_
    refine im_ld (q := 28) (i := 1) D314_27 rfl rfl rfl ?_
    obtain ⟨hg8, hP⟩ := hP
    refine im_rng (j := p1) sf_6984 hg8.1 hg8.2 (fun hr9 => ?_)
    refine im_bald (q := 29) D314_28 sf_6984 (Or.inr rfl) hg8.1 hg8.2 (by decide) rfl ?_
    refine im_ifc (q := 32) (t := 36) D314_29 rfl (im_z32 hr9) (fun hc10 => ?_) (fun hc10 => ?_)
    · exact (kJ12  (Or.inr ⟨hc7, hc10⟩)).wk ⟨rfl, rfl, trivial⟩
    · replace hP := hP hc10
      refine im_iconst (q := 33) D314_32 ?_
      refine im_goto (q := 36) (t := 37) D314_33 rfl ?_
      refine im_iconst (q := 38) D314_37 ?_
      refine im_callV (q := 41) (kd := 1) (y := 264) (n := 4) (ci := 12) (a := 6952) (vs := [.ref 6952, vI 2, vI x3, vI 1, vI 1]) (r := []) (L2 := [some (.ref 6952), some (vI 2), some (vI x3), some (vI 1), some (vI 1)]) D314_38 (im_cal cn_314 cl_12_419) (Or.inl rfl) rfl sf_6952 rfl rfl rfl rfl hd ⟨rfl, rfl, rfl, rfl, rfl, trivial⟩ ?_
      refine hP.mono ?_
      rintro _ e47 M32 ⟨x33, rfl, rfl, hP⟩
      refine im_bkS ?_
      obtain ⟨hg34, hP⟩ := hP
      refine im_ifc (q := 44) (t := 46) D314_41 rfl hg34 (fun hc35 => ?_) (fun hc35 => ?_)
      · replace hP := hP.1 hc35
        refine im_ld (q := 47) (i := 0) D314_46 rfl rfl rfl ?_
        refine im_iconst (q := 48) D314_47 ?_
        refine im_iconst (q := 49) D314_48 ?_
        refine im_ld (q := 50) (i := 1) D314_49 rfl rfl rfl ?_
        refine im_i2l (q := 51) D314_50 hg1 ?_
        refine im_lconst (q := 52) (z := 0) D314_51 rfl ?_
        refine im_lconst (q := 53) (z := 0) D314_52 rfl ?_
        refine im_iconst (q := 54) D314_53 ?_
        refine im_callV (q := 57) (kd := 1) (y := 307) (n := 6) (ci := 12) (a := 6952) (vs := [.ref 6952, vI 2, vI 1, vL p1, vL 0, vL 0, vI 0]) (r := []) (L2 := [some (.ref 6952), some (vI 2), some (vI 1), some (vL p1), none, some (vL 0), none, some (vL 0), none, some (vI 0), none, none, none, none]) D314_54 (im_cal cn_314 cl_12_740) (Or.inl rfl) rfl sf_6952 rfl rfl rfl rfl hd ⟨rfl, rfl, rfl, rfl, rfl, rfl, rfl, trivial⟩ ?_
        refine hP.mono ?_
        rintro _ e46 M36 ⟨x37, rfl, rfl, hP⟩
        refine im_bkS ?_
        refine im_st1 (q := 58) (i := 2) (L' := [some (.ref 6952), some (vI p1), some (vI x37)]) D314_57 (Or.inl ⟨_, rfl, rfl⟩) (Nat.le_of_ble_eq_true rfl) rfl ?_
        refine im_ld (q := 59) (i := 2) D314_58 rfl rfl rfl ?_
        refine im_bipush (q := 61) D314_59 rfl ?_
        obtain ⟨hg38, hP⟩ := hP
        obtain ⟨hP, hJ43⟩ := hP
        have kJ44 : (((¬ x37 = (-100)) ∧ ((M36 6984 p1) = 0)) ∨ ((¬ x37 = (-100)) ∧ (¬ (M36 6984 p1) = 0) ∧ (0 ≤ x37))) → im_T g d 314 93 [none, none, some (vI x37)] [vI p1, .ref 6984] e M36 K := by
          intro  hx45
          have hP := hJ43  hx45
          refine im_iconst (q := 94) D314_93 ?_
          refine im_zast (q := 95) D314_94 sf_6984 hg8.1 hg8.2 (by decide) (by decide) ?_
          refine im_ld (q := 96) (i := 2) D314_95 rfl rfl rfl ?_
          exact im_iret (q := 97) D314_96 rfl hP
        refine im_icmp (q := 64) (t := 71) D314_61 rfl hg38 (by decide) (fun hc39 => ?_) (fun hc39 => ?_)
        · replace hP := hP.1 hc39
          refine im_ld (q := 72) (i := 0) D314_71 rfl rfl rfl ?_
          refine im_gfR (q := 75) (b := 6984) D314_72 (im_fl cn_314 fl_12_106) sf_6952 rfl rfl tR_12_52 rf_6952_52 ?_
          refine im_ld (q := 76) (i := 1) D314_75 rfl rfl rfl ?_
          refine im_ld (q := 77) (i := 0) D314_76 rfl rfl rfl ?_
          refine im_gfR (q := 80) (b := 6984) D314_77 (im_fl cn_314 fl_12_106) sf_6952 rfl rfl tR_12_52 rf_6952_52 ?_
          refine im_ld (q := 81) (i := 1) D314_80 rfl rfl rfl ?_
          refine im_rng (j := p1) sf_6984 hg8.1 hg8.2 (fun hr40 => ?_)
          refine im_bald (q := 82) D314_81 sf_6984 (Or.inr rfl) hg8.1 hg8.2 (by decide) rfl ?_
          refine im_ifc (q := 85) (t := 93) D314_82 rfl (im_z32 hr40) (fun hc41 => ?_) (fun hc41 => ?_)
          · exact (kJ44  (Or.inl ⟨hc39, hc41⟩)).wk ⟨rfl, trivial⟩
          · replace hP := hP hc41
            refine im_ld (q := 86) (i := 2) D314_85 rfl rfl rfl ?_
            refine im_ifc (q := 89) (t := 93) D314_86 rfl hg38 (fun hc42 => ?_) (fun hc42 => ?_)
            · exact (kJ44  (Or.inr ⟨hc39, hc41, hc42⟩)).wk ⟨rfl, trivial⟩
            · replace hP := hP (Int.not_le.mp hc42)
              refine im_iconst (q := 90) D314_89 ?_
              refine im_goto (q := 93) (t := 94) D314_90 rfl ?_
              refine im_zast (q := 95) D314_94 sf_6984 hg8.1 hg8.2 (by decide) (by decide) ?_
              refine im_ld (q := 96) (i := 2) D314_95 rfl rfl rfl ?_
              exact im_iret (q := 97) D314_96 rfl hP
        · replace hP := hP.2 (Decidable.not_not.mp hc39)
          refine im_ld (q := 65) (i := 0) D314_64 rfl rfl rfl ?_
          refine im_iconst (q := 66) D314_65 ?_
          refine im_pfI (q := 69) D314_66 (im_fl cn_314 fl_12_409) sf_6952 rfl rfl ti_12_0 (by decide) ?_
          refine im_iconst (q := 70) D314_69 ?_
          exact im_iret (q := 71) D314_70 rfl hP
      · replace hP := hP.2 (Decidable.not_not.mp hc35)
        refine im_iconst (q := 45) D314_44 ?_
        exact im_iret (q := 46) D314_45 rfl hP
set_option maxRecDepth 20000 in
set_option maxHeartbeats 4000000 in
theorem b_print_0 {g : im_g} {d : Nat} {e : im_E} {M : im_M} {K : im_K} {p1 : Int} (hd : 1 ≤ d) (hP : (im_i32 p1) ∧ im_T g (d - 1) 268 0 [some (vL p1), none, some (vL 0), none, some (vL 15), none] [] e M (im_ri (fun x3 e_ M2 => e = e_ ∧ im_T g (d - 1) 268 0 [some (vL p1), none, some (vL 0), none, some (vL 15), none] [] e M2 (im_ri (fun x5 e_ M4 => e = e_ ∧ (im_i32 x5) ∧ ((((¬ x5 = 0 → (0 ≤ p1 ∧ p1 < 16) ∧ ((¬ (M4 6984 p1) = 0 → im_T g (d - 1) 264 0 [some (.ref 6952), some (vI 2), some (vI x3), some (vI 1), some (vI 1)] [] e M4 (im_ri (fun x25 e_ M24 => e = e_ ∧ (im_i32 x25) ∧ ((x25 = 0 → K (.inl (some (vI 0))) e M24) ∧ (¬ x25 = 0 → im_T g (d - 1) 316 0 [some (.ref 6952), some (vI (M24 6985 p1)), none, none] [] e M24 (im_ri (fun x30 e_ M29 => e = e_ ∧ K (.inl (some (vI x30))) e M29))))))))))) ∧ ((((x5 = 0)) ∨ ((¬ x5 = 0) ∧ ((M4 6984 p1) = 0))) → im_T g (d - 1) 264 0 [some (.ref 6952), some (vI 2), some (vI x3), some (vI 0), some (vI 1)] [] e M4 (im_ri (fun x15 e_ M14 => e = e_ ∧ (im_i32 x15) ∧ ((x15 = 0 → K (.inl (some (vI 0))) e M14) ∧ (¬ x15 = 0 → (0 ≤ p1 ∧ p1 < 16) ∧ im_T g (d - 1) 316 0 [some (.ref 6952), some (vI (M14 6985 p1)), none, none] [] e M14 (im_ri (fun x21 e_ M20 => e = e_ ∧ K (.inl (some (vI x21))) e M20))))))))))))) : im_T g d 315 0 [some (.ref 6952), some (vI p1)] [] e M K := by
  refine im_ld (q := 1) (i := 0) D315_0 rfl rfl rfl ?_
  refine im_iconst (q := 2) D315_1 ?_
  refine im_ld (q := 3) (i := 1) D315_2 rfl rfl rfl ?_
  obtain ⟨hg1, hP⟩ := hP
  refine im_i2l (q := 4) D315_3 hg1 ?_
  refine im_lconst (q := 5) (z := 0) D315_4 rfl ?_
  refine im_ldc2 (q := 8) (n := 15) D315_5 rfl ?_
  refine im_callS (q := 11) (kd := 0) (y := 268) (n := 3) (z := 12) (vs := [vL p1, vL 0, vL 15]) (r := [vI 2, .ref 6952]) (L2 := [some (vL p1), none, some (vL 0), none, some (vL 15), none]) D315_8 rfl (im_cal cn_315 cl_12_428) (Or.inl rfl) rfl rfl rfl rfl rfl hd ⟨rfl, rfl, rfl, trivial⟩ ?_
  refine hP.mono ?_
  rintro _ e34 M2 ⟨x3, rfl, rfl, hP⟩
  refine im_bkS ?_
  refine im_ld (q := 12) (i := 1) D315_11 rfl rfl rfl ?_
  refine im_i2l (q := 13) D315_12 hg1 ?_
  refine im_lconst (q := 14) (z := 0) D315_13 rfl ?_
  refine im_ldc2 (q := 17) (n := 15) D315_14 rfl ?_
  refine im_callS (q := 20) (kd := 0) (y := 268) (n := 3) (z := 12) (vs := [vL p1, vL 0, vL 15]) (r := [vI x3, vI 2, .ref 6952]) (L2 := [some (vL p1), none, some (vL 0), none, some (vL 15), none]) D315_17 rfl (im_cal cn_315 cl_12_428) (Or.inl rfl) rfl rfl rfl rfl rfl hd ⟨rfl, rfl, rfl, trivial⟩ ?_
  refine hP.mono ?_
  rintro _ e33 M4 ⟨x5, rfl, rfl, hP⟩
  refine im_bkS ?_
  obtain ⟨hg6, hP⟩ := hP
  obtain ⟨hP, hJ11⟩ := hP
  have kJ12 : (((x5 = 0)) ∨ ((¬ x5 = 0) ∧ ((M4 6984 p1) = 0))) → im_T g d 315 36 [some (.ref 6952), some (vI p1)] [vI x3, vI 2, .ref 6952] e M4 K := by
    intro  hx13
    have hP := hJ11  hx13
    refine im_iconst (q := 37) D315_36 ?_
    refine im_iconst (q := 38) D315_37 ?_
    refine im_callV (q := 41) (kd := 1) (y := 264) (n := 4) (ci := 12) (a := 6952) (vs := [.ref 6952, vI 2, vI x3, vI 0, vI 1]) (r := []) (L2 := [some (.ref 6952), some (vI 2), some (vI x3), some (vI 0), some (vI 1)]) D315_38 (im_cal cn_315 cl_12_419) (Or.inl rfl) rfl sf_6952 rfl rfl rfl rfl hd ⟨rfl, rfl, rfl, rfl, rfl, trivial⟩ ?_
    refine hP.mono ?_
    rintro _ e23 M14 ⟨x15, rfl, rfl, hP⟩
    refine im_bkS ?_
    obtain ⟨hg16, hP⟩ := hP
    refine im_ifc (q := 44) (t := 57) D315_41 rfl hg16 (fun hc17 => ?_) (fun hc17 => ?_)
    · replace hP := hP.1 hc17
      refine im_iconst (q := 58) D315_57 ?_
      exact im_iret (q := 59) D315_58 rfl hP
    · replace hP := hP.2 hc17
      refine im_ld (q := 45) (i := 0) D315_44 rfl rfl rfl ?_
      refine im_ld (q := 46) (i := 0) D315_45 rfl rfl rfl ?_
      refine im_gfR (q := 49) (b := 6985) D315_46 (im_fl cn_315 fl_12_109) sf_6952 rfl rfl tR_12_53 rf_6952_53 ?_
      refine im_ld (q := 50) (i := 1) D315_49 rfl rfl rfl ?_
      obtain ⟨hg18, hP⟩ := hP
      refine im_rng (j := p1) sf_6985 hg18.1 hg18.2 (fun hr19 => ?_)
      refine im_iald (q := 51) D315_50 sf_6985 hg18.1 hg18.2 (by decide) rfl ?_
      refine im_callV (q := 54) (kd := 1) (y := 316) (n := 1) (ci := 12) (a := 6952) (vs := [.ref 6952, vI (M14 6985 p1)]) (r := []) (L2 := [some (.ref 6952), some (vI (M14 6985 p1)), none, none]) D315_51 (im_cal cn_315 cl_12_776) (Or.inl rfl) rfl sf_6952 rfl rfl rfl rfl hd ⟨rfl, rfl, trivial⟩ ?_
      refine hP.mono ?_
      rintro _ e22 M20 ⟨x21, rfl, rfl, hP⟩
      refine im_bkS ?_
      refine im_goto (q := 57) (t := 58) D315_54 rfl ?_
      exact im_iret (q := 59) D315_58 rfl hP
  refine im_ifc (q := 23) (t := 36) D315_20 rfl hg6 (fun hc7 => ?_) (fun hc7 => ?_)
  · exact (kJ12  (Or.inl hc7)).wk ⟨rfl, rfl, trivial⟩
  · replace hP := hP hc7
    refine im_ld (q := 24) (i := 0) D315_23 rfl rfl rfl ?_
    refine im_gfR (q := 27) (b := 6984) D315_24 (im_fl cn_315 fl_12_106) sf_6952 rfl rfl tR_12_52 rf_6952_52 ?_
    refine im_ld (q := 28) (i := 1) D315_27 rfl rfl rfl ?_
    obtain ⟨hg8, hP⟩ := hP
    refine im_rng (j := p1) sf_6984 hg8.1 hg8.2 (fun hr9 => ?_)
    refine im_bald (q := 29) D315_28 sf_6984 (Or.inr rfl) hg8.1 hg8.2 (by decide) rfl ?_
    refine im_ifc (q := 32) (t := 36) D315_29 rfl (im_z32 hr9) (fun hc10 => ?_) (fun hc10 => ?_)
    · exact (kJ12  (Or.inr ⟨hc7, hc10⟩)).wk ⟨rfl, rfl, trivial⟩
    · replace hP := hP hc10
      refine im_iconst (q := 33) D315_32 ?_
      refine im_goto (q := 36) (t := 37) D315_33 rfl ?_
      refine im_iconst (q := 38) D315_37 ?_
      refine im_callV (q := 41) (kd := 1) (y := 264) (n := 4) (ci := 12) (a := 6952) (vs := [.ref 6952, vI 2, vI x3, vI 1, vI 1]) (r := []) (L2 := [some (.ref 6952), some (vI 2), some (vI x3), some (vI 1), some (vI 1)]) D315_38 (im_cal cn_315 cl_12_419) (Or.inl rfl) rfl sf_6952 rfl rfl rfl rfl hd ⟨rfl, rfl, rfl, rfl, rfl, trivial⟩ ?_
      refine hP.mono ?_
      rintro _ e32 M24 ⟨x25, rfl, rfl, hP⟩
      refine im_bkS ?_
      obtain ⟨hg26, hP⟩ := hP
      refine im_ifc (q := 44) (t := 57) D315_41 rfl hg26 (fun hc27 => ?_) (fun hc27 => ?_)
      · replace hP := hP.1 hc27
        refine im_iconst (q := 58) D315_57 ?_
        exact im_iret (q := 59) D315_58 rfl hP
      · replace hP := hP.2 hc27
        refine im_ld (q := 45) (i := 0) D315_44 rfl rfl rfl ?_
        refine im_ld (q := 46) (i := 0) D315_45 rfl rfl rfl ?_
        refine im_gfR (q := 49) (b := 6985) D315_46 (im_fl cn_315 fl_12_109) sf_6952 rfl rfl tR_12_53 rf_6952_53 ?_
        refine im_ld (q := 50) (i := 1) D315_49 rfl rfl rfl ?_
        refine im_rng (j := p1) sf_6985 hg8.1 hg8.2 (fun hr28 => ?_)
        refine im_iald (q := 51) D315_50 sf_6985 hg8.1 hg8.2 (by decide) rfl ?_
        refine im_callV (q := 54) (kd := 1) (y := 316) (n := 1) (ci := 12) (a := 6952) (vs := [.ref 6952, vI (M24 6985 p1)]) (r := []) (L2 := [some (.ref 6952), some (vI (M24 6985 p1)), none, none]) D315_51 (im_cal cn_315 cl_12_776) (Or.inl rfl) rfl sf_6952 rfl rfl rfl rfl hd ⟨rfl, rfl, trivial⟩ ?_
        refine hP.mono ?_
        rintro _ e31 M29 ⟨x30, rfl, rfl, hP⟩
        refine im_bkS ?_
        refine im_goto (q := 57) (t := 58) D315_54 rfl ?_
        exact im_iret (q := 59) D315_58 rfl hP
set_option maxRecDepth 20000 in
set_option maxHeartbeats 4000000 in
theorem b_tellAll_0 {g : im_g} {d : Nat} {e : im_E} {M : im_M} {K : im_K} {p1 : Int} (hd : 1 ≤ d) (hP : im_T g (d - 1) 317 0 [some (.ref 6952), some (vI 0), some (vI p1)] [] e (im_u (im_u M 6952 4 0) 6952 57 0) (im_r0 (fun  e_ M1 => e = e_ ∧ im_T g d 316 16 [some (.ref 6952), none, none, none] [] e M1 K))) : im_T g d 316 0 [some (.ref 6952), some (vI p1), none, none] [] e M K := by
  refine im_ld (q := 1) (i := 0) D316_0 rfl rfl rfl ?_
  refine im_iconst (q := 2) D316_1 ?_
  refine im_pfI (q := 5) D316_2 (im_fl cn_316 fl_12_423) sf_6952 rfl rfl ti_12_4 (by decide) ?_
  refine im_ld (q := 6) (i := 0) D316_5 rfl rfl rfl ?_
  refine im_iconst (q := 7) D316_6 ?_
  refine im_pfI (q := 10) D316_7 (im_fl cn_316 fl_12_747) sf_6952 rfl rfl ti_12_57 (by decide) ?_
  refine im_ld (q := 11) (i := 0) D316_10 rfl rfl rfl ?_
  refine im_iconst (q := 12) D316_11 ?_
  refine im_ld (q := 13) (i := 1) D316_12 rfl rfl rfl ?_
  refine im_callV (q := 16) (kd := 1) (y := 317) (n := 2) (ci := 12) (a := 6952) (vs := [.ref 6952, vI 0, vI p1]) (r := []) (L2 := [some (.ref 6952), some (vI 0), some (vI p1)]) D316_13 (im_cal cn_316 cl_12_753) (Or.inl rfl) rfl sf_6952 rfl rfl rfl rfl hd ⟨rfl, rfl, rfl, trivial⟩ ?_
  refine hP.mono ?_
  rintro _ e2 M1 ⟨rfl, rfl, hP⟩
  refine im_bkN ?_
  exact hP.wk ⟨rfl, trivial⟩
set_option maxRecDepth 20000 in
set_option maxHeartbeats 4000000 in
theorem b_tellAll_16 {g : im_g} {d : Nat} {e : im_E} {M : im_M} {K : im_K} (hd : 1 ≤ d) (hP : (((M 6952 57) ≤ 0 → K (.inl (some (vI (M 6952 4)))) e M) ∧ (0 < (M 6952 57) → (im_i32 ((M 6952 57) - 1)) ∧ (0 ≤ ((M 6952 57) - 1) ∧ ((M 6952 57) - 1) < 5100) ∧ ((¬ (M 6988 ((M 6952 57) - 1)) = 0 → ((3 ≤ (M 6988 ((M 6952 57) - 1)) → (0 ≤ (M 6987 ((M 6952 57) - 1)) ∧ (M 6987 ((M 6952 57) - 1)) < 5100) ∧ (((M 6970 (M 6987 ((M 6952 57) - 1))) = 0 → im_T g (d - 1) 322 0 [some (.ref 6952), some (vI 32)] [] e (im_u M 6952 57 ((M 6952 57) - 1)) (im_r0 (fun  e_ M17 => e = e_ ∧ im_T g (d - 1) 327 0 [some (.ref 6952), some (vL (M17 6969 (M 6987 ((M 6952 57) - 1)))), none, none, none, none, none] [] e M17 (im_r0 (fun  e_ M19 => e = e_ ∧ im_T g d 316 16 [some (.ref 6952), none, none, none] [] e M19 K))))) ∧ (¬ (M 6970 (M 6987 ((M 6952 57) - 1))) = 0 → im_T g (d - 1) 325 0 [some (.ref 6952), some (vL (M 6961 (M 6987 ((M 6952 57) - 1)))), none] [] e (im_u M 6952 57 ((M 6952 57) - 1)) (im_r0 (fun  e_ M22 => e = e_ ∧ im_T g d 316 16 [some (.ref 6952), none, none, none] [] e M22 K))))) ∧ ((M 6988 ((M 6952 57) - 1)) < 3 → im_T g (d - 1) 322 0 [some (.ref 6952), some (vI 32)] [] e (im_u M 6952 57 ((M 6952 57) - 1)) (im_r0 (fun  e_ M24 => e = e_ ∧ ((∀ x26 : Int, (((¬ (M 6988 ((M 6952 57) - 1)) = 1) ∧ x26 = 93) ∨ (((M 6988 ((M 6952 57) - 1)) = 1) ∧ x26 = 91)) → im_T g (d - 1) 322 0 [some (.ref 6952), some (vI x26)] [] e M24 (im_r0 (fun  e_ M30 => e = e_ ∧ im_T g d 316 16 [some (.ref 6952), none, none, none] [] e M30 K))))))))) ∧ ((M 6988 ((M 6952 57) - 1)) = 0 → im_T g (d - 1) 318 0 [some (.ref 6952), some (vI (M 6987 ((M 6952 57) - 1))), none] [] e (im_u M 6952 57 ((M 6952 57) - 1)) (im_r0 (fun  e_ M33 => e = e_ ∧ im_T g d 316 16 [some (.ref 6952), none, none, none] [] e M33 K))))))) : im_T g d 316 16 [some (.ref 6952), none, none, none] [] e M K := by
  refine im_ld (q := 17) (i := 0) D316_16 rfl rfl rfl ?_
  refine im_rng (j := 57) sf_6952 (by decide) (by decide) (fun hr1 => ?_)
  refine im_gfI (q := 20) D316_17 (im_fl cn_316 fl_12_747) sf_6952 rfl rfl tI_12_57 rfl ?_
  refine im_ifc (q := 23) (t := 136) D316_20 rfl hr1 (fun hc2 => ?_) (fun hc2 => ?_)
  · replace hP := hP.1 hc2
    refine im_ld (q := 137) (i := 0) D316_136 rfl rfl rfl ?_
    refine im_rng (j := 4) sf_6952 (by decide) (by decide) (fun hr3 => ?_)
    refine im_gfI (q := 140) D316_137 (im_fl cn_316 fl_12_423) sf_6952 rfl rfl tI_12_4 rfl ?_
    exact im_iret (q := 141) D316_140 rfl hP
  · replace hP := hP.2 (Int.not_le.mp hc2)
    refine im_ld (q := 24) (i := 0) D316_23 rfl rfl rfl ?_
    refine im_dup (q := 25) D316_24 rfl ?_
    refine im_gfI (q := 28) D316_25 (im_fl cn_316 fl_12_747) sf_6952 rfl rfl tI_12_57 rfl ?_
    refine im_iconst (q := 29) D316_28 ?_
    refine im_isub (q := 30) D316_29 ?_
    obtain ⟨hg5, hP⟩ := hP
    refine im_pfI (q := 33) D316_30 (im_fl cn_316 fl_12_747) sf_6952 rfl rfl ti_12_57 hg5 ?_
    refine im_ld (q := 34) (i := 0) D316_33 rfl rfl rfl ?_
    refine im_gfR (q := 37) (b := 6988) D316_34 (im_fl cn_316 fl_12_118) sf_6952 rfl rfl tR_12_56 rf_6952_56 ?_
    refine im_ld (q := 38) (i := 0) D316_37 rfl rfl rfl ?_
    refine im_gfI (q := 41) D316_38 (im_fl cn_316 fl_12_747) sf_6952 rfl rfl tI_12_57 (im_rds _ _ _ _) ?_
    obtain ⟨hg7, hP⟩ := hP
    refine im_rng (j := ((M 6952 57) - 1)) sf_6988 hg7.1 hg7.2 (fun hr8 => ?_)
    refine im_iald (q := 42) D316_41 sf_6988 hg7.1 hg7.2 (by decide) (im_rdn _ _ _ _ (by decide)) ?_
    refine im_st1 (q := 43) (i := 2) (L' := [some (.ref 6952), none, some (vI (M 6988 ((M 6952 57) - 1))), none]) D316_42 (Or.inl ⟨_, rfl, rfl⟩) (Nat.le_of_ble_eq_true rfl) rfl ?_
    refine im_ld (q := 44) (i := 0) D316_43 rfl rfl rfl ?_
    refine im_gfR (q := 47) (b := 6987) D316_44 (im_fl cn_316 fl_12_115) sf_6952 rfl rfl tR_12_55 rf_6952_55 ?_
    refine im_ld (q := 48) (i := 0) D316_47 rfl rfl rfl ?_
    refine im_gfI (q := 51) D316_48 (im_fl cn_316 fl_12_747) sf_6952 rfl rfl tI_12_57 (im_rds _ _ _ _) ?_
    refine im_rng (j := ((M 6952 57) - 1)) sf_6987 hg7.1 hg7.2 (fun hr10 => ?_)
    refine im_iald (q := 52) D316_51 sf_6987 hg7.1 hg7.2 (by decide) (im_rdn _ _ _ _ (by decide)) ?_
    refine im_st1 (q := 53) (i := 3) (L' := [some (.ref 6952), none, some (vI (M 6988 ((M 6952 57) - 1))), some (vI (M 6987 ((M 6952 57) - 1)))]) D316_52 (Or.inl ⟨_, rfl, rfl⟩) (Nat.le_of_ble_eq_true rfl) rfl ?_
    refine im_ld (q := 54) (i := 2) D316_53 rfl rfl rfl ?_
    refine im_ifc (q := 57) (t := 65) D316_54 rfl (im_rgc hr8 (im_rdn _ _ _ _ (by decide))) (fun hc11 => ?_) (fun hc11 => ?_)
    · replace hP := hP.1 hc11
      refine im_ld (q := 66) (i := 2) D316_65 rfl rfl rfl ?_
      refine im_iconst (q := 67) D316_66 ?_
      refine im_icmp (q := 70) (t := 95) D316_67 rfl (im_rgc hr8 (im_rdn _ _ _ _ (by decide))) (by decide) (fun hc12 => ?_) (fun hc12 => ?_)
      · replace hP := hP.1 hc12
        refine im_ld (q := 96) (i := 0) D316_95 rfl rfl rfl ?_
        refine im_gfR (q := 99) (b := 6970) D316_96 (im_fl cn_316 fl_12_63) sf_6952 rfl rfl tR_12_31 rf_6952_31 ?_
        refine im_ld (q := 100) (i := 3) D316_99 rfl rfl rfl ?_
        obtain ⟨hg13, hP⟩ := hP
        refine im_rng (j := (M 6987 ((M 6952 57) - 1))) sf_6970 hg13.1 hg13.2 (fun hr14 => ?_)
        refine im_bald (q := 101) D316_100 sf_6970 (Or.inr rfl) hg13.1 hg13.2 (by decide) (im_rdn _ _ _ _ (by decide)) ?_
        refine im_ifc (q := 104) (t := 117) D316_101 rfl (im_z32 (im_rgc hr14 (im_rdn _ _ _ _ (by decide)))) (fun hc15 => ?_) (fun hc15 => ?_)
        · replace hP := hP.1 hc15
          refine im_ld (q := 118) (i := 0) D316_117 rfl rfl rfl ?_
          refine im_bipush (q := 120) D316_118 rfl ?_
          refine im_callV (q := 123) (kd := 1) (y := 322) (n := 1) (ci := 12) (a := 6952) (vs := [.ref 6952, vI 32]) (r := []) (L2 := [some (.ref 6952), some (vI 32)]) D316_120 (im_cal cn_316 cl_12_432) (Or.inl rfl) rfl sf_6952 rfl rfl rfl rfl hd ⟨rfl, rfl, trivial⟩ ?_
          refine hP.mono ?_
          rintro _ e21 M17 ⟨rfl, rfl, hP⟩
          refine im_bkN ?_
          refine im_ld (q := 124) (i := 0) D316_123 rfl rfl rfl ?_
          refine im_ld (q := 125) (i := 0) D316_124 rfl rfl rfl ?_
          refine im_gfR (q := 128) (b := 6969) D316_125 (im_fl cn_316 fl_12_60) sf_6952 rfl rfl tR_12_30 rf_6952_30 ?_
          refine im_ld (q := 129) (i := 3) D316_128 rfl rfl rfl ?_
          refine im_rng (j := (M 6987 ((M 6952 57) - 1))) sf_6969 hg13.1 hg13.2 (fun hr18 => ?_)
          refine im_lald (q := 130) D316_129 sf_6969 hg13.1 hg13.2 (by decide) rfl ?_
          refine im_callV (q := 133) (kd := 1) (y := 327) (n := 1) (ci := 12) (a := 6952) (vs := [.ref 6952, vL (M17 6969 (M 6987 ((M 6952 57) - 1)))]) (r := []) (L2 := [some (.ref 6952), some (vL (M17 6969 (M 6987 ((M 6952 57) - 1)))), none, none, none, none, none]) D316_130 (im_cal cn_316 cl_12_773) (Or.inl rfl) rfl sf_6952 rfl rfl rfl rfl hd ⟨rfl, rfl, trivial⟩ ?_
          refine hP.mono ?_
          rintro _ e20 M19 ⟨rfl, rfl, hP⟩
          refine im_bkN ?_
          refine im_goto (q := 136) (t := 16) D316_133 rfl ?_
          exact hP.wk ⟨rfl, trivial⟩
        · replace hP := hP.2 hc15
          refine im_ld (q := 105) (i := 0) D316_104 rfl rfl rfl ?_
          refine im_ld (q := 106) (i := 0) D316_105 rfl rfl rfl ?_
          refine im_gfR (q := 109) (b := 6961) D316_106 (im_fl cn_316 fl_12_36) sf_6952 rfl rfl tR_12_22 rf_6952_22 ?_
          refine im_ld (q := 110) (i := 3) D316_109 rfl rfl rfl ?_
          refine im_rng (j := (M 6987 ((M 6952 57) - 1))) sf_6961 hg13.1 hg13.2 (fun hr16 => ?_)
          refine im_lald (q := 111) D316_110 sf_6961 hg13.1 hg13.2 (by decide) (im_rdn _ _ _ _ (by decide)) ?_
          refine im_callV (q := 114) (kd := 1) (y := 325) (n := 1) (ci := 12) (a := 6952) (vs := [.ref 6952, vL (M 6961 (M 6987 ((M 6952 57) - 1)))]) (r := []) (L2 := [some (.ref 6952), some (vL (M 6961 (M 6987 ((M 6952 57) - 1)))), none]) D316_111 (im_cal cn_316 cl_12_764) (Or.inl rfl) rfl sf_6952 rfl rfl rfl rfl hd ⟨rfl, rfl, trivial⟩ ?_
          refine hP.mono ?_
          rintro _ e23 M22 ⟨rfl, rfl, hP⟩
          refine im_bkN ?_
          refine im_goto (q := 117) (t := 133) D316_114 rfl ?_
          refine im_goto (q := 136) (t := 16) D316_133 rfl ?_
          exact hP.wk ⟨rfl, trivial⟩
      · replace hP := hP.2 (Int.not_le.mp hc12)
        refine im_ld (q := 71) (i := 0) D316_70 rfl rfl rfl ?_
        refine im_bipush (q := 73) D316_71 rfl ?_
        refine im_callV (q := 76) (kd := 1) (y := 322) (n := 1) (ci := 12) (a := 6952) (vs := [.ref 6952, vI 32]) (r := []) (L2 := [some (.ref 6952), some (vI 32)]) D316_73 (im_cal cn_316 cl_12_432) (Or.inl rfl) rfl sf_6952 rfl rfl rfl rfl hd ⟨rfl, rfl, trivial⟩ ?_
        refine hP.mono ?_
        rintro _ e32 M24 ⟨rfl, rfl, hP⟩
        refine im_bkN ?_
        refine im_ld (q := 77) (i := 0) D316_76 rfl rfl rfl ?_
        refine im_ld (q := 78) (i := 2) D316_77 rfl rfl rfl ?_
        refine im_iconst (q := 79) D316_78 ?_
        have hJ27 := hP
        have kJ28 : ∀ x26 : Int, (((¬ (M 6988 ((M 6952 57) - 1)) = 1) ∧ x26 = 93) ∨ (((M 6988 ((M 6952 57) - 1)) = 1) ∧ x26 = 91)) → im_T g d 316 89 [some (.ref 6952), none, none, none] [vI x26, .ref 6952] e M24 K := by
          intro x26 hx29
          have hP := hJ27 x26 hx29
          refine im_callV (q := 92) (kd := 1) (y := 322) (n := 1) (ci := 12) (a := 6952) (vs := [.ref 6952, vI x26]) (r := []) (L2 := [some (.ref 6952), some (vI x26)]) D316_89 (im_cal cn_316 cl_12_432) (Or.inl rfl) rfl sf_6952 rfl rfl rfl rfl hd ⟨rfl, rfl, trivial⟩ ?_
          refine hP.mono ?_
          rintro _ e31 M30 ⟨rfl, rfl, hP⟩
          refine im_bkN ?_
          refine im_goto (q := 95) (t := 133) D316_92 rfl ?_
          refine im_goto (q := 136) (t := 16) D316_133 rfl ?_
          exact hP.wk ⟨rfl, trivial⟩
        refine im_icmp (q := 82) (t := 87) D316_79 rfl (im_rgc hr8 (im_rdn _ _ _ _ (by decide))) (by decide) (fun hc25 => ?_) (fun hc25 => ?_)
        · refine im_bipush (q := 89) D316_87 rfl ?_
          exact (kJ28 (93) (Or.inl ⟨hc25, rfl⟩)).wk ⟨rfl, trivial⟩
        · refine im_bipush (q := 84) D316_82 rfl ?_
          refine im_goto (q := 87) (t := 89) D316_84 rfl ?_
          exact (kJ28 (91) (Or.inr ⟨(Decidable.not_not.mp hc25), rfl⟩)).wk ⟨rfl, trivial⟩
    · replace hP := hP.2 (Decidable.not_not.mp hc11)
      refine im_ld (q := 58) (i := 0) D316_57 rfl rfl rfl ?_
      refine im_ld (q := 59) (i := 3) D316_58 rfl rfl rfl ?_
      refine im_callV (q := 62) (kd := 1) (y := 318) (n := 1) (ci := 12) (a := 6952) (vs := [.ref 6952, vI (M 6987 ((M 6952 57) - 1))]) (r := []) (L2 := [some (.ref 6952), some (vI (M 6987 ((M 6952 57) - 1))), none]) D316_59 (im_cal cn_316 cl_12_770) (Or.inl rfl) rfl sf_6952 rfl rfl rfl rfl hd ⟨rfl, rfl, trivial⟩ ?_
      refine hP.mono ?_
      rintro _ e34 M33 ⟨rfl, rfl, hP⟩
      refine im_bkN ?_
      refine im_goto (q := 65) (t := 133) D316_62 rfl ?_
      refine im_goto (q := 136) (t := 16) D316_133 rfl ?_
      exact hP.wk ⟨rfl, trivial⟩
set_option maxRecDepth 20000 in
set_option maxHeartbeats 4000000 in
theorem b_lay_0 {g : im_g} {d : Nat} {e : im_E} {M : im_M} {K : im_K} {p1 p2 : Int} (hP : (im_i32 p2) ∧ ((p2 = (-1) → K (.inl none) e M) ∧ (¬ p2 = (-1) → (0 ≤ (M 6952 57) ∧ (M 6952 57) < 5100) ∧ (im_i32 p1) ∧ (im_i32 ((M 6952 57) + 1)) ∧ K (.inl none) e (im_u (im_u (im_u M 6988 (M 6952 57) p1) 6987 (M 6952 57) p2) 6952 57 ((M 6952 57) + 1))))) : im_T g d 317 0 [some (.ref 6952), some (vI p1), some (vI p2)] [] e M K := by
  refine im_ld (q := 1) (i := 2) D317_0 rfl rfl rfl ?_
  refine im_iconst (q := 2) D317_1 ?_
  obtain ⟨hg1, hP⟩ := hP
  refine im_icmp (q := 5) (t := 35) D317_2 rfl hg1 (by decide) (fun hc2 => ?_) (fun hc2 => ?_)
  · replace hP := hP.1 hc2
    exact im_vret (q := 36) D317_35 rfl hP
  · replace hP := hP.2 hc2
    refine im_ld (q := 6) (i := 0) D317_5 rfl rfl rfl ?_
    refine im_gfR (q := 9) (b := 6988) D317_6 (im_fl cn_317 fl_12_118) sf_6952 rfl rfl tR_12_56 rf_6952_56 ?_
    refine im_ld (q := 10) (i := 0) D317_9 rfl rfl rfl ?_
    refine im_rng (j := 57) sf_6952 (by decide) (by decide) (fun hr3 => ?_)
    refine im_gfI (q := 13) D317_10 (im_fl cn_317 fl_12_747) sf_6952 rfl rfl tI_12_57 rfl ?_
    refine im_ld (q := 14) (i := 1) D317_13 rfl rfl rfl ?_
    obtain ⟨hg4, hP⟩ := hP
    obtain ⟨hg5, hP⟩ := hP
    refine im_iast (q := 15) D317_14 sf_6988 hg4.1 hg4.2 (by decide) hg5 ?_
    refine im_ld (q := 16) (i := 0) D317_15 rfl rfl rfl ?_
    refine im_gfR (q := 19) (b := 6987) D317_16 (im_fl cn_317 fl_12_115) sf_6952 rfl rfl tR_12_55 rf_6952_55 ?_
    refine im_ld (q := 20) (i := 0) D317_19 rfl rfl rfl ?_
    refine im_gfI (q := 23) D317_20 (im_fl cn_317 fl_12_747) sf_6952 rfl rfl tI_12_57 (im_rdn _ _ _ _ (by decide)) ?_
    refine im_ld (q := 24) (i := 2) D317_23 rfl rfl rfl ?_
    refine im_iast (q := 25) D317_24 sf_6987 hg4.1 hg4.2 (by decide) hg1 ?_
    refine im_ld (q := 26) (i := 0) D317_25 rfl rfl rfl ?_
    refine im_dup (q := 27) D317_26 rfl ?_
    refine im_gfI (q := 30) D317_27 (im_fl cn_317 fl_12_747) sf_6952 rfl rfl tI_12_57 ((im_rdn _ _ _ _ (by decide)).trans (im_rdn _ _ _ _ (by decide))) ?_
    refine im_iconst (q := 31) D317_30 ?_
    refine im_iadd (q := 32) D317_31 ?_
    obtain ⟨hg8, hP⟩ := hP
    refine im_pfI (q := 35) D317_32 (im_fl cn_317 fl_12_747) sf_6952 rfl rfl ti_12_57 hg8 ?_
    exact im_vret (q := 36) D317_35 rfl hP

/-! blocks of the reference -/
theorem D446_0 {g : im_g} : im_D g 446 0 (.iload_n 1) 1 := im_D.of (by decide +kernel)
theorem D446_1 {g : im_g} : im_D g 446 1 (.bipush 7) 3 := im_D.of (by decide +kernel)
theorem D446_3 {g : im_g} : im_D g 446 3 (.iadd) 4 := im_D.of (by decide +kernel)
theorem D446_4 {g : im_g} : im_D g 446 4 (.sipush 16384) 7 := im_D.of (by decide +kernel)
theorem D446_7 {g : im_g} : im_D g 446 7 (.if_icmp .le 5) 10 := im_D.of (by decide +kernel)
theorem D446_10 {g : im_g} : im_D g 446 10 (.iconst 0) 11 := im_D.of (by decide +kernel)
theorem D446_11 {g : im_g} : im_D g 446 11 (.ireturn) 12 := im_D.of (by decide +kernel)
theorem D446_12 {g : im_g} : im_D g 446 12 (.aload_n 0) 13 := im_D.of (by decide +kernel)
theorem D446_13 {g : im_g} : im_D g 446 13 (.getfield 396) 16 := im_D.of (by decide +kernel)
theorem D446_16 {g : im_g} : im_D g 446 16 (.iload_n 1) 17 := im_D.of (by decide +kernel)
theorem D446_17 {g : im_g} : im_D g 446 17 (.iaload) 18 := im_D.of (by decide +kernel)
theorem D446_18 {g : im_g} : im_D g 446 18 (.bipush 8) 20 := im_D.of (by decide +kernel)
theorem D446_20 {g : im_g} : im_D g 446 20 (.ishl) 21 := im_D.of (by decide +kernel)
theorem D446_21 {g : im_g} : im_D g 446 21 (.aload_n 0) 22 := im_D.of (by decide +kernel)
theorem D446_22 {g : im_g} : im_D g 446 22 (.getfield 396) 25 := im_D.of (by decide +kernel)
theorem D446_25 {g : im_g} : im_D g 446 25 (.iload_n 1) 26 := im_D.of (by decide +kernel)
theorem D446_26 {g : im_g} : im_D g 446 26 (.iconst 1) 27 := im_D.of (by decide +kernel)
theorem D446_27 {g : im_g} : im_D g 446 27 (.iadd) 28 := im_D.of (by decide +kernel)
theorem D446_28 {g : im_g} : im_D g 446 28 (.iaload) 29 := im_D.of (by decide +kernel)
theorem D446_29 {g : im_g} : im_D g 446 29 (.ior) 30 := im_D.of (by decide +kernel)
theorem D446_30 {g : im_g} : im_D g 446 30 (.istore_n 2) 31 := im_D.of (by decide +kernel)
theorem D446_31 {g : im_g} : im_D g 446 31 (.aload_n 0) 32 := im_D.of (by decide +kernel)
theorem D446_32 {g : im_g} : im_D g 446 32 (.getfield 396) 35 := im_D.of (by decide +kernel)
theorem D446_35 {g : im_g} : im_D g 446 35 (.iload_n 1) 36 := im_D.of (by decide +kernel)
theorem D446_36 {g : im_g} : im_D g 446 36 (.iconst 2) 37 := im_D.of (by decide +kernel)
theorem D446_37 {g : im_g} : im_D g 446 37 (.iadd) 38 := im_D.of (by decide +kernel)
theorem D446_38 {g : im_g} : im_D g 446 38 (.iaload) 39 := im_D.of (by decide +kernel)
theorem D446_39 {g : im_g} : im_D g 446 39 (.istore_n 3) 40 := im_D.of (by decide +kernel)
theorem D446_40 {g : im_g} : im_D g 446 40 (.iload_n 2) 41 := im_D.of (by decide +kernel)
theorem D446_41 {g : im_g} : im_D g 446 41 (.bipush 7) 43 := im_D.of (by decide +kernel)
theorem D446_43 {g : im_g} : im_D g 446 43 (.if_icmp .lt 24) 46 := im_D.of (by decide +kernel)
theorem D446_46 {g : im_g} : im_D g 446 46 (.iload_n 1) 47 := im_D.of (by decide +kernel)
theorem D446_47 {g : im_g} : im_D g 446 47 (.iload_n 2) 48 := im_D.of (by decide +kernel)
theorem D446_48 {g : im_g} : im_D g 446 48 (.iadd) 49 := im_D.of (by decide +kernel)
theorem D446_49 {g : im_g} : im_D g 446 49 (.sipush 16384) 52 := im_D.of (by decide +kernel)
theorem D446_52 {g : im_g} : im_D g 446 52 (.if_icmp .gt 15) 55 := im_D.of (by decide +kernel)
theorem D446_55 {g : im_g} : im_D g 446 55 (.iload_n 3) 56 := im_D.of (by decide +kernel)
theorem D446_56 {g : im_g} : im_D g 446 56 (.i2l) 57 := im_D.of (by decide +kernel)
theorem D446_57 {g : im_g} : im_D g 446 57 (.lconst 1) 58 := im_D.of (by decide +kernel)
theorem D446_58 {g : im_g} : im_D g 446 58 (.ldc2_w 759) 61 := im_D.of (by decide +kernel)
theorem D446_61 {g : im_g} : im_D g 446 61 (.invokestatic 428) 64 := im_D.of (by decide +kernel)
theorem D446_64 {g : im_g} : im_D g 446 64 (.ifCond .ne 5) 67 := im_D.of (by decide +kernel)
theorem D446_67 {g : im_g} : im_D g 446 67 (.iconst 0) 68 := im_D.of (by decide +kernel)
theorem D446_68 {g : im_g} : im_D g 446 68 (.ireturn) 69 := im_D.of (by decide +kernel)
theorem D446_69 {g : im_g} : im_D g 446 69 (.iload_n 3) 70 := im_D.of (by decide +kernel)
theorem D446_70 {g : im_g} : im_D g 446 70 (.iconst 1) 71 := im_D.of (by decide +kernel)
theorem D446_71 {g : im_g} : im_D g 446 71 (.if_icmp .eq 14) 74 := im_D.of (by decide +kernel)
theorem D446_74 {g : im_g} : im_D g 446 74 (.iload_n 3) 75 := im_D.of (by decide +kernel)
theorem D446_75 {g : im_g} : im_D g 446 75 (.iconst 5) 76 := im_D.of (by decide +kernel)
theorem D446_76 {g : im_g} : im_D g 446 76 (.if_icmp .lt 13) 79 := im_D.of (by decide +kernel)
theorem D446_79 {g : im_g} : im_D g 446 79 (.iload_n 3) 80 := im_D.of (by decide +kernel)
theorem D446_80 {g : im_g} : im_D g 446 80 (.bipush 7) 82 := im_D.of (by decide +kernel)
theorem D446_82 {g : im_g} : im_D g 446 82 (.if_icmp .gt 7) 85 := im_D.of (by decide +kernel)
theorem D446_85 {g : im_g} : im_D g 446 85 (.iconst 1) 86 := im_D.of (by decide +kernel)
theorem D446_86 {g : im_g} : im_D g 446 86 (.goto 4) 89 := im_D.of (by decide +kernel)
theorem D446_89 {g : im_g} : im_D g 446 89 (.iconst 0) 90 := im_D.of (by decide +kernel)
theorem D446_90 {g : im_g} : im_D g 446 90 (.istore 4) 92 := im_D.of (by decide +kernel)
theorem D446_92 {g : im_g} : im_D g 446 92 (.bipush 7) 94 := im_D.of (by decide +kernel)
theorem D446_94 {g : im_g} : im_D g 446 94 (.bipush 8) 96 := im_D.of (by decide +kernel)
theorem D446_96 {g : im_g} : im_D g 446 96 (.iload_n 3) 97 := im_D.of (by decide +kernel)
theorem D446_97 {g : im_g} : im_D g 446 97 (.invokestatic 1159) 100 := im_D.of (by decide +kernel)
theorem D446_100 {g : im_g} : im_D g 446 100 (.imul) 101 := im_D.of (by decide +kernel)
theorem D446_101 {g : im_g} : im_D g 446 101 (.iadd) 102 := im_D.of (by decide +kernel)
theorem D446_102 {g : im_g} : im_D g 446 102 (.istore 5) 104 := im_D.of (by decide +kernel)
theorem D446_104 {g : im_g} : im_D g 446 104 (.iload_n 2) 105 := im_D.of (by decide +kernel)
theorem D446_105 {g : im_g} : im_D g 446 105 (.iload 5) 107 := im_D.of (by decide +kernel)
theorem D446_107 {g : im_g} : im_D g 446 107 (.if_icmp .lt 14) 110 := im_D.of (by decide +kernel)
theorem D446_110 {g : im_g} : im_D g 446 110 (.iload 4) 112 := im_D.of (by decide +kernel)
theorem D446_112 {g : im_g} : im_D g 446 112 (.ifCond .ne 11) 115 := im_D.of (by decide +kernel)
theorem D446_115 {g : im_g} : im_D g 446 115 (.iload_n 2) 116 := im_D.of (by decide +kernel)
theorem D446_116 {g : im_g} : im_D g 446 116 (.iload 5) 118 := im_D.of (by decide +kernel)
theorem D446_118 {g : im_g} : im_D g 446 118 (.if_icmp .eq 5) 121 := im_D.of (by decide +kernel)
theorem D446_121 {g : im_g} : im_D g 446 121 (.iconst 0) 122 := im_D.of (by decide +kernel)
theorem D446_122 {g : im_g} : im_D g 446 122 (.ireturn) 123 := im_D.of (by decide +kernel)
theorem D446_123 {g : im_g} : im_D g 446 123 (.aload_n 0) 124 := im_D.of (by decide +kernel)
theorem D446_124 {g : im_g} : im_D g 446 124 (.ldc_w 1143) 127 := im_D.of (by decide +kernel)
theorem D446_127 {g : im_g} : im_D g 446 127 (.putfield 1133) 130 := im_D.of (by decide +kernel)
theorem D446_130 {g : im_g} : im_D g 446 130 (.iconst 0) 131 := im_D.of (by decide +kernel)
theorem D446_131 {g : im_g} : im_D g 446 131 (.istore 6) 133 := im_D.of (by decide +kernel)
theorem D446_133 {g : im_g} : im_D g 446 133 (.iload 6) 135 := im_D.of (by decide +kernel)
theorem D446_135 {g : im_g} : im_D g 446 135 (.iload_n 2) 136 := im_D.of (by decide +kernel)
theorem D446_136 {g : im_g} : im_D g 446 136 (.iconst 4) 137 := im_D.of (by decide +kernel)
theorem D446_137 {g : im_g} : im_D g 446 137 (.isub) 138 := im_D.of (by decide +kernel)
theorem D446_138 {g : im_g} : im_D g 446 138 (.if_icmp .ge 22) 141 := im_D.of (by decide +kernel)
theorem D446_141 {g : im_g} : im_D g 446 141 (.aload_n 0) 142 := im_D.of (by decide +kernel)
theorem D446_142 {g : im_g} : im_D g 446 142 (.aload_n 0) 143 := im_D.of (by decide +kernel)
theorem D446_143 {g : im_g} : im_D g 446 143 (.getfield 396) 146 := im_D.of (by decide +kernel)
theorem D446_146 {g : im_g} : im_D g 446 146 (.iload_n 1) 147 := im_D.of (by decide +kernel)
theorem D446_147 {g : im_g} : im_D g 446 147 (.iload 6) 149 := im_D.of (by decide +kernel)
theorem D446_149 {g : im_g} : im_D g 446 149 (.iadd) 150 := im_D.of (by decide +kernel)
theorem D446_150 {g : im_g} : im_D g 446 150 (.iaload) 151 := im_D.of (by decide +kernel)
theorem D446_151 {g : im_g} : im_D g 446 151 (.invokevirtual 1137) 154 := im_D.of (by decide +kernel)
theorem D446_154 {g : im_g} : im_D g 446 154 (.iinc 6 1) 157 := im_D.of (by decide +kernel)
theorem D446_157 {g : im_g} : im_D g 446 157 (.goto (-24)) 160 := im_D.of (by decide +kernel)
theorem D446_160 {g : im_g} : im_D g 446 160 (.aload_n 0) 161 := im_D.of (by decide +kernel)
theorem D446_161 {g : im_g} : im_D g 446 161 (.iload_n 1) 162 := im_D.of (by decide +kernel)
theorem D446_162 {g : im_g} : im_D g 446 162 (.invokevirtual 1151) 165 := im_D.of (by decide +kernel)
theorem D446_165 {g : im_g} : im_D g 446 165 (.iconst 1) 166 := im_D.of (by decide +kernel)
theorem D446_166 {g : im_g} : im_D g 446 166 (.istore 6) 168 := im_D.of (by decide +kernel)
theorem D446_168 {g : im_g} : im_D g 446 168 (.iconst 0) 169 := im_D.of (by decide +kernel)
theorem D446_169 {g : im_g} : im_D g 446 169 (.istore 7) 171 := im_D.of (by decide +kernel)
theorem D446_171 {g : im_g} : im_D g 446 171 (.iload 7) 173 := im_D.of (by decide +kernel)
theorem D446_173 {g : im_g} : im_D g 446 173 (.iconst 4) 174 := im_D.of (by decide +kernel)
theorem D446_174 {g : im_g} : im_D g 446 174 (.if_icmp .ge 54) 177 := im_D.of (by decide +kernel)
theorem D446_177 {g : im_g} : im_D g 446 177 (.iload 6) 179 := im_D.of (by decide +kernel)
theorem D446_179 {g : im_g} : im_D g 446 179 (.ifCond .eq 40) 182 := im_D.of (by decide +kernel)
theorem D446_182 {g : im_g} : im_D g 446 182 (.aload_n 0) 183 := im_D.of (by decide +kernel)
theorem D446_183 {g : im_g} : im_D g 446 183 (.getfield 396) 186 := im_D.of (by decide +kernel)
theorem D446_186 {g : im_g} : im_D g 446 186 (.iload_n 1) 187 := im_D.of (by decide +kernel)
theorem D446_187 {g : im_g} : im_D g 446 187 (.iload_n 2) 188 := im_D.of (by decide +kernel)
theorem D446_188 {g : im_g} : im_D g 446 188 (.iadd) 189 := im_D.of (by decide +kernel)
theorem D446_189 {g : im_g} : im_D g 446 189 (.iconst 4) 190 := im_D.of (by decide +kernel)
theorem D446_190 {g : im_g} : im_D g 446 190 (.isub) 191 := im_D.of (by decide +kernel)
theorem D446_191 {g : im_g} : im_D g 446 191 (.iload 7) 193 := im_D.of (by decide +kernel)
theorem D446_193 {g : im_g} : im_D g 446 193 (.iadd) 194 := im_D.of (by decide +kernel)
theorem D446_194 {g : im_g} : im_D g 446 194 (.iaload) 195 := im_D.of (by decide +kernel)
theorem D446_195 {g : im_g} : im_D g 446 195 (.aload_n 0) 196 := im_D.of (by decide +kernel)
theorem D446_196 {g : im_g} : im_D g 446 196 (.getfield 1133) 199 := im_D.of (by decide +kernel)
theorem D446_199 {g : im_g} : im_D g 446 199 (.bipush 24) 201 := im_D.of (by decide +kernel)
theorem D446_201 {g : im_g} : im_D g 446 201 (.bipush 8) 203 := im_D.of (by decide +kernel)
theorem D446_203 {g : im_g} : im_D g 446 203 (.iload 7) 205 := im_D.of (by decide +kernel)
theorem D446_205 {g : im_g} : im_D g 446 205 (.imul) 206 := im_D.of (by decide +kernel)
theorem D446_206 {g : im_g} : im_D g 446 206 (.isub) 207 := im_D.of (by decide +kernel)
theorem D446_207 {g : im_g} : im_D g 446 207 (.ishr) 208 := im_D.of (by decide +kernel)
theorem D446_208 {g : im_g} : im_D g 446 208 (.sipush 255) 211 := im_D.of (by decide +kernel)
theorem D446_211 {g : im_g} : im_D g 446 211 (.iand) 212 := im_D.of (by decide +kernel)
theorem D446_212 {g : im_g} : im_D g 446 212 (.if_icmp .ne 7) 215 := im_D.of (by decide +kernel)
theorem D446_215 {g : im_g} : im_D g 446 215 (.iconst 1) 216 := im_D.of (by decide +kernel)
theorem D446_216 {g : im_g} : im_D g 446 216 (.goto 4) 219 := im_D.of (by decide +kernel)
theorem D446_219 {g : im_g} : im_D g 446 219 (.iconst 0) 220 := im_D.of (by decide +kernel)
theorem D446_220 {g : im_g} : im_D g 446 220 (.istore 6) 222 := im_D.of (by decide +kernel)
theorem D446_222 {g : im_g} : im_D g 446 222 (.iinc 7 1) 225 := im_D.of (by decide +kernel)
theorem D446_225 {g : im_g} : im_D g 446 225 (.goto (-54)) 228 := im_D.of (by decide +kernel)
theorem D446_228 {g : im_g} : im_D g 446 228 (.iload 6) 230 := im_D.of (by decide +kernel)
theorem D446_230 {g : im_g} : im_D g 446 230 (.ireturn) 231 := im_D.of (by decide +kernel)
theorem D447_0 {g : im_g} : im_D g 447 0 (.iload_n 0) 1 := im_D.of (by decide +kernel)
theorem D447_1 {g : im_g} : im_D g 447 1 (.iconst 3) 2 := im_D.of (by decide +kernel)
theorem D447_2 {g : im_g} : im_D g 447 2 (.if_icmp .eq 9) 5 := im_D.of (by decide +kernel)
theorem D447_5 {g : im_g} : im_D g 447 5 (.iload_n 0) 6 := im_D.of (by decide +kernel)
theorem D447_6 {g : im_g} : im_D g 447 6 (.bipush 6) 8 := im_D.of (by decide +kernel)
theorem D447_8 {g : im_g} : im_D g 447 8 (.if_icmp .ne 7) 11 := im_D.of (by decide +kernel)
theorem D447_11 {g : im_g} : im_D g 447 11 (.iconst 3) 12 := im_D.of (by decide +kernel)
theorem D447_12 {g : im_g} : im_D g 447 12 (.goto 23) 15 := im_D.of (by decide +kernel)
theorem D447_15 {g : im_g} : im_D g 447 15 (.iload_n 0) 16 := im_D.of (by decide +kernel)
theorem D447_16 {g : im_g} : im_D g 447 16 (.iconst 5) 17 := im_D.of (by decide +kernel)
theorem D447_17 {g : im_g} : im_D g 447 17 (.if_icmp .ne 7) 20 := im_D.of (by decide +kernel)
theorem D447_20 {g : im_g} : im_D g 447 20 (.iconst 2) 21 := im_D.of (by decide +kernel)
theorem D447_21 {g : im_g} : im_D g 447 21 (.goto 14) 24 := im_D.of (by decide +kernel)
theorem D447_24 {g : im_g} : im_D g 447 24 (.iload_n 0) 25 := im_D.of (by decide +kernel)
theorem D447_25 {g : im_g} : im_D g 447 25 (.bipush 8) 27 := im_D.of (by decide +kernel)
theorem D447_27 {g : im_g} : im_D g 447 27 (.if_icmp .ne 7) 30 := im_D.of (by decide +kernel)
theorem D447_30 {g : im_g} : im_D g 447 30 (.iconst 0) 31 := im_D.of (by decide +kernel)
theorem D447_31 {g : im_g} : im_D g 447 31 (.goto 4) 34 := im_D.of (by decide +kernel)
theorem D447_34 {g : im_g} : im_D g 447 34 (.iconst 1) 35 := im_D.of (by decide +kernel)
theorem D447_35 {g : im_g} : im_D g 447 35 (.ireturn) 36 := im_D.of (by decide +kernel)
theorem D448_0 {g : im_g} : im_D g 448 0 (.lconst 0) 1 := im_D.of (by decide +kernel)
theorem D448_1 {g : im_g} : im_D g 448 1 (.lstore_n 2) 2 := im_D.of (by decide +kernel)
theorem D448_2 {g : im_g} : im_D g 448 2 (.iconst 0) 3 := im_D.of (by decide +kernel)
theorem D448_3 {g : im_g} : im_D g 448 3 (.istore 4) 5 := im_D.of (by decide +kernel)
theorem D448_5 {g : im_g} : im_D g 448 5 (.iload 4) 7 := im_D.of (by decide +kernel)
theorem D448_7 {g : im_g} : im_D g 448 7 (.bipush 8) 9 := im_D.of (by decide +kernel)
theorem D448_9 {g : im_g} : im_D g 448 9 (.if_icmp .ge 25) 12 := im_D.of (by decide +kernel)
theorem D448_12 {g : im_g} : im_D g 448 12 (.lload_n 2) 13 := im_D.of (by decide +kernel)
theorem D448_13 {g : im_g} : im_D g 448 13 (.bipush 8) 15 := im_D.of (by decide +kernel)
theorem D448_15 {g : im_g} : im_D g 448 15 (.lshl) 16 := im_D.of (by decide +kernel)
theorem D448_16 {g : im_g} : im_D g 448 16 (.aload_n 0) 17 := im_D.of (by decide +kernel)
theorem D448_17 {g : im_g} : im_D g 448 17 (.getfield 396) 20 := im_D.of (by decide +kernel)
theorem D448_20 {g : im_g} : im_D g 448 20 (.iload_n 1) 21 := im_D.of (by decide +kernel)
theorem D448_21 {g : im_g} : im_D g 448 21 (.iload 4) 23 := im_D.of (by decide +kernel)
theorem D448_23 {g : im_g} : im_D g 448 23 (.iadd) 24 := im_D.of (by decide +kernel)
theorem D448_24 {g : im_g} : im_D g 448 24 (.iaload) 25 := im_D.of (by decide +kernel)
theorem D448_25 {g : im_g} : im_D g 448 25 (.i2l) 26 := im_D.of (by decide +kernel)
theorem D448_26 {g : im_g} : im_D g 448 26 (.lor) 27 := im_D.of (by decide +kernel)
theorem D448_27 {g : im_g} : im_D g 448 27 (.lstore_n 2) 28 := im_D.of (by decide +kernel)
theorem D448_28 {g : im_g} : im_D g 448 28 (.iinc 4 1) 31 := im_D.of (by decide +kernel)
theorem D448_31 {g : im_g} : im_D g 448 31 (.goto (-26)) 34 := im_D.of (by decide +kernel)
theorem D448_34 {g : im_g} : im_D g 448 34 (.lload_n 2) 35 := im_D.of (by decide +kernel)
theorem D448_35 {g : im_g} : im_D g 448 35 (.lreturn) 36 := im_D.of (by decide +kernel)
theorem D449_0 {g : im_g} : im_D g 449 0 (.lload_n 2) 1 := im_D.of (by decide +kernel)
theorem D449_1 {g : im_g} : im_D g 449 1 (.invokestatic 1162) 4 := im_D.of (by decide +kernel)
theorem D449_4 {g : im_g} : im_D g 449 4 (.istore 8) 6 := im_D.of (by decide +kernel)
theorem D449_6 {g : im_g} : im_D g 449 6 (.iconst 0) 7 := im_D.of (by decide +kernel)
theorem D449_7 {g : im_g} : im_D g 449 7 (.istore 9) 9 := im_D.of (by decide +kernel)
theorem D449_9 {g : im_g} : im_D g 449 9 (.iload_n 1) 10 := im_D.of (by decide +kernel)
theorem D449_10 {g : im_g} : im_D g 449 10 (.tableswitch 297 1 7 #[42, 70, 118, 162, 209, 239, 271]) 11 := im_D.of (by decide +kernel)
theorem D449_52 {g : im_g} : im_D g 449 52 (.aload_n 0) 53 := im_D.of (by decide +kernel)
theorem D449_53 {g : im_g} : im_D g 449 53 (.iload 8) 55 := im_D.of (by decide +kernel)
theorem D449_55 {g : im_g} : im_D g 449 55 (.invokevirtual 737) 58 := im_D.of (by decide +kernel)
theorem D449_58 {g : im_g} : im_D g 449 58 (.istore 9) 60 := im_D.of (by decide +kernel)
theorem D449_60 {g : im_g} : im_D g 449 60 (.iload 9) 62 := im_D.of (by decide +kernel)
theorem D449_62 {g : im_g} : im_D g 449 62 (.ifCond .ne 16) 65 := im_D.of (by decide +kernel)
theorem D449_65 {g : im_g} : im_D g 449 65 (.aload_n 0) 66 := im_D.of (by decide +kernel)
theorem D449_66 {g : im_g} : im_D g 449 66 (.iload 8) 68 := im_D.of (by decide +kernel)
theorem D449_68 {g : im_g} : im_D g 449 68 (.invokevirtual 744) 71 := im_D.of (by decide +kernel)
theorem D449_71 {g : im_g} : im_D g 449 71 (.ifCond .le 7) 74 := im_D.of (by decide +kernel)
theorem D449_74 {g : im_g} : im_D g 449 74 (.iconst 1) 75 := im_D.of (by decide +kernel)
theorem D449_75 {g : im_g} : im_D g 449 75 (.goto 4) 78 := im_D.of (by decide +kernel)
theorem D449_78 {g : im_g} : im_D g 449 78 (.iconst 0) 79 := im_D.of (by decide +kernel)
theorem D449_79 {g : im_g} : im_D g 449 79 (.ireturn) 80 := im_D.of (by decide +kernel)
theorem D449_80 {g : im_g} : im_D g 449 80 (.iload 8) 82 := im_D.of (by decide +kernel)
theorem D449_82 {g : im_g} : im_D g 449 82 (.iconst (-1)) 83 := im_D.of (by decide +kernel)
theorem D449_83 {g : im_g} : im_D g 449 83 (.if_icmp .eq 17) 86 := im_D.of (by decide +kernel)
theorem D449_86 {g : im_g} : im_D g 449 86 (.aload_n 0) 87 := im_D.of (by decide +kernel)
theorem D449_87 {g : im_g} : im_D g 449 87 (.getfield 106) 90 := im_D.of (by decide +kernel)
theorem D449_90 {g : im_g} : im_D g 449 90 (.iload 8) 92 := im_D.of (by decide +kernel)
theorem D449_92 {g : im_g} : im_D g 449 92 (.baload) 93 := im_D.of (by decide +kernel)
theorem D449_93 {g : im_g} : im_D g 449 93 (.ifCond .eq 7) 96 := im_D.of (by decide +kernel)
theorem D449_96 {g : im_g} : im_D g 449 96 (.iconst 0) 97 := im_D.of (by decide +kernel)
theorem D449_97 {g : im_g} : im_D g 449 97 (.goto 5) 100 := im_D.of (by decide +kernel)
theorem D449_100 {g : im_g} : im_D g 449 100 (.bipush (-101)) 102 := im_D.of (by decide +kernel)
theorem D449_102 {g : im_g} : im_D g 449 102 (.istore 9) 104 := im_D.of (by decide +kernel)
theorem D449_104 {g : im_g} : im_D g 449 104 (.iload 9) 106 := im_D.of (by decide +kernel)
theorem D449_106 {g : im_g} : im_D g 449 106 (.ifCond .ne 11) 109 := im_D.of (by decide +kernel)
theorem D449_109 {g : im_g} : im_D g 449 109 (.aload_n 0) 110 := im_D.of (by decide +kernel)
theorem D449_110 {g : im_g} : im_D g 449 110 (.getfield 106) 113 := im_D.of (by decide +kernel)
theorem D449_113 {g : im_g} : im_D g 449 113 (.iload 8) 115 := im_D.of (by decide +kernel)
theorem D449_115 {g : im_g} : im_D g 449 115 (.iconst 0) 116 := im_D.of (by decide +kernel)
theorem D449_116 {g : im_g} : im_D g 449 116 (.bastore) 117 := im_D.of (by decide +kernel)
theorem D449_117 {g : im_g} : im_D g 449 117 (.iload 9) 119 := im_D.of (by decide +kernel)
theorem D449_119 {g : im_g} : im_D g 449 119 (.ifCond .ne 7) 122 := im_D.of (by decide +kernel)
theorem D449_122 {g : im_g} : im_D g 449 122 (.iconst 1) 123 := im_D.of (by decide +kernel)
theorem D449_123 {g : im_g} : im_D g 449 123 (.goto 4) 126 := im_D.of (by decide +kernel)
theorem D449_126 {g : im_g} : im_D g 449 126 (.iconst 0) 127 := im_D.of (by decide +kernel)
theorem D449_127 {g : im_g} : im_D g 449 127 (.ireturn) 128 := im_D.of (by decide +kernel)
theorem D449_128 {g : im_g} : im_D g 449 128 (.aload_n 0) 129 := im_D.of (by decide +kernel)
theorem D449_129 {g : im_g} : im_D g 449 129 (.iload 8) 131 := im_D.of (by decide +kernel)
theorem D449_131 {g : im_g} : im_D g 449 131 (.lload 4) 133 := im_D.of (by decide +kernel)
theorem D449_133 {g : im_g} : im_D g 449 133 (.invokestatic 1162) 136 := im_D.of (by decide +kernel)
theorem D449_136 {g : im_g} : im_D g 449 136 (.lload 6) 138 := im_D.of (by decide +kernel)
theorem D449_138 {g : im_g} : im_D g 449 138 (.invokevirtual 832) 141 := im_D.of (by decide +kernel)
theorem D449_141 {g : im_g} : im_D g 449 141 (.istore 9) 143 := im_D.of (by decide +kernel)
theorem D449_143 {g : im_g} : im_D g 449 143 (.iload 9) 145 := im_D.of (by decide +kernel)
theorem D449_145 {g : im_g} : im_D g 449 145 (.ifCond .ne 16) 148 := im_D.of (by decide +kernel)
theorem D449_148 {g : im_g} : im_D g 449 148 (.aload_n 0) 149 := im_D.of (by decide +kernel)
theorem D449_149 {g : im_g} : im_D g 449 149 (.iload 8) 151 := im_D.of (by decide +kernel)
theorem D449_151 {g : im_g} : im_D g 449 151 (.lload 4) 153 := im_D.of (by decide +kernel)
theorem D449_153 {g : im_g} : im_D g 449 153 (.invokestatic 1162) 156 := im_D.of (by decide +kernel)
theorem D449_156 {g : im_g} : im_D g 449 156 (.lload 6) 158 := im_D.of (by decide +kernel)
theorem D449_158 {g : im_g} : im_D g 449 158 (.invokevirtual 836) 161 := im_D.of (by decide +kernel)
theorem D449_161 {g : im_g} : im_D g 449 161 (.iload 9) 163 := im_D.of (by decide +kernel)
theorem D449_163 {g : im_g} : im_D g 449 163 (.ifCond .ne 7) 166 := im_D.of (by decide +kernel)
theorem D449_166 {g : im_g} : im_D g 449 166 (.iconst 1) 167 := im_D.of (by decide +kernel)
theorem D449_167 {g : im_g} : im_D g 449 167 (.goto 4) 170 := im_D.of (by decide +kernel)
theorem D449_170 {g : im_g} : im_D g 449 170 (.iconst 0) 171 := im_D.of (by decide +kernel)
theorem D449_171 {g : im_g} : im_D g 449 171 (.ireturn) 172 := im_D.of (by decide +kernel)
theorem D449_172 {g : im_g} : im_D g 449 172 (.iload 8) 174 := im_D.of (by decide +kernel)
theorem D449_174 {g : im_g} : im_D g 449 174 (.iconst (-1)) 175 := im_D.of (by decide +kernel)
theorem D449_175 {g : im_g} : im_D g 449 175 (.if_icmp .eq 16) 178 := im_D.of (by decide +kernel)
theorem D449_178 {g : im_g} : im_D g 449 178 (.aload_n 0) 179 := im_D.of (by decide +kernel)
theorem D449_179 {g : im_g} : im_D g 449 179 (.iload 8) 181 := im_D.of (by decide +kernel)
theorem D449_181 {g : im_g} : im_D g 449 181 (.invokevirtual 843) 184 := im_D.of (by decide +kernel)
theorem D449_184 {g : im_g} : im_D g 449 184 (.ifCond .eq 7) 187 := im_D.of (by decide +kernel)
theorem D449_187 {g : im_g} : im_D g 449 187 (.iconst 0) 188 := im_D.of (by decide +kernel)
theorem D449_188 {g : im_g} : im_D g 449 188 (.goto 5) 191 := im_D.of (by decide +kernel)
theorem D449_191 {g : im_g} : im_D g 449 191 (.bipush (-101)) 193 := im_D.of (by decide +kernel)
theorem D449_193 {g : im_g} : im_D g 449 193 (.istore 9) 195 := im_D.of (by decide +kernel)
theorem D449_195 {g : im_g} : im_D g 449 195 (.iload 9) 197 := im_D.of (by decide +kernel)
theorem D449_197 {g : im_g} : im_D g 449 197 (.ifCond .ne 11) 200 := im_D.of (by decide +kernel)
theorem D449_200 {g : im_g} : im_D g 449 200 (.aload_n 0) 201 := im_D.of (by decide +kernel)
theorem D449_201 {g : im_g} : im_D g 449 201 (.getfield 136) 204 := im_D.of (by decide +kernel)
theorem D449_204 {g : im_g} : im_D g 449 204 (.iload 8) 206 := im_D.of (by decide +kernel)
theorem D449_206 {g : im_g} : im_D g 449 206 (.iconst 0) 207 := im_D.of (by decide +kernel)
theorem D449_207 {g : im_g} : im_D g 449 207 (.bastore) 208 := im_D.of (by decide +kernel)
theorem D449_208 {g : im_g} : im_D g 449 208 (.iload 9) 210 := im_D.of (by decide +kernel)
theorem D449_210 {g : im_g} : im_D g 449 210 (.ifCond .ne 7) 213 := im_D.of (by decide +kernel)
theorem D449_213 {g : im_g} : im_D g 449 213 (.iconst 1) 214 := im_D.of (by decide +kernel)
theorem D449_214 {g : im_g} : im_D g 449 214 (.goto 4) 217 := im_D.of (by decide +kernel)
theorem D449_217 {g : im_g} : im_D g 449 217 (.iconst 0) 218 := im_D.of (by decide +kernel)
theorem D449_218 {g : im_g} : im_D g 449 218 (.ireturn) 219 := im_D.of (by decide +kernel)
theorem D449_219 {g : im_g} : im_D g 449 219 (.aload_n 0) 220 := im_D.of (by decide +kernel)
theorem D449_220 {g : im_g} : im_D g 449 220 (.lload_n 2) 221 := im_D.of (by decide +kernel)
theorem D449_221 {g : im_g} : im_D g 449 221 (.lload 4) 223 := im_D.of (by decide +kernel)
theorem D449_223 {g : im_g} : im_D g 449 223 (.invokevirtual 1083) 226 := im_D.of (by decide +kernel)
theorem D449_226 {g : im_g} : im_D g 449 226 (.istore 9) 228 := im_D.of (by decide +kernel)
theorem D449_228 {g : im_g} : im_D g 449 228 (.iload 9) 230 := im_D.of (by decide +kernel)
theorem D449_230 {g : im_g} : im_D g 449 230 (.ifCond .ne 17) 233 := im_D.of (by decide +kernel)
theorem D449_233 {g : im_g} : im_D g 449 233 (.aload_n 0) 234 := im_D.of (by decide +kernel)
theorem D449_234 {g : im_g} : im_D g 449 234 (.lload_n 2) 235 := im_D.of (by decide +kernel)
theorem D449_235 {g : im_g} : im_D g 449 235 (.lload 4) 237 := im_D.of (by decide +kernel)
theorem D449_237 {g : im_g} : im_D g 449 237 (.invokevirtual 1086) 240 := im_D.of (by decide +kernel)
theorem D449_240 {g : im_g} : im_D g 449 240 (.ifCond .ne 7) 243 := im_D.of (by decide +kernel)
theorem D449_243 {g : im_g} : im_D g 449 243 (.iconst 1) 244 := im_D.of (by decide +kernel)
theorem D449_244 {g : im_g} : im_D g 449 244 (.goto 4) 247 := im_D.of (by decide +kernel)
theorem D449_247 {g : im_g} : im_D g 449 247 (.iconst 0) 248 := im_D.of (by decide +kernel)
theorem D449_248 {g : im_g} : im_D g 449 248 (.ireturn) 249 := im_D.of (by decide +kernel)
theorem D449_249 {g : im_g} : im_D g 449 249 (.aload_n 0) 250 := im_D.of (by decide +kernel)
theorem D449_250 {g : im_g} : im_D g 449 250 (.iload 8) 252 := im_D.of (by decide +kernel)
theorem D449_252 {g : im_g} : im_D g 449 252 (.lload 4) 254 := im_D.of (by decide +kernel)
theorem D449_254 {g : im_g} : im_D g 449 254 (.lload 6) 256 := im_D.of (by decide +kernel)
theorem D449_256 {g : im_g} : im_D g 449 256 (.invokevirtual 1062) 259 := im_D.of (by decide +kernel)
theorem D449_259 {g : im_g} : im_D g 449 259 (.istore 9) 261 := im_D.of (by decide +kernel)
theorem D449_261 {g : im_g} : im_D g 449 261 (.iload 9) 263 := im_D.of (by decide +kernel)
theorem D449_263 {g : im_g} : im_D g 449 263 (.ifCond .ne 16) 266 := im_D.of (by decide +kernel)
theorem D449_266 {g : im_g} : im_D g 449 266 (.aload_n 0) 267 := im_D.of (by decide +kernel)
theorem D449_267 {g : im_g} : im_D g 449 267 (.iload 8) 269 := im_D.of (by decide +kernel)
theorem D449_269 {g : im_g} : im_D g 449 269 (.invokevirtual 1066) 272 := im_D.of (by decide +kernel)
theorem D449_272 {g : im_g} : im_D g 449 272 (.ifCond .ne 7) 275 := im_D.of (by decide +kernel)
theorem D449_275 {g : im_g} : im_D g 449 275 (.iconst 1) 276 := im_D.of (by decide +kernel)
theorem D449_276 {g : im_g} : im_D g 449 276 (.goto 4) 279 := im_D.of (by decide +kernel)
theorem D449_279 {g : im_g} : im_D g 449 279 (.iconst 0) 280 := im_D.of (by decide +kernel)
theorem D449_280 {g : im_g} : im_D g 449 280 (.ireturn) 281 := im_D.of (by decide +kernel)
theorem D449_281 {g : im_g} : im_D g 449 281 (.aload_n 0) 282 := im_D.of (by decide +kernel)
theorem D449_282 {g : im_g} : im_D g 449 282 (.lload_n 2) 283 := im_D.of (by decide +kernel)
theorem D449_283 {g : im_g} : im_D g 449 283 (.invokevirtual 819) 286 := im_D.of (by decide +kernel)
theorem D449_286 {g : im_g} : im_D g 449 286 (.istore 9) 288 := im_D.of (by decide +kernel)
theorem D449_288 {g : im_g} : im_D g 449 288 (.iload 9) 290 := im_D.of (by decide +kernel)
theorem D449_290 {g : im_g} : im_D g 449 290 (.ifCond .ne 15) 293 := im_D.of (by decide +kernel)
theorem D449_293 {g : im_g} : im_D g 449 293 (.aload_n 0) 294 := im_D.of (by decide +kernel)
theorem D449_294 {g : im_g} : im_D g 449 294 (.lload_n 2) 295 := im_D.of (by decide +kernel)
theorem D449_295 {g : im_g} : im_D g 449 295 (.invokevirtual 822) 298 := im_D.of (by decide +kernel)
theorem D449_298 {g : im_g} : im_D g 449 298 (.ifCond .le 7) 301 := im_D.of (by decide +kernel)
theorem D449_301 {g : im_g} : im_D g 449 301 (.iconst 1) 302 := im_D.of (by decide +kernel)
theorem D449_302 {g : im_g} : im_D g 449 302 (.goto 4) 305 := im_D.of (by decide +kernel)
theorem D449_305 {g : im_g} : im_D g 449 305 (.iconst 0) 306 := im_D.of (by decide +kernel)
theorem D449_306 {g : im_g} : im_D g 449 306 (.ireturn) 307 := im_D.of (by decide +kernel)
theorem D449_307 {g : im_g} : im_D g 449 307 (.aload_n 0) 308 := im_D.of (by decide +kernel)
theorem D449_308 {g : im_g} : im_D g 449 308 (.iconst 0) 309 := im_D.of (by decide +kernel)
theorem D449_309 {g : im_g} : im_D g 449 309 (.putfield 794) 312 := im_D.of (by decide +kernel)
theorem D449_312 {g : im_g} : im_D g 449 312 (.iconst 1) 313 := im_D.of (by decide +kernel)
theorem D449_313 {g : im_g} : im_D g 449 313 (.ireturn) 314 := im_D.of (by decide +kernel)
theorem D450_0 {g : im_g} : im_D g 450 0 (.lload_n 0) 1 := im_D.of (by decide +kernel)
theorem D450_1 {g : im_g} : im_D g 450 1 (.lconst 0) 2 := im_D.of (by decide +kernel)
theorem D450_2 {g : im_g} : im_D g 450 2 (.ldc2_w 729) 5 := im_D.of (by decide +kernel)
theorem D450_5 {g : im_g} : im_D g 450 5 (.invokestatic 428) 8 := im_D.of (by decide +kernel)
theorem D450_8 {g : im_g} : im_D g 450 8 (.ifCond .eq 8) 11 := im_D.of (by decide +kernel)
theorem D450_11 {g : im_g} : im_D g 450 11 (.lload_n 0) 12 := im_D.of (by decide +kernel)
theorem D450_12 {g : im_g} : im_D g 450 12 (.l2i) 13 := im_D.of (by decide +kernel)
theorem D450_13 {g : im_g} : im_D g 450 13 (.goto 4) 16 := im_D.of (by decide +kernel)
theorem D450_16 {g : im_g} : im_D g 450 16 (.iconst (-1)) 17 := im_D.of (by decide +kernel)
theorem D450_17 {g : im_g} : im_D g 450 17 (.ireturn) 18 := im_D.of (by decide +kernel)
theorem D451_0 {g : im_g} : im_D g 451 0 (.aload_n 0) 1 := im_D.of (by decide +kernel)
theorem D451_1 {g : im_g} : im_D g 451 1 (.iload_n 1) 2 := im_D.of (by decide +kernel)
theorem D451_2 {g : im_g} : im_D g 451 2 (.i2l) 3 := im_D.of (by decide +kernel)
theorem D451_3 {g : im_g} : im_D g 451 3 (.lconst 0) 4 := im_D.of (by decide +kernel)
theorem D451_4 {g : im_g} : im_D g 451 4 (.ldc2_w 1178) 7 := im_D.of (by decide +kernel)
theorem D451_7 {g : im_g} : im_D g 451 7 (.invokestatic 428) 10 := im_D.of (by decide +kernel)
theorem D451_10 {g : im_g} : im_D g 451 10 (.ifCond .eq 7) 13 := im_D.of (by decide +kernel)
theorem D451_13 {g : im_g} : im_D g 451 13 (.iconst 0) 14 := im_D.of (by decide +kernel)
theorem D451_14 {g : im_g} : im_D g 451 14 (.goto 4) 17 := im_D.of (by decide +kernel)
theorem D451_17 {g : im_g} : im_D g 451 17 (.iconst 1) 18 := im_D.of (by decide +kernel)
theorem D451_18 {g : im_g} : im_D g 451 18 (.putfield 409) 21 := im_D.of (by decide +kernel)
theorem D451_21 {g : im_g} : im_D g 451 21 (.iconst 0) 22 := im_D.of (by decide +kernel)
theorem D451_22 {g : im_g} : im_D g 451 22 (.istore_n 2) 23 := im_D.of (by decide +kernel)
theorem D451_23 {g : im_g} : im_D g 451 23 (.iconst 0) 24 := im_D.of (by decide +kernel)
theorem D451_24 {g : im_g} : im_D g 451 24 (.istore_n 3) 25 := im_D.of (by decide +kernel)
theorem D451_25 {g : im_g} : im_D g 451 25 (.iconst 0) 26 := im_D.of (by decide +kernel)
theorem D451_26 {g : im_g} : im_D g 451 26 (.istore 4) 28 := im_D.of (by decide +kernel)
theorem D451_28 {g : im_g} : im_D g 451 28 (.iload 4) 30 := im_D.of (by decide +kernel)
theorem D451_30 {g : im_g} : im_D g 451 30 (.bipush 16) 32 := im_D.of (by decide +kernel)
theorem D451_32 {g : im_g} : im_D g 451 32 (.if_icmp .ge 45) 35 := im_D.of (by decide +kernel)
theorem D451_35 {g : im_g} : im_D g 451 35 (.iload_n 2) 36 := im_D.of (by decide +kernel)
theorem D451_36 {g : im_g} : im_D g 451 36 (.aload_n 0) 37 := im_D.of (by decide +kernel)
theorem D451_37 {g : im_g} : im_D g 451 37 (.getfield 106) 40 := im_D.of (by decide +kernel)
theorem D451_40 {g : im_g} : im_D g 451 40 (.iload 4) 42 := im_D.of (by decide +kernel)
theorem D451_42 {g : im_g} : im_D g 451 42 (.baload) 43 := im_D.of (by decide +kernel)
theorem D451_43 {g : im_g} : im_D g 451 43 (.ifCond .eq 7) 46 := im_D.of (by decide +kernel)
theorem D451_46 {g : im_g} : im_D g 451 46 (.iconst 1) 47 := im_D.of (by decide +kernel)
theorem D451_47 {g : im_g} : im_D g 451 47 (.goto 4) 50 := im_D.of (by decide +kernel)
theorem D451_50 {g : im_g} : im_D g 451 50 (.iconst 0) 51 := im_D.of (by decide +kernel)
theorem D451_51 {g : im_g} : im_D g 451 51 (.iadd) 52 := im_D.of (by decide +kernel)
theorem D451_52 {g : im_g} : im_D g 451 52 (.istore_n 2) 53 := im_D.of (by decide +kernel)
theorem D451_53 {g : im_g} : im_D g 451 53 (.iload_n 3) 54 := im_D.of (by decide +kernel)
theorem D451_54 {g : im_g} : im_D g 451 54 (.aload_n 0) 55 := im_D.of (by decide +kernel)
theorem D451_55 {g : im_g} : im_D g 451 55 (.getfield 136) 58 := im_D.of (by decide +kernel)
theorem D451_58 {g : im_g} : im_D g 451 58 (.iload 4) 60 := im_D.of (by decide +kernel)
theorem D451_60 {g : im_g} : im_D g 451 60 (.baload) 61 := im_D.of (by decide +kernel)
theorem D451_61 {g : im_g} : im_D g 451 61 (.ifCond .eq 7) 64 := im_D.of (by decide +kernel)
theorem D451_64 {g : im_g} : im_D g 451 64 (.iconst 1) 65 := im_D.of (by decide +kernel)
theorem D451_65 {g : im_g} : im_D g 451 65 (.goto 4) 68 := im_D.of (by decide +kernel)
theorem D451_68 {g : im_g} : im_D g 451 68 (.iconst 0) 69 := im_D.of (by decide +kernel)
theorem D451_69 {g : im_g} : im_D g 451 69 (.iadd) 70 := im_D.of (by decide +kernel)
theorem D451_70 {g : im_g} : im_D g 451 70 (.istore_n 3) 71 := im_D.of (by decide +kernel)
theorem D451_71 {g : im_g} : im_D g 451 71 (.iinc 4 1) 74 := im_D.of (by decide +kernel)
theorem D451_74 {g : im_g} : im_D g 451 74 (.goto (-46)) 77 := im_D.of (by decide +kernel)
theorem D451_77 {g : im_g} : im_D g 451 77 (.iload_n 1) 78 := im_D.of (by decide +kernel)
theorem D451_78 {g : im_g} : im_D g 451 78 (.tableswitch 88 0 7 #[46, 48, 50, 55, 60, 65, 70, 75]) 79 := im_D.of (by decide +kernel)
theorem D451_124 {g : im_g} : im_D g 451 124 (.iload_n 2) 125 := im_D.of (by decide +kernel)
theorem D451_125 {g : im_g} : im_D g 451 125 (.ireturn) 126 := im_D.of (by decide +kernel)
theorem D451_126 {g : im_g} : im_D g 451 126 (.iload_n 3) 127 := im_D.of (by decide +kernel)
theorem D451_127 {g : im_g} : im_D g 451 127 (.ireturn) 128 := im_D.of (by decide +kernel)
theorem D451_128 {g : im_g} : im_D g 451 128 (.aload_n 0) 129 := im_D.of (by decide +kernel)
theorem D451_129 {g : im_g} : im_D g 451 129 (.getfield 416) 132 := im_D.of (by decide +kernel)
theorem D451_132 {g : im_g} : im_D g 451 132 (.ireturn) 133 := im_D.of (by decide +kernel)
theorem D451_133 {g : im_g} : im_D g 451 133 (.aload_n 0) 134 := im_D.of (by decide +kernel)
theorem D451_134 {g : im_g} : im_D g 451 134 (.getfield 1140) 137 := im_D.of (by decide +kernel)
theorem D451_137 {g : im_g} : im_D g 451 137 (.ireturn) 138 := im_D.of (by decide +kernel)
theorem D451_138 {g : im_g} : im_D g 451 138 (.aload_n 0) 139 := im_D.of (by decide +kernel)
theorem D451_139 {g : im_g} : im_D g 451 139 (.getfield 1154) 142 := im_D.of (by decide +kernel)
theorem D451_142 {g : im_g} : im_D g 451 142 (.ireturn) 143 := im_D.of (by decide +kernel)
theorem D451_143 {g : im_g} : im_D g 451 143 (.aload_n 0) 144 := im_D.of (by decide +kernel)
theorem D451_144 {g : im_g} : im_D g 451 144 (.getfield 632) 147 := im_D.of (by decide +kernel)
theorem D451_147 {g : im_g} : im_D g 451 147 (.ireturn) 148 := im_D.of (by decide +kernel)
theorem D451_148 {g : im_g} : im_D g 451 148 (.aload_n 0) 149 := im_D.of (by decide +kernel)
theorem D451_149 {g : im_g} : im_D g 451 149 (.getfield 794) 152 := im_D.of (by decide +kernel)
theorem D451_152 {g : im_g} : im_D g 451 152 (.ireturn) 153 := im_D.of (by decide +kernel)
theorem D451_153 {g : im_g} : im_D g 451 153 (.aload_n 0) 154 := im_D.of (by decide +kernel)
theorem D451_154 {g : im_g} : im_D g 451 154 (.getfield 412) 157 := im_D.of (by decide +kernel)
theorem D451_157 {g : im_g} : im_D g 451 157 (.ifCond .eq 7) 160 := im_D.of (by decide +kernel)
theorem D451_160 {g : im_g} : im_D g 451 160 (.iconst 1) 161 := im_D.of (by decide +kernel)
theorem D451_161 {g : im_g} : im_D g 451 161 (.goto 4) 164 := im_D.of (by decide +kernel)
theorem D451_164 {g : im_g} : im_D g 451 164 (.iconst 0) 165 := im_D.of (by decide +kernel)
theorem D451_165 {g : im_g} : im_D g 451 165 (.ireturn) 166 := im_D.of (by decide +kernel)
theorem D451_166 {g : im_g} : im_D g 451 166 (.iconst 0) 167 := im_D.of (by decide +kernel)
theorem D451_167 {g : im_g} : im_D g 451 167 (.ireturn) 168 := im_D.of (by decide +kernel)
set_option maxRecDepth 20000 in
set_option maxHeartbeats 4000000 in
theorem b_isRecord_0 {g : im_g} {d : Nat} {e : im_E} {M : im_M} {K : im_K} {p1 : Int} (hd : 1 ≤ d) (hP : (im_i32 (p1 + 7)) ∧ (((p1 + 7) ≤ 16384 → (0 ≤ p1 ∧ p1 < 16384) ∧ (0 ≤ (p1 + 1) ∧ (p1 + 1) < 16384) ∧ (0 ≤ (p1 + 2) ∧ (p1 + 2) < 16384) ∧ ((((7 ≤ (xior (xishl (M 7080 p1) 8) (M 7080 (p1 + 1))) → (im_i32 (p1 + (xior (xishl (M 7080 p1) 8) (M 7080 (p1 + 1))))) ∧ (((p1 + (xior (xishl (M 7080 p1) 8) (M 7080 (p1 + 1)))) ≤ 16384 → im_T g (d - 1) 268 0 [some (vL (M 7080 (p1 + 2))), none, some (vL 1), none, some (vL 8), none] [] e M (im_ri (fun x16 e_ M15 => e = e_ ∧ (im_i32 x16) ∧ ((((x16 = 0 → K (.inl (some (vI 0))) e M15))) ∧ ((((¬ x16 = 0) ∧ ((M 7080 (p1 + 2)) = 1)) ∨ ((¬ x16 = 0) ∧ (¬ (M 7080 (p1 + 2)) = 1) ∧ (5 ≤ (M 7080 (p1 + 2))) ∧ ((M 7080 (p1 + 2)) ≤ 7))) → im_T g (d - 1) 447 0 [some (vI (M 7080 (p1 + 2)))] [] e M15 (im_ri (fun x26 e_ M25 => e = e_ ∧ (im_i32 (7 + (8 * x26))) ∧ ((((((xior (xishl (M 7080 p1) 8) (M 7080 (p1 + 1))) < (7 + (8 * x26)))) ∨ (((7 + (8 * x26)) ≤ (xior (xishl (M 7080 p1) 8) (M 7080 (p1 + 1)))) ∧ (1 = 0) ∧ (¬ (xior (xishl (M 7080 p1) 8) (M 7080 (p1 + 1))) = (7 + (8 * x26))))) → K (.inl (some (vI 0))) e M25) ∧ (((((7 + (8 * x26)) ≤ (xior (xishl (M 7080 p1) 8) (M 7080 (p1 + 1)))) ∧ (¬ 1 = 0)) ∨ (((7 + (8 * x26)) ≤ (xior (xishl (M 7080 p1) 8) (M 7080 (p1 + 1)))) ∧ (1 = 0) ∧ ((xior (xishl (M 7080 p1) 8) (M 7080 (p1 + 1))) = (7 + (8 * x26))))) → im_T g d 446 133 [some (.ref 6952), some (vI p1), some (vI (xior (xishl (M 7080 p1) 8) (M 7080 (p1 + 1)))), none, none, none, some (vI 0), none] [] e (im_u M25 6952 181 (-2128831035)) K))))) ∧ ((((¬ x16 = 0) ∧ (¬ (M 7080 (p1 + 2)) = 1) ∧ ((M 7080 (p1 + 2)) < 5)) ∨ ((¬ x16 = 0) ∧ (¬ (M 7080 (p1 + 2)) = 1) ∧ (5 ≤ (M 7080 (p1 + 2))) ∧ (7 < (M 7080 (p1 + 2))))) → im_T g (d - 1) 447 0 [some (vI (M 7080 (p1 + 2)))] [] e M15 (im_ri (fun x42 e_ M41 => e = e_ ∧ (im_i32 (7 + (8 * x42))) ∧ ((((((xior (xishl (M 7080 p1) 8) (M 7080 (p1 + 1))) < (7 + (8 * x42)))) ∨ (((7 + (8 * x42)) ≤ (xior (xishl (M 7080 p1) 8) (M 7080 (p1 + 1)))) ∧ (0 = 0) ∧ (¬ (xior (xishl (M 7080 p1) 8) (M 7080 (p1 + 1))) = (7 + (8 * x42))))) → K (.inl (some (vI 0))) e M41) ∧ (((((7 + (8 * x42)) ≤ (xior (xishl (M 7080 p1) 8) (M 7080 (p1 + 1)))) ∧ (¬ 0 = 0)) ∨ (((7 + (8 * x42)) ≤ (xior (xishl (M 7080 p1) 8) (M 7080 (p1 + 1)))) ∧ (0 = 0) ∧ ((xior (xishl (M 7080 p1) 8) (M 7080 (p1 + 1))) = (7 + (8 * x42))))) → im_T g d 446 133 [some (.ref 6952), some (vI p1), some (vI (xior (xishl (M 7080 p1) 8) (M 7080 (p1 + 1)))), none, none, none, some (vI 0), none] [] e (im_u M41 6952 181 (-2128831035)) K))))))))))))) ∧ (((((xior (xishl (M 7080 p1) 8) (M 7080 (p1 + 1))) < 7)) ∨ ((7 ≤ (xior (xishl (M 7080 p1) 8) (M 7080 (p1 + 1)))) ∧ (16384 < (p1 + (xior (xishl (M 7080 p1) 8) (M 7080 (p1 + 1))))))) → K (.inl (some (vI 0))) e M))) ∧ (16384 < (p1 + 7) → K (.inl (some (vI 0))) e M))) : im_T g d 446 0 [some (.ref 6952), some (vI p1), none, none, none, none, none, none] [] e M K := by
  refine im_ld (q := 1) (i := 1) D446_0 rfl rfl rfl ?_
  refine im_bipush (q := 3) D446_1 rfl ?_
  refine im_iadd (q := 4) D446_3 ?_
  refine im_sipush (q := 7) D446_4 rfl ?_
  obtain ⟨hg1, hP⟩ := hP
  refine im_icmp (q := 10) (t := 12) D446_7 rfl hg1 (by decide) (fun hc2 => ?_) (fun hc2 => ?_)
  · replace hP := hP.1 hc2
    refine im_ld (q := 13) (i := 0) D446_12 rfl rfl rfl ?_
    refine im_gfR (q := 16) (b := 7080) D446_13 (im_fl cn_446 fl_12_396) sf_6952 rfl rfl tR_12_176 rf_6952_176 ?_
    refine im_ld (q := 17) (i := 1) D446_16 rfl rfl rfl ?_
    obtain ⟨hg3, hP⟩ := hP
    refine im_rng (j := p1) sf_7080 hg3.1 hg3.2 (fun hr4 => ?_)
    refine im_iald (q := 18) D446_17 sf_7080 hg3.1 hg3.2 (by decide) rfl ?_
    refine im_bipush (q := 20) D446_18 rfl ?_
    refine im_ishl (q := 21) D446_20 ?_
    refine im_ld (q := 22) (i := 0) D446_21 rfl rfl rfl ?_
    refine im_gfR (q := 25) (b := 7080) D446_22 (im_fl cn_446 fl_12_396) sf_6952 rfl rfl tR_12_176 rf_6952_176 ?_
    refine im_ld (q := 26) (i := 1) D446_25 rfl rfl rfl ?_
    refine im_iconst (q := 27) D446_26 ?_
    refine im_iadd (q := 28) D446_27 ?_
    obtain ⟨hg5, hP⟩ := hP
    refine im_rng (j := (p1 + 1)) sf_7080 hg5.1 hg5.2 (fun hr6 => ?_)
    refine im_iald (q := 29) D446_28 sf_7080 hg5.1 hg5.2 (by decide) rfl ?_
    refine im_ior (q := 30) D446_29 ?_
    refine im_st1 (q := 31) (i := 2) (L' := [some (.ref 6952), some (vI p1), some (vI (xior (xishl (M 7080 p1) 8) (M 7080 (p1 + 1)))), none, none, none, none, none]) D446_30 (Or.inl ⟨_, rfl, rfl⟩) (Nat.le_of_ble_eq_true rfl) rfl ?_
    refine im_ld (q := 32) (i := 0) D446_31 rfl rfl rfl ?_
    refine im_gfR (q := 35) (b := 7080) D446_32 (im_fl cn_446 fl_12_396) sf_6952 rfl rfl tR_12_176 rf_6952_176 ?_
    refine im_ld (q := 36) (i := 1) D446_35 rfl rfl rfl ?_
    refine im_iconst (q := 37) D446_36 ?_
    refine im_iadd (q := 38) D446_37 ?_
    obtain ⟨hg7, hP⟩ := hP
    refine im_rng (j := (p1 + 2)) sf_7080 hg7.1 hg7.2 (fun hr8 => ?_)
    refine im_iald (q := 39) D446_38 sf_7080 hg7.1 hg7.2 (by decide) rfl ?_
    refine im_st1 (q := 40) (i := 3) (L' := [some (.ref 6952), some (vI p1), some (vI (xior (xishl (M 7080 p1) 8) (M 7080 (p1 + 1)))), some (vI (M 7080 (p1 + 2))), none, none, none, none]) D446_39 (Or.inl ⟨_, rfl, rfl⟩) (Nat.le_of_ble_eq_true rfl) rfl ?_
    refine im_ld (q := 41) (i := 2) D446_40 rfl rfl rfl ?_
    refine im_bipush (q := 43) D446_41 rfl ?_
    obtain ⟨hP, hJ12⟩ := hP
    have kJ13 : ((((xior (xishl (M 7080 p1) 8) (M 7080 (p1 + 1))) < 7)) ∨ ((7 ≤ (xior (xishl (M 7080 p1) 8) (M 7080 (p1 + 1)))) ∧ (16384 < (p1 + (xior (xishl (M 7080 p1) 8) (M 7080 (p1 + 1))))))) → im_T g d 446 67 [none, none, none, none, none, none, none, none] [] e M K := by
      intro  hx14
      have hP := hJ12  hx14
      refine im_iconst (q := 68) D446_67 ?_
      exact im_zret (q := 69) D446_68 rfl (by decide) hP
    refine im_icmp (q := 46) (t := 67) D446_43 rfl (xior_r _ _) (by decide) (fun hc9 => ?_) (fun hc9 => ?_)
    · exact (kJ13  (Or.inl hc9)).wk trivial
    · replace hP := hP (Int.not_lt.mp hc9)
      refine im_ld (q := 47) (i := 1) D446_46 rfl rfl rfl ?_
      refine im_ld (q := 48) (i := 2) D446_47 rfl rfl rfl ?_
      refine im_iadd (q := 49) D446_48 ?_
      refine im_sipush (q := 52) D446_49 rfl ?_
      obtain ⟨hg10, hP⟩ := hP
      refine im_icmp (q := 55) (t := 67) D446_52 rfl hg10 (by decide) (fun hc11 => ?_) (fun hc11 => ?_)
      · exact (kJ13  (Or.inr ⟨(Int.not_lt.mp hc9), hc11⟩)).wk trivial
      · replace hP := hP (Int.not_lt.mp hc11)
        refine im_ld (q := 56) (i := 3) D446_55 rfl rfl rfl ?_
        refine im_i2l (q := 57) D446_56 hr8 ?_
        refine im_lconst (q := 58) (z := 1) D446_57 rfl ?_
        refine im_ldc2 (q := 61) (n := 8) D446_58 rfl ?_
        refine im_callS (q := 64) (kd := 0) (y := 268) (n := 3) (z := 12) (vs := [vL (M 7080 (p1 + 2)), vL 1, vL 8]) (r := []) (L2 := [some (vL (M 7080 (p1 + 2))), none, some (vL 1), none, some (vL 8), none]) D446_61 rfl (im_cal cn_446 cl_12_428) (Or.inl rfl) rfl rfl rfl rfl rfl hd ⟨rfl, rfl, rfl, trivial⟩ ?_
        refine hP.mono ?_
        rintro _ e54 M15 ⟨x16, rfl, rfl, hP⟩
        refine im_bkS ?_
        obtain ⟨hg17, hP⟩ := hP
        obtain ⟨hP, hJ22, hJ38⟩ := hP
        have kJ23 : (((¬ x16 = 0) ∧ ((M 7080 (p1 + 2)) = 1)) ∨ ((¬ x16 = 0) ∧ (¬ (M 7080 (p1 + 2)) = 1) ∧ (5 ≤ (M 7080 (p1 + 2))) ∧ ((M 7080 (p1 + 2)) ≤ 7))) → im_T g d 446 85 [some (.ref 6952), some (vI p1), some (vI (xior (xishl (M 7080 p1) 8) (M 7080 (p1 + 1)))), some (vI (M 7080 (p1 + 2))), none, none, none, none] [] e M15 K := by
          intro  hx24
          have hP := hJ22  hx24
          refine im_iconst (q := 86) D446_85 ?_
          refine im_goto (q := 89) (t := 90) D446_86 rfl ?_
          refine im_st1 (q := 92) (i := 4) (L' := [some (.ref 6952), some (vI p1), some (vI (xior (xishl (M 7080 p1) 8) (M 7080 (p1 + 1)))), some (vI (M 7080 (p1 + 2))), some (vI 1), none, none, none]) D446_90 (Or.inr rfl) (Nat.le_of_ble_eq_true rfl) rfl ?_
          refine im_bipush (q := 94) D446_92 rfl ?_
          refine im_bipush (q := 96) D446_94 rfl ?_
          refine im_ld (q := 97) (i := 3) D446_96 rfl rfl rfl ?_
          refine im_callS (q := 100) (kd := 0) (y := 447) (n := 1) (z := 12) (vs := [vI (M 7080 (p1 + 2))]) (r := [vI 8, vI 7]) (L2 := [some (vI (M 7080 (p1 + 2)))]) D446_97 rfl (im_cal cn_446 cl_12_1159) (Or.inl rfl) rfl rfl rfl rfl rfl hd ⟨rfl, trivial⟩ ?_
          refine hP.mono ?_
          rintro _ e37 M25 ⟨x26, rfl, rfl, hP⟩
          refine im_bkS ?_
          refine im_imul (q := 101) D446_100 ?_
          refine im_iadd (q := 102) D446_101 ?_
          refine im_st1 (q := 104) (i := 5) (L' := [some (.ref 6952), some (vI p1), some (vI (xior (xishl (M 7080 p1) 8) (M 7080 (p1 + 1)))), some (vI (M 7080 (p1 + 2))), some (vI 1), some (vI (7 + (8 * x26))), none, none]) D446_102 (Or.inr rfl) (Nat.le_of_ble_eq_true rfl) rfl ?_
          refine im_ld (q := 105) (i := 2) D446_104 rfl rfl rfl ?_
          refine im_ld (q := 107) (i := 5) D446_105 rfl rfl rfl ?_
          obtain ⟨hg27, hP⟩ := hP
          obtain ⟨hJ31, hJ34⟩ := hP
          have kJ32 : ((((xior (xishl (M 7080 p1) 8) (M 7080 (p1 + 1))) < (7 + (8 * x26)))) ∨ (((7 + (8 * x26)) ≤ (xior (xishl (M 7080 p1) 8) (M 7080 (p1 + 1)))) ∧ (1 = 0) ∧ (¬ (xior (xishl (M 7080 p1) 8) (M 7080 (p1 + 1))) = (7 + (8 * x26))))) → im_T g d 446 121 [none, none, none, none, none, none, none, none] [] e M25 K := by
            intro  hx33
            have hP := hJ31  hx33
            refine im_iconst (q := 122) D446_121 ?_
            exact im_zret (q := 123) D446_122 rfl (by decide) hP
          have kJ35 : ((((7 + (8 * x26)) ≤ (xior (xishl (M 7080 p1) 8) (M 7080 (p1 + 1)))) ∧ (¬ 1 = 0)) ∨ (((7 + (8 * x26)) ≤ (xior (xishl (M 7080 p1) 8) (M 7080 (p1 + 1)))) ∧ (1 = 0) ∧ ((xior (xishl (M 7080 p1) 8) (M 7080 (p1 + 1))) = (7 + (8 * x26))))) → im_T g d 446 123 [some (.ref 6952), some (vI p1), some (vI (xior (xishl (M 7080 p1) 8) (M 7080 (p1 + 1)))), none, none, none, none, none] [] e M25 K := by
            intro  hx36
            have hP := hJ34  hx36
            refine im_ld (q := 124) (i := 0) D446_123 rfl rfl rfl ?_
            refine im_ldc (q := 127) (n := (-2128831035)) (Or.inr rfl) D446_124 rfl rfl ?_
            refine im_pfI (q := 130) D446_127 (im_fl cn_446 fl_12_1133) sf_6952 rfl rfl ti_12_181 (by decide) ?_
            refine im_iconst (q := 131) D446_130 ?_
            refine im_st1 (q := 133) (i := 6) (L' := [some (.ref 6952), some (vI p1), some (vI (xior (xishl (M 7080 p1) 8) (M 7080 (p1 + 1)))), none, none, none, some (vI 0), none]) D446_131 (Or.inr rfl) (Nat.le_of_ble_eq_true rfl) rfl ?_
            exact hP.wk ⟨rfl, rfl, rfl, rfl, trivial⟩
          refine im_icmp (q := 110) (t := 121) D446_107 rfl (xior_r _ _) hg27 (fun hc28 => ?_) (fun hc28 => ?_)
          · exact (kJ32  (Or.inl hc28)).wk trivial
          · refine im_ld (q := 112) (i := 4) D446_110 rfl rfl rfl ?_
            refine im_ifc (q := 115) (t := 123) D446_112 rfl (by decide) (fun hc29 => ?_) (fun hc29 => ?_)
            · exact (kJ35  (Or.inl ⟨(Int.not_lt.mp hc28), hc29⟩)).wk ⟨rfl, rfl, rfl, trivial⟩
            · refine im_ld (q := 116) (i := 2) D446_115 rfl rfl rfl ?_
              refine im_ld (q := 118) (i := 5) D446_116 rfl rfl rfl ?_
              refine im_icmp (q := 121) (t := 123) D446_118 rfl (xior_r _ _) hg27 (fun hc30 => ?_) (fun hc30 => ?_)
              · exact (kJ35  (Or.inr ⟨(Int.not_lt.mp hc28), (Decidable.not_not.mp hc29), hc30⟩)).wk ⟨rfl, rfl, rfl, trivial⟩
              · exact (kJ32  (Or.inr ⟨(Int.not_lt.mp hc28), (Decidable.not_not.mp hc29), hc30⟩)).wk trivial
        have kJ39 : (((¬ x16 = 0) ∧ (¬ (M 7080 (p1 + 2)) = 1) ∧ ((M 7080 (p1 + 2)) < 5)) ∨ ((¬ x16 = 0) ∧ (¬ (M 7080 (p1 + 2)) = 1) ∧ (5 ≤ (M 7080 (p1 + 2))) ∧ (7 < (M 7080 (p1 + 2))))) → im_T g d 446 89 [some (.ref 6952), some (vI p1), some (vI (xior (xishl (M 7080 p1) 8) (M 7080 (p1 + 1)))), some (vI (M 7080 (p1 + 2))), none, none, none, none] [] e M15 K := by
          intro  hx40
          have hP := hJ38  hx40
          refine im_iconst (q := 90) D446_89 ?_
          refine im_st1 (q := 92) (i := 4) (L' := [some (.ref 6952), some (vI p1), some (vI (xior (xishl (M 7080 p1) 8) (M 7080 (p1 + 1)))), some (vI (M 7080 (p1 + 2))), some (vI 0), none, none, none]) D446_90 (Or.inr rfl) (Nat.le_of_ble_eq_true rfl) rfl ?_
          refine im_bipush (q := 94) D446_92 rfl ?_
          refine im_bipush (q := 96) D446_94 rfl ?_
          refine im_ld (q := 97) (i := 3) D446_96 rfl rfl rfl ?_
          refine im_callS (q := 100) (kd := 0) (y := 447) (n := 1) (z := 12) (vs := [vI (M 7080 (p1 + 2))]) (r := [vI 8, vI 7]) (L2 := [some (vI (M 7080 (p1 + 2)))]) D446_97 rfl (im_cal cn_446 cl_12_1159) (Or.inl rfl) rfl rfl rfl rfl rfl hd ⟨rfl, trivial⟩ ?_
          refine hP.mono ?_
          rintro _ e53 M41 ⟨x42, rfl, rfl, hP⟩
          refine im_bkS ?_
          refine im_imul (q := 101) D446_100 ?_
          refine im_iadd (q := 102) D446_101 ?_
          refine im_st1 (q := 104) (i := 5) (L' := [some (.ref 6952), some (vI p1), some (vI (xior (xishl (M 7080 p1) 8) (M 7080 (p1 + 1)))), some (vI (M 7080 (p1 + 2))), some (vI 0), some (vI (7 + (8 * x42))), none, none]) D446_102 (Or.inr rfl) (Nat.le_of_ble_eq_true rfl) rfl ?_
          refine im_ld (q := 105) (i := 2) D446_104 rfl rfl rfl ?_
          refine im_ld (q := 107) (i := 5) D446_105 rfl rfl rfl ?_
          obtain ⟨hg43, hP⟩ := hP
          obtain ⟨hJ47, hJ50⟩ := hP
          have kJ48 : ((((xior (xishl (M 7080 p1) 8) (M 7080 (p1 + 1))) < (7 + (8 * x42)))) ∨ (((7 + (8 * x42)) ≤ (xior (xishl (M 7080 p1) 8) (M 7080 (p1 + 1)))) ∧ (0 = 0) ∧ (¬ (xior (xishl (M 7080 p1) 8) (M 7080 (p1 + 1))) = (7 + (8 * x42))))) → im_T g d 446 121 [none, none, none, none, none, none, none, none] [] e M41 K := by
            intro  hx49
            have hP := hJ47  hx49
            refine im_iconst (q := 122) D446_121 ?_
            exact im_zret (q := 123) D446_122 rfl (by decide) hP
          have kJ51 : ((((7 + (8 * x42)) ≤ (xior (xishl (M 7080 p1) 8) (M 7080 (p1 + 1)))) ∧ (¬ 0 = 0)) ∨ (((7 + (8 * x42)) ≤ (xior (xishl (M 7080 p1) 8) (M 7080 (p1 + 1)))) ∧ (0 = 0) ∧ ((xior (xishl (M 7080 p1) 8) (M 7080 (p1 + 1))) = (7 + (8 * x42))))) → im_T g d 446 123 [some (.ref 6952), some (vI p1), some (vI (xior (xishl (M 7080 p1) 8) (M 7080 (p1 + 1)))), none, none, none, none, none] [] e M41 K := by
            intro  hx52
            have hP := hJ50  hx52
            refine im_ld (q := 124) (i := 0) D446_123 rfl rfl rfl ?_
            refine im_ldc (q := 127) (n := (-2128831035)) (Or.inr rfl) D446_124 rfl rfl ?_
            refine im_pfI (q := 130) D446_127 (im_fl cn_446 fl_12_1133) sf_6952 rfl rfl ti_12_181 (by decide) ?_
            refine im_iconst (q := 131) D446_130 ?_
            refine im_st1 (q := 133) (i := 6) (L' := [some (.ref 6952), some (vI p1), some (vI (xior (xishl (M 7080 p1) 8) (M 7080 (p1 + 1)))), none, none, none, some (vI 0), none]) D446_131 (Or.inr rfl) (Nat.le_of_ble_eq_true rfl) rfl ?_
            exact hP.wk ⟨rfl, rfl, rfl, rfl, trivial⟩
          refine im_icmp (q := 110) (t := 121) D446_107 rfl (xior_r _ _) hg43 (fun hc44 => ?_) (fun hc44 => ?_)
          · exact (kJ48  (Or.inl hc44)).wk trivial
          · refine im_ld (q := 112) (i := 4) D446_110 rfl rfl rfl ?_
            refine im_ifc (q := 115) (t := 123) D446_112 rfl (by decide) (fun hc45 => ?_) (fun hc45 => ?_)
            · exact (kJ51  (Or.inl ⟨(Int.not_lt.mp hc44), hc45⟩)).wk ⟨rfl, rfl, rfl, trivial⟩
            · refine im_ld (q := 116) (i := 2) D446_115 rfl rfl rfl ?_
              refine im_ld (q := 118) (i := 5) D446_116 rfl rfl rfl ?_
              refine im_icmp (q := 121) (t := 123) D446_118 rfl (xior_r _ _) hg43 (fun hc46 => ?_) (fun hc46 => ?_)
              · exact (kJ51  (Or.inr ⟨(Int.not_lt.mp hc44), (Decidable.not_not.mp hc45), hc46⟩)).wk ⟨rfl, rfl, rfl, trivial⟩
              · exact (kJ48  (Or.inr ⟨(Int.not_lt.mp hc44), (Decidable.not_not.mp hc45), hc46⟩)).wk trivial
        refine im_ifc (q := 67) (t := 69) D446_64 rfl hg17 (fun hc18 => ?_) (fun hc18 => ?_)
        · refine im_ld (q := 70) (i := 3) D446_69 rfl rfl rfl ?_
          refine im_iconst (q := 71) D446_70 ?_
          refine im_icmp (q := 74) (t := 85) D446_71 rfl hr8 (by decide) (fun hc19 => ?_) (fun hc19 => ?_)
          · exact (kJ23  (Or.inl ⟨hc18, hc19⟩)).wk ⟨rfl, rfl, rfl, rfl, trivial⟩
          · refine im_ld (q := 75) (i := 3) D446_74 rfl rfl rfl ?_
            refine im_iconst (q := 76) D446_75 ?_
            refine im_icmp (q := 79) (t := 89) D446_76 rfl hr8 (by decide) (fun hc20 => ?_) (fun hc20 => ?_)
            · exact (kJ39  (Or.inl ⟨hc18, hc19, hc20⟩)).wk ⟨rfl, rfl, rfl, rfl, trivial⟩
            · refine im_ld (q := 80) (i := 3) D446_79 rfl rfl rfl ?_
              refine im_bipush (q := 82) D446_80 rfl ?_
              refine im_icmp (q := 85) (t := 89) D446_82 rfl hr8 (by decide) (fun hc21 => ?_) (fun hc21 => ?_)
              · exact (kJ39  (Or.inr ⟨hc18, hc19, (Int.not_lt.mp hc20), hc21⟩)).wk ⟨rfl, rfl, rfl, rfl, trivial⟩
              · exact (kJ23  (Or.inr ⟨hc18, hc19, (Int.not_lt.mp hc20), (Int.not_lt.mp hc21)⟩)).wk ⟨rfl, rfl, rfl, rfl, trivial⟩
        · replace hP := hP (Decidable.not_not.mp hc18)
          refine im_iconst (q := 68) D446_67 ?_
          exact im_zret (q := 69) D446_68 rfl (by decide) hP
  · replace hP := hP.2 (Int.not_le.mp hc2)
    refine im_iconst (q := 11) D446_10 ?_
    exact im_zret (q := 12) D446_11 rfl (by decide) hP
set_option maxRecDepth 20000 in
set_option maxHeartbeats 4000000 in
theorem b_isRecord_133 {g : im_g} {d : Nat} {e : im_E} {M : im_M} {K : im_K} {p1 p2 p6 : Int} (hd : 1 ≤ d) (hP : (im_i32 p6) ∧ (im_i32 (p2 - 4)) ∧ (((p2 - 4) ≤ p6 → im_T g (d - 1) 311 0 [some (.ref 6952), some (vI p1), none] [] e M (im_r0 (fun  e_ M6 => e = e_ ∧ im_T g d 446 171 [some (.ref 6952), some (vI p1), some (vI p2), none, none, none, some (vI 1), some (vI 0)] [] e M6 K))) ∧ (p6 < (p2 - 4) → (0 ≤ (p1 + p6) ∧ (p1 + p6) < 16384) ∧ im_T g (d - 1) 309 0 [some (.ref 6952), some (vI (M 7080 (p1 + p6)))] [] e M (im_r0 (fun  e_ M8 => e = e_ ∧ im_T g d 446 133 [some (.ref 6952), some (vI p1), some (vI p2), none, none, none, some (vI (p6 + 1)), none] [] e M8 K))))) : im_T g d 446 133 [some (.ref 6952), some (vI p1), some (vI p2), none, none, none, some (vI p6), none] [] e M K := by
  refine im_ld (q := 135) (i := 6) D446_133 rfl rfl rfl ?_
  refine im_ld (q := 136) (i := 2) D446_135 rfl rfl rfl ?_
  refine im_iconst (q := 137) D446_136 ?_
  refine im_isub (q := 138) D446_137 ?_
  obtain ⟨hg1, hP⟩ := hP
  obtain ⟨hg2, hP⟩ := hP
  refine im_icmp (q := 141) (t := 160) D446_138 rfl hg1 hg2 (fun hc3 => ?_) (fun hc3 => ?_)
  · replace hP := hP.1 hc3
    refine im_ld (q := 161) (i := 0) D446_160 rfl rfl rfl ?_
    refine im_ld (q := 162) (i := 1) D446_161 rfl rfl rfl ?_
    refine im_callV (q := 165) (kd := 1) (y := 311) (n := 1) (ci := 12) (a := 6952) (vs := [.ref 6952, vI p1]) (r := []) (L2 := [some (.ref 6952), some (vI p1), none]) D446_162 (im_cal cn_446 cl_12_1151) (Or.inl rfl) rfl sf_6952 rfl rfl rfl rfl hd ⟨rfl, rfl, trivial⟩ ?_
    refine hP.mono ?_
    rintro _ e7 M6 ⟨rfl, rfl, hP⟩
    refine im_bkN ?_
    refine im_iconst (q := 166) D446_165 ?_
    refine im_st1 (q := 168) (i := 6) (L' := [some (.ref 6952), some (vI p1), some (vI p2), none, none, none, some (vI 1), none]) D446_166 (Or.inr rfl) (Nat.le_of_ble_eq_true rfl) rfl ?_
    refine im_iconst (q := 169) D446_168 ?_
    refine im_st1 (q := 171) (i := 7) (L' := [some (.ref 6952), some (vI p1), some (vI p2), none, none, none, some (vI 1), some (vI 0)]) D446_169 (Or.inr rfl) (Nat.le_of_ble_eq_true rfl) rfl ?_
    exact hP.wk ⟨rfl, rfl, rfl, rfl, rfl, trivial⟩
  · replace hP := hP.2 (Int.not_le.mp hc3)
    refine im_ld (q := 142) (i := 0) D446_141 rfl rfl rfl ?_
    refine im_ld (q := 143) (i := 0) D446_142 rfl rfl rfl ?_
    refine im_gfR (q := 146) (b := 7080) D446_143 (im_fl cn_446 fl_12_396) sf_6952 rfl rfl tR_12_176 rf_6952_176 ?_
    refine im_ld (q := 147) (i := 1) D446_146 rfl rfl rfl ?_
    refine im_ld (q := 149) (i := 6) D446_147 rfl rfl rfl ?_
    refine im_iadd (q := 150) D446_149 ?_
    obtain ⟨hg4, hP⟩ := hP
    refine im_rng (j := (p1 + p6)) sf_7080 hg4.1 hg4.2 (fun hr5 => ?_)
    refine im_iald (q := 151) D446_150 sf_7080 hg4.1 hg4.2 (by decide) rfl ?_
    refine im_callV (q := 154) (kd := 1) (y := 309) (n := 1) (ci := 12) (a := 6952) (vs := [.ref 6952, vI (M 7080 (p1 + p6))]) (r := []) (L2 := [some (.ref 6952), some (vI (M 7080 (p1 + p6)))]) D446_151 (im_cal cn_446 cl_12_1137) (Or.inl rfl) rfl sf_6952 rfl rfl rfl rfl hd ⟨rfl, rfl, trivial⟩ ?_
    refine hP.mono ?_
    rintro _ e9 M8 ⟨rfl, rfl, hP⟩
    refine im_bkN ?_
    refine im_iinc (q := 157) (i := 6) (L' := [some (.ref 6952), some (vI p1), some (vI p2), none, none, none, some (vI (p6 + 1)), none]) D446_154 rfl (Nat.le_of_ble_eq_true rfl) rfl ?_
    refine im_goto (q := 160) (t := 133) D446_157 rfl ?_
    exact hP.wk ⟨rfl, rfl, rfl, rfl, trivial⟩
set_option maxRecDepth 20000 in
set_option maxHeartbeats 4000000 in
theorem b_isRecord_171 {g : im_g} {d : Nat} {e : im_E} {M : im_M} {K : im_K} {p1 p2 p6 p7 : Int} (hP : (im_i32 p7) ∧ ((((4 ≤ p7 → (0 ≤ p6 ∧ p6 ≤ 1) ∧ K (.inl (some (vI p6))) e M) ∧ (p7 < 4 → (im_i32 p6) ∧ ((¬ p6 = 0 → (0 ≤ (((p1 + p2) - 4) + p7) ∧ (((p1 + p2) - 4) + p7) < 16384) ∧ (((M 7080 (((p1 + p2) - 4) + p7)) = (xiand (xishr (M 6952 181) (24 - (8 * p7))) 255) → im_T g d 446 171 [some (.ref 6952), some (vI p1), some (vI p2), none, none, none, some (vI 1), some (vI (p7 + 1))] [] e M K))))))) ∧ ((((p7 < 4) ∧ (p6 = 0)) ∨ ((p7 < 4) ∧ (¬ p6 = 0) ∧ (¬ (M 7080 (((p1 + p2) - 4) + p7)) = (xiand (xishr (M 6952 181) (24 - (8 * p7))) 255)))) → im_T g d 446 171 [some (.ref 6952), some (vI p1), some (vI p2), none, none, none, some (vI 0), some (vI (p7 + 1))] [] e M K))) : im_T g d 446 171 [some (.ref 6952), some (vI p1), some (vI p2), none, none, none, some (vI p6), some (vI p7)] [] e M K := by
  refine im_ld (q := 173) (i := 7) D446_171 rfl rfl rfl ?_
  refine im_iconst (q := 174) D446_173 ?_
  obtain ⟨hg1, hP⟩ := hP
  obtain ⟨hP, hJ9⟩ := hP
  have kJ10 : (((p7 < 4) ∧ (p6 = 0)) ∨ ((p7 < 4) ∧ (¬ p6 = 0) ∧ (¬ (M 7080 (((p1 + p2) - 4) + p7)) = (xiand (xishr (M 6952 181) (24 - (8 * p7))) 255)))) → im_T g d 446 219 [some (.ref 6952), some (vI p1), some (vI p2), none, none, none, none, some (vI p7)] [] e M K := by
    intro  hx11
    have hP := hJ9  hx11
    refine im_iconst (q := 220) D446_219 ?_
    refine im_st1 (q := 222) (i := 6) (L' := [some (.ref 6952), some (vI p1), some (vI p2), none, none, none, some (vI 0), some (vI p7)]) D446_220 (Or.inr rfl) (Nat.le_of_ble_eq_true rfl) rfl ?_
    refine im_iinc (q := 225) (i := 7) (L' := [some (.ref 6952), some (vI p1), some (vI p2), none, none, none, some (vI 0), some (vI (p7 + 1))]) D446_222 rfl (Nat.le_of_ble_eq_true rfl) rfl ?_
    refine im_goto (q := 228) (t := 171) D446_225 rfl ?_
    exact hP.wk ⟨rfl, rfl, rfl, rfl, rfl, trivial⟩
  refine im_icmp (q := 177) (t := 228) D446_174 rfl hg1 (by decide) (fun hc2 => ?_) (fun hc2 => ?_)
  · replace hP := hP.1 hc2
    refine im_ld (q := 230) (i := 6) D446_228 rfl rfl rfl ?_
    obtain ⟨hg12, hP⟩ := hP
    exact im_zret (q := 231) D446_230 rfl hg12 hP
  · replace hP := hP.2 (Int.not_le.mp hc2)
    refine im_ld (q := 179) (i := 6) D446_177 rfl rfl rfl ?_
    obtain ⟨hg3, hP⟩ := hP
    refine im_ifc (q := 182) (t := 219) D446_179 rfl hg3 (fun hc4 => ?_) (fun hc4 => ?_)
    · exact (kJ10  (Or.inl ⟨(Int.not_le.mp hc2), hc4⟩)).wk ⟨rfl, rfl, rfl, rfl, trivial⟩
    · replace hP := hP hc4
      refine im_ld (q := 183) (i := 0) D446_182 rfl rfl rfl ?_
      refine im_gfR (q := 186) (b := 7080) D446_183 (im_fl cn_446 fl_12_396) sf_6952 rfl rfl tR_12_176 rf_6952_176 ?_
      refine im_ld (q := 187) (i := 1) D446_186 rfl rfl rfl ?_
      refine im_ld (q := 188) (i := 2) D446_187 rfl rfl rfl ?_
      refine im_iadd (q := 189) D446_188 ?_
      refine im_iconst (q := 190) D446_189 ?_
      refine im_isub (q := 191) D446_190 ?_
      refine im_ld (q := 193) (i := 7) D446_191 rfl rfl rfl ?_
      refine im_iadd (q := 194) D446_193 ?_
      obtain ⟨hg5, hP⟩ := hP
      refine im_rng (j := (((p1 + p2) - 4) + p7)) sf_7080 hg5.1 hg5.2 (fun hr6 => ?_)
      refine im_iald (q := 195) D446_194 sf_7080 hg5.1 hg5.2 (by decide) rfl ?_
      refine im_ld (q := 196) (i := 0) D446_195 rfl rfl rfl ?_
      refine im_rng (j := 181) sf_6952 (by decide) (by decide) (fun hr7 => ?_)
      refine im_gfI (q := 199) D446_196 (im_fl cn_446 fl_12_1133) sf_6952 rfl rfl tI_12_181 rfl ?_
      refine im_bipush (q := 201) D446_199 rfl ?_
      refine im_bipush (q := 203) D446_201 rfl ?_
      refine im_ld (q := 205) (i := 7) D446_203 rfl rfl rfl ?_
      refine im_imul (q := 206) D446_205 ?_
      refine im_isub (q := 207) D446_206 ?_
      refine im_ishr (q := 208) D446_207 ?_
      refine im_sipush (q := 211) D446_208 rfl ?_
      refine im_iand (q := 212) D446_211 ?_
      refine im_icmp (q := 215) (t := 219) D446_212 rfl hr6 (xiand_r _ _) (fun hc8 => ?_) (fun hc8 => ?_)
      · exact (kJ10  (Or.inr ⟨(Int.not_le.mp hc2), hc4, hc8⟩)).wk ⟨rfl, rfl, rfl, rfl, trivial⟩
      · replace hP := hP (Decidable.not_not.mp hc8)
        refine im_iconst (q := 216) D446_215 ?_
        refine im_goto (q := 219) (t := 220) D446_216 rfl ?_
        refine im_st1 (q := 222) (i := 6) (L' := [some (.ref 6952), some (vI p1), some (vI p2), none, none, none, some (vI 1), some (vI p7)]) D446_220 (Or.inr rfl) (Nat.le_of_ble_eq_true rfl) rfl ?_
        refine im_iinc (q := 225) (i := 7) (L' := [some (.ref 6952), some (vI p1), some (vI p2), none, none, none, some (vI 1), some (vI (p7 + 1))]) D446_222 rfl (Nat.le_of_ble_eq_true rfl) rfl ?_
        refine im_goto (q := 228) (t := 171) D446_225 rfl ?_
        exact hP.wk ⟨rfl, rfl, rfl, rfl, rfl, trivial⟩
set_option maxRecDepth 20000 in
set_option maxHeartbeats 4000000 in
theorem b_numbersOf_0 {g : im_g} {d : Nat} {e : im_E} {M : im_M} {K : im_K} {p0 : Int} (hP : (im_i32 p0) ∧ (((((p0 = 3)) ∨ ((¬ p0 = 3) ∧ (p0 = 6))) → K (.inl (some (vI 3))) e M) ∧ (∀ x6 : Int, (((¬ p0 = 3) ∧ (¬ p0 = 6) ∧ (¬ p0 = 5) ∧ (¬ p0 = 8) ∧ x6 = 1) ∨ ((¬ p0 = 3) ∧ (¬ p0 = 6) ∧ (¬ p0 = 5) ∧ (p0 = 8) ∧ x6 = 0) ∨ ((¬ p0 = 3) ∧ (¬ p0 = 6) ∧ (p0 = 5) ∧ x6 = 2)) → K (.inl (some (vI x6))) e M))) : im_T g d 447 0 [some (vI p0)] [] e M K := by
  refine im_ld (q := 1) (i := 0) D447_0 rfl rfl rfl ?_
  refine im_iconst (q := 2) D447_1 ?_
  obtain ⟨hg1, hP⟩ := hP
  obtain ⟨hJ7, hJ10⟩ := hP
  have kJ8 : (((p0 = 3)) ∨ ((¬ p0 = 3) ∧ (p0 = 6))) → im_T g d 447 11 [none] [] e M K := by
    intro  hx9
    have hP := hJ7  hx9
    refine im_iconst (q := 12) D447_11 ?_
    refine im_goto (q := 15) (t := 35) D447_12 rfl ?_
    exact im_iret (q := 36) D447_35 rfl hP
  have kJ11 : ∀ x6 : Int, (((¬ p0 = 3) ∧ (¬ p0 = 6) ∧ (¬ p0 = 5) ∧ (¬ p0 = 8) ∧ x6 = 1) ∨ ((¬ p0 = 3) ∧ (¬ p0 = 6) ∧ (¬ p0 = 5) ∧ (p0 = 8) ∧ x6 = 0) ∨ ((¬ p0 = 3) ∧ (¬ p0 = 6) ∧ (p0 = 5) ∧ x6 = 2)) → im_T g d 447 35 [none] [vI x6] e M K := by
    intro x6 hx12
    have hP := hJ10 x6 hx12
    exact im_iret (q := 36) D447_35 rfl hP
  refine im_icmp (q := 5) (t := 11) D447_2 rfl hg1 (by decide) (fun hc2 => ?_) (fun hc2 => ?_)
  · exact (kJ8  (Or.inl hc2)).wk trivial
  · refine im_ld (q := 6) (i := 0) D447_5 rfl rfl rfl ?_
    refine im_bipush (q := 8) D447_6 rfl ?_
    refine im_icmp (q := 11) (t := 15) D447_8 rfl hg1 (by decide) (fun hc3 => ?_) (fun hc3 => ?_)
    · refine im_ld (q := 16) (i := 0) D447_15 rfl rfl rfl ?_
      refine im_iconst (q := 17) D447_16 ?_
      refine im_icmp (q := 20) (t := 24) D447_17 rfl hg1 (by decide) (fun hc4 => ?_) (fun hc4 => ?_)
      · refine im_ld (q := 25) (i := 0) D447_24 rfl rfl rfl ?_
        refine im_bipush (q := 27) D447_25 rfl ?_
        refine im_icmp (q := 30) (t := 34) D447_27 rfl hg1 (by decide) (fun hc5 => ?_) (fun hc5 => ?_)
        · refine im_iconst (q := 35) D447_34 ?_
          exact (kJ11 (1) (Or.inl ⟨hc2, hc3, hc4, hc5, rfl⟩)).wk trivial
        · refine im_iconst (q := 31) D447_30 ?_
          refine im_goto (q := 34) (t := 35) D447_31 rfl ?_
          exact (kJ11 (0) (Or.inr (Or.inl ⟨hc2, hc3, hc4, (Decidable.not_not.mp hc5), rfl⟩))).wk trivial
      · refine im_iconst (q := 21) D447_20 ?_
        refine im_goto (q := 24) (t := 35) D447_21 rfl ?_
        exact (kJ11 (2) (Or.inr (Or.inr ⟨hc2, hc3, (Decidable.not_not.mp hc4), rfl⟩))).wk trivial
    · exact (kJ8  (Or.inr ⟨hc2, (Decidable.not_not.mp hc3)⟩)).wk trivial
set_option maxRecDepth 20000 in
set_option maxHeartbeats 4000000 in
theorem b_diskNumber_0 {g : im_g} {d : Nat} {e : im_E} {M : im_M} {K : im_K} {p1 : Int} (hP : im_T g d 448 5 [some (.ref 6952), some (vI p1), some (vL 0), none, some (vI 0)] [] e M K) : im_T g d 448 0 [some (.ref 6952), some (vI p1), none, none, none] [] e M K := by
  refine im_lconst (q := 1) (z := 0) D448_0 rfl ?_
  refine im_st2 (q := 2) (i := 2) (L' := [some (.ref 6952), some (vI p1), some (vL 0), none, none]) D448_1 (Or.inl ⟨_, rfl, rfl⟩) (Nat.le_of_ble_eq_true rfl) rfl ?_
  refine im_iconst (q := 3) D448_2 ?_
  refine im_st1 (q := 5) (i := 4) (L' := [some (.ref 6952), some (vI p1), some (vL 0), none, some (vI 0)]) D448_3 (Or.inr rfl) (Nat.le_of_ble_eq_true rfl) rfl ?_
  exact hP.wk ⟨rfl, rfl, rfl, rfl, trivial⟩
set_option maxRecDepth 20000 in
set_option maxHeartbeats 4000000 in
theorem b_diskNumber_5 {g : im_g} {d : Nat} {e : im_E} {M : im_M} {K : im_K} {p1 p2 p4 : Int} (hP : (im_i32 p4) ∧ ((8 ≤ p4 → K (.inl (some (vL p2))) e M) ∧ (p4 < 8 → (0 ≤ (p1 + p4) ∧ (p1 + p4) < 16384) ∧ im_T g d 448 5 [some (.ref 6952), some (vI p1), some (vL (xlor (xlshl p2 8) (M 7080 (p1 + p4)))), none, some (vI (p4 + 1))] [] e M K))) : im_T g d 448 5 [some (.ref 6952), some (vI p1), some (vL p2), none, some (vI p4)] [] e M K := by
  refine im_ld (q := 7) (i := 4) D448_5 rfl rfl rfl ?_
  refine im_bipush (q := 9) D448_7 rfl ?_
  obtain ⟨hg1, hP⟩ := hP
  refine im_icmp (q := 12) (t := 34) D448_9 rfl hg1 (by decide) (fun hc2 => ?_) (fun hc2 => ?_)
  · replace hP := hP.1 hc2
    refine im_ld (q := 35) (i := 2) D448_34 rfl rfl rfl ?_
    exact im_lret (q := 36) D448_35 rfl hP
  · replace hP := hP.2 (Int.not_le.mp hc2)
    refine im_ld (q := 13) (i := 2) D448_12 rfl rfl rfl ?_
    refine im_bipush (q := 15) D448_13 rfl ?_
    refine im_lshl (q := 16) D448_15 ?_
    refine im_ld (q := 17) (i := 0) D448_16 rfl rfl rfl ?_
    refine im_gfR (q := 20) (b := 7080) D448_17 (im_fl cn_448 fl_12_396) sf_6952 rfl rfl tR_12_176 rf_6952_176 ?_
    refine im_ld (q := 21) (i := 1) D448_20 rfl rfl rfl ?_
    refine im_ld (q := 23) (i := 4) D448_21 rfl rfl rfl ?_
    refine im_iadd (q := 24) D448_23 ?_
    obtain ⟨hg3, hP⟩ := hP
    refine im_rng (j := (p1 + p4)) sf_7080 hg3.1 hg3.2 (fun hr4 => ?_)
    refine im_iald (q := 25) D448_24 sf_7080 hg3.1 hg3.2 (by decide) rfl ?_
    refine im_i2l (q := 26) D448_25 hr4 ?_
    refine im_lor (q := 27) D448_26 ?_
    refine im_st2 (q := 28) (i := 2) (L' := [some (.ref 6952), some (vI p1), some (vL (xlor (xlshl p2 8) (M 7080 (p1 + p4)))), none, some (vI p4)]) D448_27 (Or.inl ⟨_, rfl, rfl⟩) (Nat.le_of_ble_eq_true rfl) rfl ?_
    refine im_iinc (q := 31) (i := 4) (L' := [some (.ref 6952), some (vI p1), some (vL (xlor (xlshl p2 8) (M 7080 (p1 + p4)))), none, some (vI (p4 + 1))]) D448_28 rfl (Nat.le_of_ble_eq_true rfl) rfl ?_
    refine im_goto (q := 34) (t := 5) D448_31 rfl ?_
    exact hP.wk ⟨rfl, rfl, rfl, rfl, trivial⟩
set_option maxRecDepth 20000 in
set_option maxHeartbeats 4000000 in
theorem b_redo_0 {g : im_g} {d : Nat} {e : im_E} {M : im_M} {K : im_K} {p1 p2 p4 p6 : Int} (hd : 1 ≤ d) (hP : im_T g (d - 1) 450 0 [some (vL p2), none] [] e M (im_ri (fun x2 e_ M1 => e = e_ ∧ (im_i32 p1) ∧ ((p1 = 1 → im_T g (d - 1) 272 0 [some (.ref 6952), some (vI x2)] [] e M1 (im_ri (fun x5 e_ M4 => e = e_ ∧ (im_i32 x5) ∧ ((¬ x5 = 0 → K (.inl (some (vI 0))) e M4) ∧ (x5 = 0 → im_T g (d - 1) 312 0 [some (.ref 6952), some (vI x2)] [] e M4 (im_ri (fun x9 e_ M8 => e = e_ ∧ (im_i32 x9) ∧ ((x9 ≤ 0 → K (.inl (some (vI 0))) e M8) ∧ (0 < x9 → K (.inl (some (vI 1))) e M8))))))))) ∧ (p1 = 2 → (im_i32 x2) ∧ ((((¬ x2 = (-1) → (0 ≤ x2 ∧ x2 < 16) ∧ ((¬ (M1 6984 x2) = 0 → ((¬ 0 = 0 → ((∀ x37 : Int, (((¬ 0 = 0) ∧ x37 = 0) ∨ ((0 = 0) ∧ x37 = 1)) → K (.inl (some (vI x37))) e M1))) ∧ (0 = 0 → ((∀ x42 : Int, (((¬ 0 = 0) ∧ x42 = 0) ∨ ((0 = 0) ∧ x42 = 1)) → K (.inl (some (vI x42))) e (im_u M1 6984 x2 0)))))))))) ∧ ((((x2 = (-1))) ∨ ((¬ x2 = (-1)) ∧ ((M1 6984 x2) = 0))) → ((¬ (-101) = 0 → ((∀ x25 : Int, (((¬ (-101) = 0) ∧ x25 = 0) ∨ (((-101) = 0) ∧ x25 = 1)) → K (.inl (some (vI x25))) e M1))) ∧ ((-101) = 0 → (0 ≤ x2 ∧ x2 < 16) ∧ ((∀ x31 : Int, (((¬ (-101) = 0) ∧ x31 = 0) ∨ (((-101) = 0) ∧ x31 = 1)) → K (.inl (some (vI x31))) e (im_u M1 6984 x2 0)))))))) ∧ (p1 = 3 → im_T g (d - 1) 450 0 [some (vL p4), none] [] e M1 (im_ri (fun x48 e_ M47 => e = e_ ∧ im_T g (d - 1) 343 0 [some (.ref 6952), some (vI x2), some (vI x48), some (vL p6), none, none] [] e M47 (im_ri (fun x50 e_ M49 => e = e_ ∧ (im_i32 x50) ∧ ((¬ x50 = 0 → ((∀ x54 : Int, (((¬ x50 = 0) ∧ x54 = 0) ∨ ((x50 = 0) ∧ x54 = 1)) → K (.inl (some (vI x54))) e M49))) ∧ (x50 = 0 → im_T g (d - 1) 450 0 [some (vL p4), none] [] e M49 (im_ri (fun x59 e_ M58 => e = e_ ∧ im_T g (d - 1) 346 0 [some (.ref 6952), some (vI x2), some (vI x59), some (vL p6), none, none, none] [] e M58 (im_r0 (fun  e_ M60 => e = e_ ∧ ((∀ x62 : Int, (((¬ x50 = 0) ∧ x62 = 0) ∨ ((x50 = 0) ∧ x62 = 1)) → K (.inl (some (vI x62))) e M60))))))))))))) ∧ (p1 = 4 → (im_i32 x2) ∧ ((x2 = (-1) → ((¬ (-101) = 0 → ((∀ x75 : Int, (((¬ (-101) = 0) ∧ x75 = 0) ∨ (((-101) = 0) ∧ x75 = 1)) → K (.inl (some (vI x75))) e M1))) ∧ ((-101) = 0 → (0 ≤ x2 ∧ x2 < 16) ∧ ((∀ x81 : Int, (((¬ (-101) = 0) ∧ x81 = 0) ∨ (((-101) = 0) ∧ x81 = 1)) → K (.inl (some (vI x81))) e (im_u M1 6994 x2 0)))))) ∧ (¬ x2 = (-1) → im_T g (d - 1) 348 0 [some (.ref 6952), some (vI x2)] [] e M1 (im_ri (fun x86 e_ M85 => e = e_ ∧ (im_i32 x86) ∧ ((x86 = 0 → ((¬ (-101) = 0 → ((∀ x91 : Int, (((¬ (-101) = 0) ∧ x91 = 0) ∨ (((-101) = 0) ∧ x91 = 1)) → K (.inl (some (vI x91))) e M85))) ∧ ((-101) = 0 → (0 ≤ x2 ∧ x2 < 16) ∧ ((∀ x97 : Int, (((¬ (-101) = 0) ∧ x97 = 0) ∨ (((-101) = 0) ∧ x97 = 1)) → K (.inl (some (vI x97))) e (im_u M85 6994 x2 0)))))) ∧ (¬ x86 = 0 → ((¬ 0 = 0 → ((∀ x103 : Int, (((¬ 0 = 0) ∧ x103 = 0) ∨ ((0 = 0) ∧ x103 = 1)) → K (.inl (some (vI x103))) e M85))) ∧ (0 = 0 → (0 ≤ x2 ∧ x2 < 16) ∧ ((∀ x109 : Int, (((¬ 0 = 0) ∧ x109 = 0) ∨ ((0 = 0) ∧ x109 = 1)) → K (.inl (some (vI x109))) e (im_u M85 6994 x2 0)))))))))))) ∧ (p1 = 5 → im_T g (d - 1) 422 0 [some (.ref 6952), some (vL p2), none, some (vL p4), none, none, none, none, none] [] e M1 (im_ri (fun x116 e_ M115 => e = e_ ∧ (im_i32 x116) ∧ ((¬ x116 = 0 → K (.inl (some (vI 0))) e M115) ∧ (x116 = 0 → im_T g (d - 1) 424 0 [some (.ref 6952), some (vL p2), none, some (vL p4), none, none, none] [] e M115 (im_ri (fun x120 e_ M119 => e = e_ ∧ (im_i32 x120) ∧ ((¬ x120 = 0 → K (.inl (some (vI 0))) e M119) ∧ (x120 = 0 → K (.inl (some (vI 1))) e M119))))))))) ∧ (p1 = 6 → im_T g (d - 1) 357 0 [some (.ref 6952), some (vI x2), some (vL p4), none, some (vL p6), none] [] e M1 (im_ri (fun x127 e_ M126 => e = e_ ∧ (im_i32 x127) ∧ ((¬ x127 = 0 → K (.inl (some (vI 0))) e M126) ∧ (x127 = 0 → im_T g (d - 1) 413 0 [some (.ref 6952), some (vI x2)] [] e M126 (im_ri (fun x131 e_ M130 => e = e_ ∧ (im_i32 x131) ∧ ((¬ x131 = 0 → K (.inl (some (vI 0))) e M130) ∧ (x131 = 0 → K (.inl (some (vI 1))) e M130))))))))) ∧ (p1 = 7 → im_T g (d - 1) 334 0 [some (.ref 6952), some (vL p2), none] [] e M1 (im_ri (fun x138 e_ M137 => e = e_ ∧ (im_i32 x138) ∧ ((¬ x138 = 0 → K (.inl (some (vI 0))) e M137) ∧ (x138 = 0 → im_T g (d - 1) 338 0 [some (.ref 6952), some (vL p2), none, none, none] [] e M137 (im_ri (fun x142 e_ M141 => e = e_ ∧ (im_i32 x142) ∧ ((x142 ≤ 0 → K (.inl (some (vI 0))) e M141) ∧ (0 < x142 → K (.inl (some (vI 1))) e M141))))))))) ∧ (p1 < 1 ∨ 7 < p1 → K (.inl (some (vI 1))) e (im_u M1 6952 62 0)))))) : im_T g d 449 0 [some (.ref 6952), some (vI p1), some (vL p2), none, some (vL p4), none, some (vL p6), none, none, none] [] e M K := by
  refine im_ld (q := 1) (i := 2) D449_0 rfl rfl rfl ?_
  refine im_callS (q := 4) (kd := 0) (y := 450) (n := 1) (z := 12) (vs := [vL p2]) (r := []) (L2 := [some (vL p2), none]) D449_1 rfl (im_cal cn_449 cl_12_1162) (Or.inl rfl) rfl rfl rfl rfl rfl hd ⟨rfl, trivial⟩ ?_
  refine hP.mono ?_
  rintro _ e149 M1 ⟨x2, rfl, rfl, hP⟩
  refine im_bkS ?_
  refine im_st1 (q := 6) (i := 8) (L' := [some (.ref 6952), some (vI p1), some (vL p2), none, some (vL p4), none, some (vL p6), none, some (vI x2), none]) D449_4 (Or.inr rfl) (Nat.le_of_ble_eq_true rfl) rfl ?_
  refine im_iconst (q := 7) D449_6 ?_
  refine im_st1 (q := 9) (i := 9) (L' := [some (.ref 6952), some (vI p1), some (vL p2), none, some (vL p4), none, some (vL p6), none, some (vI x2), some (vI 0)]) D449_7 (Or.inr rfl) (Nat.le_of_ble_eq_true rfl) rfl ?_
  refine im_ld (q := 10) (i := 1) D449_9 rfl rfl rfl ?_
  obtain ⟨hg3, hP⟩ := hP
  by_cases hc14 : p1 = 1
  · refine im_tsw (q := 11) (t := 52) D449_10 hg3 (fun _ => by rcases hc14 with hc14 <;> (rw [hc14]; rfl)) (by rcases hc14 with hc14 <;> (rw [hc14]; rfl)) ?_
    replace hP := hP.1 hc14
    refine im_ld (q := 53) (i := 0) D449_52 rfl rfl rfl ?_
    refine im_ld (q := 55) (i := 8) D449_53 rfl rfl rfl ?_
    refine im_callV (q := 58) (kd := 1) (y := 272) (n := 1) (ci := 12) (a := 6952) (vs := [.ref 6952, vI x2]) (r := []) (L2 := [some (.ref 6952), some (vI x2)]) D449_55 (im_cal cn_449 cl_12_737) (Or.inl rfl) rfl sf_6952 rfl rfl rfl rfl hd ⟨rfl, rfl, trivial⟩ ?_
    refine hP.mono ?_
    rintro _ e13 M4 ⟨x5, rfl, rfl, hP⟩
    refine im_bkS ?_
    refine im_st1 (q := 60) (i := 9) (L' := [some (.ref 6952), some (vI p1), some (vL p2), none, some (vL p4), none, some (vL p6), none, some (vI x2), some (vI x5)]) D449_58 (Or.inr rfl) (Nat.le_of_ble_eq_true rfl) rfl ?_
    refine im_ld (q := 62) (i := 9) D449_60 rfl rfl rfl ?_
    obtain ⟨hg6, hP⟩ := hP
    refine im_ifc (q := 65) (t := 78) D449_62 rfl hg6 (fun hc7 => ?_) (fun hc7 => ?_)
    · replace hP := hP.1 hc7
      refine im_iconst (q := 79) D449_78 ?_
      exact im_zret (q := 80) D449_79 rfl (by decide) hP
    · replace hP := hP.2 (Decidable.not_not.mp hc7)
      refine im_ld (q := 66) (i := 0) D449_65 rfl rfl rfl ?_
      refine im_ld (q := 68) (i := 8) D449_66 rfl rfl rfl ?_
      refine im_callV (q := 71) (kd := 1) (y := 312) (n := 1) (ci := 12) (a := 6952) (vs := [.ref 6952, vI x2]) (r := []) (L2 := [some (.ref 6952), some (vI x2)]) D449_68 (im_cal cn_449 cl_12_744) (Or.inl rfl) rfl sf_6952 rfl rfl rfl rfl hd ⟨rfl, rfl, trivial⟩ ?_
      refine hP.mono ?_
      rintro _ e12 M8 ⟨x9, rfl, rfl, hP⟩
      refine im_bkS ?_
      obtain ⟨hg10, hP⟩ := hP
      refine im_ifc (q := 74) (t := 78) D449_71 rfl hg10 (fun hc11 => ?_) (fun hc11 => ?_)
      · replace hP := hP.1 hc11
        refine im_iconst (q := 79) D449_78 ?_
        exact im_zret (q := 80) D449_79 rfl (by decide) hP
      · replace hP := hP.2 (Int.not_le.mp hc11)
        refine im_iconst (q := 75) D449_74 ?_
        refine im_goto (q := 78) (t := 79) D449_75 rfl ?_
        exact im_zret (q := 80) D449_79 rfl (by decide) hP
  by_cases hc46 : p1 = 2
  · refine im_tsw (q := 11) (t := 80) D449_10 hg3 (fun _ => by rcases hc46 with hc46 <;> (rw [hc46]; rfl)) (by rcases hc46 with hc46 <;> (rw [hc46]; rfl)) ?_
    replace hP := hP.2.1 hc46
    refine im_ld (q := 82) (i := 8) D449_80 rfl rfl rfl ?_
    refine im_iconst (q := 83) D449_82 ?_
    obtain ⟨hg15, hP⟩ := hP
    obtain ⟨hP, hJ20⟩ := hP
    have kJ21 : (((x2 = (-1))) ∨ ((¬ x2 = (-1)) ∧ ((M1 6984 x2) = 0))) → im_T g d 449 100 [some (.ref 6952), none, none, none, none, none, none, none, some (vI x2), none] [] e M1 K := by
      intro  hx22
      have hP := hJ20  hx22
      refine im_bipush (q := 102) D449_100 rfl ?_
      refine im_st1 (q := 104) (i := 9) (L' := [some (.ref 6952), none, none, none, none, none, none, none, some (vI x2), some (vI (-101))]) D449_102 (Or.inr rfl) (Nat.le_of_ble_eq_true rfl) rfl ?_
      refine im_ld (q := 106) (i := 9) D449_104 rfl rfl rfl ?_
      refine im_ifc (q := 109) (t := 117) D449_106 rfl (by decide) (fun hc23 => ?_) (fun hc23 => ?_)
      · replace hP := hP.1 hc23
        refine im_ld (q := 119) (i := 9) D449_117 rfl rfl rfl ?_
        have hJ26 := hP
        have kJ27 : ∀ x25 : Int, (((¬ (-101) = 0) ∧ x25 = 0) ∨ (((-101) = 0) ∧ x25 = 1)) → im_T g d 449 127 [none, none, none, none, none, none, none, none, none, none] [vI x25] e M1 K := by
          intro x25 hx28
          have hP := hJ26 x25 hx28
          exact im_zret (q := 128) D449_127 rfl (by omega) hP
        refine im_ifc (q := 122) (t := 126) D449_119 rfl (by decide) (fun hc24 => ?_) (fun hc24 => ?_)
        · refine im_iconst (q := 127) D449_126 ?_
          exact (kJ27 (0) (Or.inl ⟨hc24, rfl⟩)).wk trivial
        · refine im_iconst (q := 123) D449_122 ?_
          refine im_goto (q := 126) (t := 127) D449_123 rfl ?_
          exact (kJ27 (1) (Or.inr ⟨(Decidable.not_not.mp hc24), rfl⟩)).wk trivial
      · replace hP := hP.2 (Decidable.not_not.mp hc23)
        refine im_ld (q := 110) (i := 0) D449_109 rfl rfl rfl ?_
        refine im_gfR (q := 113) (b := 6984) D449_110 (im_fl cn_449 fl_12_106) sf_6952 rfl rfl tR_12_52 rf_6952_52 ?_
        refine im_ld (q := 115) (i := 8) D449_113 rfl rfl rfl ?_
        refine im_iconst (q := 116) D449_115 ?_
        obtain ⟨hg29, hP⟩ := hP
        refine im_zast (q := 117) D449_116 sf_6984 hg29.1 hg29.2 (by decide) (by decide) ?_
        refine im_ld (q := 119) (i := 9) D449_117 rfl rfl rfl ?_
        have hJ32 := hP
        have kJ33 : ∀ x31 : Int, (((¬ (-101) = 0) ∧ x31 = 0) ∨ (((-101) = 0) ∧ x31 = 1)) → im_T g d 449 127 [none, none, none, none, none, none, none, none, none, none] [vI x31] e (im_u M1 6984 x2 0) K := by
          intro x31 hx34
          have hP := hJ32 x31 hx34
          exact im_zret (q := 128) D449_127 rfl (by omega) hP
        refine im_ifc (q := 122) (t := 126) D449_119 rfl (by decide) (fun hc30 => ?_) (fun hc30 => ?_)
        · refine im_iconst (q := 127) D449_126 ?_
          exact (kJ33 (0) (Or.inl ⟨hc30, rfl⟩)).wk trivial
        · refine im_iconst (q := 123) D449_122 ?_
          refine im_goto (q := 126) (t := 127) D449_123 rfl ?_
          exact (kJ33 (1) (Or.inr ⟨(Decidable.not_not.mp hc30), rfl⟩)).wk trivial
    refine im_icmp (q := 86) (t := 100) D449_83 rfl hg15 (by decide) (fun hc16 => ?_) (fun hc16 => ?_)
    · exact (kJ21  (Or.inl hc16)).wk ⟨rfl, rfl, trivial⟩
    · replace hP := hP hc16
      refine im_ld (q := 87) (i := 0) D449_86 rfl rfl rfl ?_
      refine im_gfR (q := 90) (b := 6984) D449_87 (im_fl cn_449 fl_12_106) sf_6952 rfl rfl tR_12_52 rf_6952_52 ?_
      refine im_ld (q := 92) (i := 8) D449_90 rfl rfl rfl ?_
      obtain ⟨hg17, hP⟩ := hP
      refine im_rng (j := x2) sf_6984 hg17.1 hg17.2 (fun hr18 => ?_)
      refine im_bald (q := 93) D449_92 sf_6984 (Or.inr rfl) hg17.1 hg17.2 (by decide) rfl ?_
      refine im_ifc (q := 96) (t := 100) D449_93 rfl (im_z32 hr18) (fun hc19 => ?_) (fun hc19 => ?_)
      · exact (kJ21  (Or.inr ⟨hc16, hc19⟩)).wk ⟨rfl, rfl, trivial⟩
      · replace hP := hP hc19
        refine im_iconst (q := 97) D449_96 ?_
        refine im_goto (q := 100) (t := 102) D449_97 rfl ?_
        refine im_st1 (q := 104) (i := 9) (L' := [some (.ref 6952), some (vI p1), some (vL p2), none, some (vL p4), none, some (vL p6), none, some (vI x2), some (vI 0)]) D449_102 (Or.inr rfl) (Nat.le_of_ble_eq_true rfl) rfl ?_
        refine im_ld (q := 106) (i := 9) D449_104 rfl rfl rfl ?_
        refine im_ifc (q := 109) (t := 117) D449_106 rfl (by decide) (fun hc35 => ?_) (fun hc35 => ?_)
        · replace hP := hP.1 hc35
          refine im_ld (q := 119) (i := 9) D449_117 rfl rfl rfl ?_
          have hJ38 := hP
          have kJ39 : ∀ x37 : Int, (((¬ 0 = 0) ∧ x37 = 0) ∨ ((0 = 0) ∧ x37 = 1)) → im_T g d 449 127 [none, none, none, none, none, none, none, none, none, none] [vI x37] e M1 K := by
            intro x37 hx40
            have hP := hJ38 x37 hx40
            exact im_zret (q := 128) D449_127 rfl (by omega) hP
          refine im_ifc (q := 122) (t := 126) D449_119 rfl (by decide) (fun hc36 => ?_) (fun hc36 => ?_)
          · refine im_iconst (q := 127) D449_126 ?_
            exact (kJ39 (0) (Or.inl ⟨hc36, rfl⟩)).wk trivial
          · refine im_iconst (q := 123) D449_122 ?_
            refine im_goto (q := 126) (t := 127) D449_123 rfl ?_
            exact (kJ39 (1) (Or.inr ⟨(Decidable.not_not.mp hc36), rfl⟩)).wk trivial
        · replace hP := hP.2 (Decidable.not_not.mp hc35)
          refine im_ld (q := 110) (i := 0) D449_109 rfl rfl rfl ?_
          refine im_gfR (q := 113) (b := 6984) D449_110 (im_fl cn_449 fl_12_106) sf_6952 rfl rfl tR_12_52 rf_6952_52 ?_
          refine im_ld (q := 115) (i := 8) D449_113 rfl rfl rfl ?_
          refine im_iconst (q := 116) D449_115 ?_
          refine im_zast (q := 117) D449_116 sf_6984 hg17.1 hg17.2 (by decide) (by decide) ?_
          refine im_ld (q := 119) (i := 9) D449_117 rfl rfl rfl ?_
          have hJ43 := hP
          have kJ44 : ∀ x42 : Int, (((¬ 0 = 0) ∧ x42 = 0) ∨ ((0 = 0) ∧ x42 = 1)) → im_T g d 449 127 [none, none, none, none, none, none, none, none, none, none] [vI x42] e (im_u M1 6984 x2 0) K := by
            intro x42 hx45
            have hP := hJ43 x42 hx45
            exact im_zret (q := 128) D449_127 rfl (by omega) hP
          refine im_ifc (q := 122) (t := 126) D449_119 rfl (by decide) (fun hc41 => ?_) (fun hc41 => ?_)
          · refine im_iconst (q := 127) D449_126 ?_
            exact (kJ44 (0) (Or.inl ⟨hc41, rfl⟩)).wk trivial
          · refine im_iconst (q := 123) D449_122 ?_
            refine im_goto (q := 126) (t := 127) D449_123 rfl ?_
            exact (kJ44 (1) (Or.inr ⟨(Decidable.not_not.mp hc41), rfl⟩)).wk trivial
  by_cases hc70 : p1 = 3
  · refine im_tsw (q := 11) (t := 128) D449_10 hg3 (fun _ => by rcases hc70 with hc70 <;> (rw [hc70]; rfl)) (by rcases hc70 with hc70 <;> (rw [hc70]; rfl)) ?_
    replace hP := hP.2.2.1 hc70
    refine im_ld (q := 129) (i := 0) D449_128 rfl rfl rfl ?_
    refine im_ld (q := 131) (i := 8) D449_129 rfl rfl rfl ?_
    refine im_ld (q := 133) (i := 4) D449_131 rfl rfl rfl ?_
    refine im_callS (q := 136) (kd := 0) (y := 450) (n := 1) (z := 12) (vs := [vL p4]) (r := [vI x2, .ref 6952]) (L2 := [some (vL p4), none]) D449_133 rfl (im_cal cn_449 cl_12_1162) (Or.inl rfl) rfl rfl rfl rfl rfl hd ⟨rfl, trivial⟩ ?_
    refine hP.mono ?_
    rintro _ e69 M47 ⟨x48, rfl, rfl, hP⟩
    refine im_bkS ?_
    refine im_ld (q := 138) (i := 6) D449_136 rfl rfl rfl ?_
    refine im_callV (q := 141) (kd := 1) (y := 343) (n := 3) (ci := 12) (a := 6952) (vs := [.ref 6952, vI x2, vI x48, vL p6]) (r := []) (L2 := [some (.ref 6952), some (vI x2), some (vI x48), some (vL p6), none, none]) D449_138 (im_cal cn_449 cl_12_832) (Or.inl rfl) rfl sf_6952 rfl rfl rfl rfl hd ⟨rfl, rfl, rfl, rfl, trivial⟩ ?_
    refine hP.mono ?_
    rintro _ e68 M49 ⟨x50, rfl, rfl, hP⟩
    refine im_bkS ?_
    refine im_st1 (q := 143) (i := 9) (L' := [some (.ref 6952), some (vI p1), some (vL p2), none, some (vL p4), none, some (vL p6), none, some (vI x2), some (vI x50)]) D449_141 (Or.inr rfl) (Nat.le_of_ble_eq_true rfl) rfl ?_
    refine im_ld (q := 145) (i := 9) D449_143 rfl rfl rfl ?_
    obtain ⟨hg51, hP⟩ := hP
    refine im_ifc (q := 148) (t := 161) D449_145 rfl hg51 (fun hc52 => ?_) (fun hc52 => ?_)
    · replace hP := hP.1 hc52
      refine im_ld (q := 163) (i := 9) D449_161 rfl rfl rfl ?_
      have hJ55 := hP
      have kJ56 : ∀ x54 : Int, (((¬ x50 = 0) ∧ x54 = 0) ∨ ((x50 = 0) ∧ x54 = 1)) → im_T g d 449 171 [none, none, none, none, none, none, none, none, none, none] [vI x54] e M49 K := by
        intro x54 hx57
        have hP := hJ55 x54 hx57
        exact im_zret (q := 172) D449_171 rfl (by omega) hP
      refine im_ifc (q := 166) (t := 170) D449_163 rfl hg51 (fun hc53 => ?_) (fun hc53 => ?_)
      · refine im_iconst (q := 171) D449_170 ?_
        exact (kJ56 (0) (Or.inl ⟨hc53, rfl⟩)).wk trivial
      · refine im_iconst (q := 167) D449_166 ?_
        refine im_goto (q := 170) (t := 171) D449_167 rfl ?_
        exact (kJ56 (1) (Or.inr ⟨(Decidable.not_not.mp hc53), rfl⟩)).wk trivial
    · replace hP := hP.2 (Decidable.not_not.mp hc52)
      refine im_ld (q := 149) (i := 0) D449_148 rfl rfl rfl ?_
      refine im_ld (q := 151) (i := 8) D449_149 rfl rfl rfl ?_
      refine im_ld (q := 153) (i := 4) D449_151 rfl rfl rfl ?_
      refine im_callS (q := 156) (kd := 0) (y := 450) (n := 1) (z := 12) (vs := [vL p4]) (r := [vI x2, .ref 6952]) (L2 := [some (vL p4), none]) D449_153 rfl (im_cal cn_449 cl_12_1162) (Or.inl rfl) rfl rfl rfl rfl rfl hd ⟨rfl, trivial⟩ ?_
      refine hP.mono ?_
      rintro _ e67 M58 ⟨x59, rfl, rfl, hP⟩
      refine im_bkS ?_
      refine im_ld (q := 158) (i := 6) D449_156 rfl rfl rfl ?_
      refine im_callV (q := 161) (kd := 1) (y := 346) (n := 3) (ci := 12) (a := 6952) (vs := [.ref 6952, vI x2, vI x59, vL p6]) (r := []) (L2 := [some (.ref 6952), some (vI x2), some (vI x59), some (vL p6), none, none, none]) D449_158 (im_cal cn_449 cl_12_836) (Or.inl rfl) rfl sf_6952 rfl rfl rfl rfl hd ⟨rfl, rfl, rfl, rfl, trivial⟩ ?_
      refine hP.mono ?_
      rintro _ e66 M60 ⟨rfl, rfl, hP⟩
      refine im_bkN ?_
      refine im_ld (q := 163) (i := 9) D449_161 rfl rfl rfl ?_
      have hJ63 := hP
      have kJ64 : ∀ x62 : Int, (((¬ x50 = 0) ∧ x62 = 0) ∨ ((x50 = 0) ∧ x62 = 1)) → im_T g d 449 171 [none, none, none, none, none, none, none, none, none, none] [vI x62] e M60 K := by
        intro x62 hx65
        have hP := hJ63 x62 hx65
        exact im_zret (q := 172) D449_171 rfl (by omega) hP
      refine im_ifc (q := 166) (t := 170) D449_163 rfl hg51 (fun hc61 => ?_) (fun hc61 => ?_)
      · refine im_iconst (q := 171) D449_170 ?_
        exact (kJ64 (0) (Or.inl ⟨hc61, rfl⟩)).wk trivial
      · refine im_iconst (q := 167) D449_166 ?_
        refine im_goto (q := 170) (t := 171) D449_167 rfl ?_
        exact (kJ64 (1) (Or.inr ⟨(Decidable.not_not.mp hc61), rfl⟩)).wk trivial
  by_cases hc114 : p1 = 4
  · refine im_tsw (q := 11) (t := 172) D449_10 hg3 (fun _ => by rcases hc114 with hc114 <;> (rw [hc114]; rfl)) (by rcases hc114 with hc114 <;> (rw [hc114]; rfl)) ?_
    replace hP := hP.2.2.2.1 hc114
    refine im_ld (q := 174) (i := 8) D449_172 rfl rfl rfl ?_
    refine im_iconst (q := 175) D449_174 ?_
    obtain ⟨hg71, hP⟩ := hP
    refine im_icmp (q := 178) (t := 191) D449_175 rfl hg71 (by decide) (fun hc72 => ?_) (fun hc72 => ?_)
    · replace hP := hP.1 hc72
      refine im_bipush (q := 193) D449_191 rfl ?_
      refine im_st1 (q := 195) (i := 9) (L' := [some (.ref 6952), some (vI p1), some (vL p2), none, some (vL p4), none, some (vL p6), none, some (vI x2), some (vI (-101))]) D449_193 (Or.inr rfl) (Nat.le_of_ble_eq_true rfl) rfl ?_
      refine im_ld (q := 197) (i := 9) D449_195 rfl rfl rfl ?_
      refine im_ifc (q := 200) (t := 208) D449_197 rfl (by decide) (fun hc73 => ?_) (fun hc73 => ?_)
      · replace hP := hP.1 hc73
        refine im_ld (q := 210) (i := 9) D449_208 rfl rfl rfl ?_
        have hJ76 := hP
        have kJ77 : ∀ x75 : Int, (((¬ (-101) = 0) ∧ x75 = 0) ∨ (((-101) = 0) ∧ x75 = 1)) → im_T g d 449 218 [none, none, none, none, none, none, none, none, none, none] [vI x75] e M1 K := by
          intro x75 hx78
          have hP := hJ76 x75 hx78
          exact im_zret (q := 219) D449_218 rfl (by omega) hP
        refine im_ifc (q := 213) (t := 217) D449_210 rfl (by decide) (fun hc74 => ?_) (fun hc74 => ?_)
        · refine im_iconst (q := 218) D449_217 ?_
          exact (kJ77 (0) (Or.inl ⟨hc74, rfl⟩)).wk trivial
        · refine im_iconst (q := 214) D449_213 ?_
          refine im_goto (q := 217) (t := 218) D449_214 rfl ?_
          exact (kJ77 (1) (Or.inr ⟨(Decidable.not_not.mp hc74), rfl⟩)).wk trivial
      · replace hP := hP.2 (Decidable.not_not.mp hc73)
        refine im_ld (q := 201) (i := 0) D449_200 rfl rfl rfl ?_
        refine im_gfR (q := 204) (b := 6994) D449_201 (im_fl cn_449 fl_12_136) sf_6952 rfl rfl tR_12_66 rf_6952_66 ?_
        refine im_ld (q := 206) (i := 8) D449_204 rfl rfl rfl ?_
        refine im_iconst (q := 207) D449_206 ?_
        obtain ⟨hg79, hP⟩ := hP
        refine im_zast (q := 208) D449_207 sf_6994 hg79.1 hg79.2 (by decide) (by decide) ?_
        refine im_ld (q := 210) (i := 9) D449_208 rfl rfl rfl ?_
        have hJ82 := hP
        have kJ83 : ∀ x81 : Int, (((¬ (-101) = 0) ∧ x81 = 0) ∨ (((-101) = 0) ∧ x81 = 1)) → im_T g d 449 218 [none, none, none, none, none, none, none, none, none, none] [vI x81] e (im_u M1 6994 x2 0) K := by
          intro x81 hx84
          have hP := hJ82 x81 hx84
          exact im_zret (q := 219) D449_218 rfl (by omega) hP
        refine im_ifc (q := 213) (t := 217) D449_210 rfl (by decide) (fun hc80 => ?_) (fun hc80 => ?_)
        · refine im_iconst (q := 218) D449_217 ?_
          exact (kJ83 (0) (Or.inl ⟨hc80, rfl⟩)).wk trivial
        · refine im_iconst (q := 214) D449_213 ?_
          refine im_goto (q := 217) (t := 218) D449_214 rfl ?_
          exact (kJ83 (1) (Or.inr ⟨(Decidable.not_not.mp hc80), rfl⟩)).wk trivial
    · replace hP := hP.2 hc72
      refine im_ld (q := 179) (i := 0) D449_178 rfl rfl rfl ?_
      refine im_ld (q := 181) (i := 8) D449_179 rfl rfl rfl ?_
      refine im_callV (q := 184) (kd := 1) (y := 348) (n := 1) (ci := 12) (a := 6952) (vs := [.ref 6952, vI x2]) (r := []) (L2 := [some (.ref 6952), some (vI x2)]) D449_181 (im_cal cn_449 cl_12_843) (Or.inl rfl) rfl sf_6952 rfl rfl rfl rfl hd ⟨rfl, rfl, trivial⟩ ?_
      refine hP.mono ?_
      rintro _ e113 M85 ⟨x86, rfl, rfl, hP⟩
      refine im_bkS ?_
      obtain ⟨hg87, hP⟩ := hP
      refine im_ifc (q := 187) (t := 191) D449_184 rfl hg87 (fun hc88 => ?_) (fun hc88 => ?_)
      · replace hP := hP.1 hc88
        refine im_bipush (q := 193) D449_191 rfl ?_
        refine im_st1 (q := 195) (i := 9) (L' := [some (.ref 6952), some (vI p1), some (vL p2), none, some (vL p4), none, some (vL p6), none, some (vI x2), some (vI (-101))]) D449_193 (Or.inr rfl) (Nat.le_of_ble_eq_true rfl) rfl ?_
        refine im_ld (q := 197) (i := 9) D449_195 rfl rfl rfl ?_
        refine im_ifc (q := 200) (t := 208) D449_197 rfl (by decide) (fun hc89 => ?_) (fun hc89 => ?_)
        · replace hP := hP.1 hc89
          refine im_ld (q := 210) (i := 9) D449_208 rfl rfl rfl ?_
          have hJ92 := hP
          have kJ93 : ∀ x91 : Int, (((¬ (-101) = 0) ∧ x91 = 0) ∨ (((-101) = 0) ∧ x91 = 1)) → im_T g d 449 218 [none, none, none, none, none, none, none, none, none, none] [vI x91] e M85 K := by
            intro x91 hx94
            have hP := hJ92 x91 hx94
            exact im_zret (q := 219) D449_218 rfl (by omega) hP
          refine im_ifc (q := 213) (t := 217) D449_210 rfl (by decide) (fun hc90 => ?_) (fun hc90 => ?_)
          · refine im_iconst (q := 218) D449_217 ?_
            exact (kJ93 (0) (Or.inl ⟨hc90, rfl⟩)).wk trivial
          · refine im_iconst (q := 214) D449_213 ?_
            refine im_goto (q := 217) (t := 218) D449_214 rfl ?_
            exact (kJ93 (1) (Or.inr ⟨(Decidable.not_not.mp hc90), rfl⟩)).wk trivial
        · replace hP := hP.2 (Decidable.not_not.mp hc89)
          refine im_ld (q := 201) (i := 0) D449_200 rfl rfl rfl ?_
          refine im_gfR (q := 204) (b := 6994) D449_201 (im_fl cn_449 fl_12_136) sf_6952 rfl rfl tR_12_66 rf_6952_66 ?_
          refine im_ld (q := 206) (i := 8) D449_204 rfl rfl rfl ?_
          refine im_iconst (q := 207) D449_206 ?_
          obtain ⟨hg95, hP⟩ := hP
          refine im_zast (q := 208) D449_207 sf_6994 hg95.1 hg95.2 (by decide) (by decide) ?_
          refine im_ld (q := 210) (i := 9) D449_208 rfl rfl rfl ?_
          have hJ98 := hP
          have kJ99 : ∀ x97 : Int, (((¬ (-101) = 0) ∧ x97 = 0) ∨ (((-101) = 0) ∧ x97 = 1)) → im_T g d 449 218 [none, none, none, none, none, none, none, none, none, none] [vI x97] e (im_u M85 6994 x2 0) K := by
            intro x97 hx100
            have hP := hJ98 x97 hx100
            exact im_zret (q := 219) D449_218 rfl (by omega) hP
          refine im_ifc (q := 213) (t := 217) D449_210 rfl (by decide) (fun hc96 => ?_) (fun hc96 => ?_)
          · refine im_iconst (q := 218) D449_217 ?_
            exact (kJ99 (0) (Or.inl ⟨hc96, rfl⟩)).wk trivial
          · refine im_iconst (q := 214) D449_213 ?_
            refine im_goto (q := 217) (t := 218) D449_214 rfl ?_
            exact (kJ99 (1) (Or.inr ⟨(Decidable.not_not.mp hc96), rfl⟩)).wk trivial
      · replace hP := hP.2 hc88
        refine im_iconst (q := 188) D449_187 ?_
        refine im_goto (q := 191) (t := 193) D449_188 rfl ?_
        refine im_st1 (q := 195) (i := 9) (L' := [some (.ref 6952), some (vI p1), some (vL p2), none, some (vL p4), none, some (vL p6), none, some (vI x2), some (vI 0)]) D449_193 (Or.inr rfl) (Nat.le_of_ble_eq_true rfl) rfl ?_
        refine im_ld (q := 197) (i := 9) D449_195 rfl rfl rfl ?_
        refine im_ifc (q := 200) (t := 208) D449_197 rfl (by decide) (fun hc101 => ?_) (fun hc101 => ?_)
        · replace hP := hP.1 hc101
          refine im_ld (q := 210) (i := 9) D449_208 rfl rfl rfl ?_
          have hJ104 := hP
          have kJ105 : ∀ x103 : Int, (((¬ 0 = 0) ∧ x103 = 0) ∨ ((0 = 0) ∧ x103 = 1)) → im_T g d 449 218 [none, none, none, none, none, none, none, none, none, none] [vI x103] e M85 K := by
            intro x103 hx106
            have hP := hJ104 x103 hx106
            exact im_zret (q := 219) D449_218 rfl (by omega) hP
          refine im_ifc (q := 213) (t := 217) D449_210 rfl (by decide) (fun hc102 => ?_) (fun hc102 => ?_)
          · refine im_iconst (q := 218) D449_217 ?_
            exact (kJ105 (0) (Or.inl ⟨hc102, rfl⟩)).wk trivial
          · refine im_iconst (q := 214) D449_213 ?_
            refine im_goto (q := 217) (t := 218) D449_214 rfl ?_
            exact (kJ105 (1) (Or.inr ⟨(Decidable.not_not.mp hc102), rfl⟩)).wk trivial
        · replace hP := hP.2 (Decidable.not_not.mp hc101)
          refine im_ld (q := 201) (i := 0) D449_200 rfl rfl rfl ?_
          refine im_gfR (q := 204) (b := 6994) D449_201 (im_fl cn_449 fl_12_136) sf_6952 rfl rfl tR_12_66 rf_6952_66 ?_
          refine im_ld (q := 206) (i := 8) D449_204 rfl rfl rfl ?_
          refine im_iconst (q := 207) D449_206 ?_
          obtain ⟨hg107, hP⟩ := hP
          refine im_zast (q := 208) D449_207 sf_6994 hg107.1 hg107.2 (by decide) (by decide) ?_
          refine im_ld (q := 210) (i := 9) D449_208 rfl rfl rfl ?_
          have hJ110 := hP
          have kJ111 : ∀ x109 : Int, (((¬ 0 = 0) ∧ x109 = 0) ∨ ((0 = 0) ∧ x109 = 1)) → im_T g d 449 218 [none, none, none, none, none, none, none, none, none, none] [vI x109] e (im_u M85 6994 x2 0) K := by
            intro x109 hx112
            have hP := hJ110 x109 hx112
            exact im_zret (q := 219) D449_218 rfl (by omega) hP
          refine im_ifc (q := 213) (t := 217) D449_210 rfl (by decide) (fun hc108 => ?_) (fun hc108 => ?_)
          · refine im_iconst (q := 218) D449_217 ?_
            exact (kJ111 (0) (Or.inl ⟨hc108, rfl⟩)).wk trivial
          · refine im_iconst (q := 214) D449_213 ?_
            refine im_goto (q := 217) (t := 218) D449_214 rfl ?_
            exact (kJ111 (1) (Or.inr ⟨(Decidable.not_not.mp hc108), rfl⟩)).wk trivial
  by_cases hc125 : p1 = 5
  · refine im_tsw (q := 11) (t := 219) D449_10 hg3 (fun _ => by rcases hc125 with hc125 <;> (rw [hc125]; rfl)) (by rcases hc125 with hc125 <;> (rw [hc125]; rfl)) ?_
    replace hP := hP.2.2.2.2.1 hc125
    refine im_ld (q := 220) (i := 0) D449_219 rfl rfl rfl ?_
    refine im_ld (q := 221) (i := 2) D449_220 rfl rfl rfl ?_
    refine im_ld (q := 223) (i := 4) D449_221 rfl rfl rfl ?_
    refine im_callV (q := 226) (kd := 1) (y := 422) (n := 2) (ci := 12) (a := 6952) (vs := [.ref 6952, vL p2, vL p4]) (r := []) (L2 := [some (.ref 6952), some (vL p2), none, some (vL p4), none, none, none, none, none]) D449_223 (im_cal cn_449 cl_12_1083) (Or.inl rfl) rfl sf_6952 rfl rfl rfl rfl hd ⟨rfl, rfl, rfl, trivial⟩ ?_
    refine hP.mono ?_
    rintro _ e124 M115 ⟨x116, rfl, rfl, hP⟩
    refine im_bkS ?_
    refine im_st1 (q := 228) (i := 9) (L' := [some (.ref 6952), some (vI p1), some (vL p2), none, some (vL p4), none, some (vL p6), none, some (vI x2), some (vI x116)]) D449_226 (Or.inr rfl) (Nat.le_of_ble_eq_true rfl) rfl ?_
    refine im_ld (q := 230) (i := 9) D449_228 rfl rfl rfl ?_
    obtain ⟨hg117, hP⟩ := hP
    refine im_ifc (q := 233) (t := 247) D449_230 rfl hg117 (fun hc118 => ?_) (fun hc118 => ?_)
    · replace hP := hP.1 hc118
      refine im_iconst (q := 248) D449_247 ?_
      exact im_zret (q := 249) D449_248 rfl (by decide) hP
    · replace hP := hP.2 (Decidable.not_not.mp hc118)
      refine im_ld (q := 234) (i := 0) D449_233 rfl rfl rfl ?_
      refine im_ld (q := 235) (i := 2) D449_234 rfl rfl rfl ?_
      refine im_ld (q := 237) (i := 4) D449_235 rfl rfl rfl ?_
      refine im_callV (q := 240) (kd := 1) (y := 424) (n := 2) (ci := 12) (a := 6952) (vs := [.ref 6952, vL p2, vL p4]) (r := []) (L2 := [some (.ref 6952), some (vL p2), none, some (vL p4), none, none, none]) D449_237 (im_cal cn_449 cl_12_1086) (Or.inl rfl) rfl sf_6952 rfl rfl rfl rfl hd ⟨rfl, rfl, rfl, trivial⟩ ?_
      refine hP.mono ?_
      rintro _ e123 M119 ⟨x120, rfl, rfl, hP⟩
      refine im_bkS ?_
      obtain ⟨hg121, hP⟩ := hP
      refine im_ifc (q := 243) (t := 247) D449_240 rfl hg121 (fun hc122 => ?_) (fun hc122 => ?_)
      · replace hP := hP.1 hc122
        refine im_iconst (q := 248) D449_247 ?_
        exact im_zret (q := 249) D449_248 rfl (by decide) hP
      · replace hP := hP.2 (Decidable.not_not.mp hc122)
        refine im_iconst (q := 244) D449_243 ?_
        refine im_goto (q := 247) (t := 248) D449_244 rfl ?_
        exact im_zret (q := 249) D449_248 rfl (by decide) hP
  by_cases hc136 : p1 = 6
  · refine im_tsw (q := 11) (t := 249) D449_10 hg3 (fun _ => by rcases hc136 with hc136 <;> (rw [hc136]; rfl)) (by rcases hc136 with hc136 <;> (rw [hc136]; rfl)) ?_
    replace hP := hP.2.2.2.2.2.1 hc136
    refine im_ld (q := 250) (i := 0) D449_249 rfl rfl rfl ?_
    refine im_ld (q := 252) (i := 8) D449_250 rfl rfl rfl ?_
    refine im_ld (q := 254) (i := 4) D449_252 rfl rfl rfl ?_
    refine im_ld (q := 256) (i := 6) D449_254 rfl rfl rfl ?_
    refine im_callV (q := 259) (kd := 1) (y := 357) (n := 3) (ci := 12) (a := 6952) (vs := [.ref 6952, vI x2, vL p4, vL p6]) (r := []) (L2 := [some (.ref 6952), some (vI x2), some (vL p4), none, some (vL p6), none]) D449_256 (im_cal cn_449 cl_12_1062) (Or.inl rfl) rfl sf_6952 rfl rfl rfl rfl hd ⟨rfl, rfl, rfl, rfl, trivial⟩ ?_
    refine hP.mono ?_
    rintro _ e135 M126 ⟨x127, rfl, rfl, hP⟩
    refine im_bkS ?_
    refine im_st1 (q := 261) (i := 9) (L' := [some (.ref 6952), some (vI p1), some (vL p2), none, some (vL p4), none, some (vL p6), none, some (vI x2), some (vI x127)]) D449_259 (Or.inr rfl) (Nat.le_of_ble_eq_true rfl) rfl ?_
    refine im_ld (q := 263) (i := 9) D449_261 rfl rfl rfl ?_
    obtain ⟨hg128, hP⟩ := hP
    refine im_ifc (q := 266) (t := 279) D449_263 rfl hg128 (fun hc129 => ?_) (fun hc129 => ?_)
    · replace hP := hP.1 hc129
      refine im_iconst (q := 280) D449_279 ?_
      exact im_zret (q := 281) D449_280 rfl (by decide) hP
    · replace hP := hP.2 (Decidable.not_not.mp hc129)
      refine im_ld (q := 267) (i := 0) D449_266 rfl rfl rfl ?_
      refine im_ld (q := 269) (i := 8) D449_267 rfl rfl rfl ?_
      refine im_callV (q := 272) (kd := 1) (y := 413) (n := 1) (ci := 12) (a := 6952) (vs := [.ref 6952, vI x2]) (r := []) (L2 := [some (.ref 6952), some (vI x2)]) D449_269 (im_cal cn_449 cl_12_1066) (Or.inl rfl) rfl sf_6952 rfl rfl rfl rfl hd ⟨rfl, rfl, trivial⟩ ?_
      refine hP.mono ?_
      rintro _ e134 M130 ⟨x131, rfl, rfl, hP⟩
      refine im_bkS ?_
      obtain ⟨hg132, hP⟩ := hP
      refine im_ifc (q := 275) (t := 279) D449_272 rfl hg132 (fun hc133 => ?_) (fun hc133 => ?_)
      · replace hP := hP.1 hc133
        refine im_iconst (q := 280) D449_279 ?_
        exact im_zret (q := 281) D449_280 rfl (by decide) hP
      · replace hP := hP.2 (Decidable.not_not.mp hc133)
        refine im_iconst (q := 276) D449_275 ?_
        refine im_goto (q := 279) (t := 280) D449_276 rfl ?_
        exact im_zret (q := 281) D449_280 rfl (by decide) hP
  by_cases hc147 : p1 = 7
  · refine im_tsw (q := 11) (t := 281) D449_10 hg3 (fun _ => by rcases hc147 with hc147 <;> (rw [hc147]; rfl)) (by rcases hc147 with hc147 <;> (rw [hc147]; rfl)) ?_
    replace hP := hP.2.2.2.2.2.2.1 hc147
    refine im_ld (q := 282) (i := 0) D449_281 rfl rfl rfl ?_
    refine im_ld (q := 283) (i := 2) D449_282 rfl rfl rfl ?_
    refine im_callV (q := 286) (kd := 1) (y := 334) (n := 1) (ci := 12) (a := 6952) (vs := [.ref 6952, vL p2]) (r := []) (L2 := [some (.ref 6952), some (vL p2), none]) D449_283 (im_cal cn_449 cl_12_819) (Or.inl rfl) rfl sf_6952 rfl rfl rfl rfl hd ⟨rfl, rfl, trivial⟩ ?_
    refine hP.mono ?_
    rintro _ e146 M137 ⟨x138, rfl, rfl, hP⟩
    refine im_bkS ?_
    refine im_st1 (q := 288) (i := 9) (L' := [some (.ref 6952), some (vI p1), some (vL p2), none, some (vL p4), none, some (vL p6), none, some (vI x2), some (vI x138)]) D449_286 (Or.inr rfl) (Nat.le_of_ble_eq_true rfl) rfl ?_
    refine im_ld (q := 290) (i := 9) D449_288 rfl rfl rfl ?_
    obtain ⟨hg139, hP⟩ := hP
    refine im_ifc (q := 293) (t := 305) D449_290 rfl hg139 (fun hc140 => ?_) (fun hc140 => ?_)
    · replace hP := hP.1 hc140
      refine im_iconst (q := 306) D449_305 ?_
      exact im_zret (q := 307) D449_306 rfl (by decide) hP
    · replace hP := hP.2 (Decidable.not_not.mp hc140)
      refine im_ld (q := 294) (i := 0) D449_293 rfl rfl rfl ?_
      refine im_ld (q := 295) (i := 2) D449_294 rfl rfl rfl ?_
      refine im_callV (q := 298) (kd := 1) (y := 338) (n := 1) (ci := 12) (a := 6952) (vs := [.ref 6952, vL p2]) (r := []) (L2 := [some (.ref 6952), some (vL p2), none, none, none]) D449_295 (im_cal cn_449 cl_12_822) (Or.inl rfl) rfl sf_6952 rfl rfl rfl rfl hd ⟨rfl, rfl, trivial⟩ ?_
      refine hP.mono ?_
      rintro _ e145 M141 ⟨x142, rfl, rfl, hP⟩
      refine im_bkS ?_
      obtain ⟨hg143, hP⟩ := hP
      refine im_ifc (q := 301) (t := 305) D449_298 rfl hg143 (fun hc144 => ?_) (fun hc144 => ?_)
      · replace hP := hP.1 hc144
        refine im_iconst (q := 306) D449_305 ?_
        exact im_zret (q := 307) D449_306 rfl (by decide) hP
      · replace hP := hP.2 (Int.not_le.mp hc144)
        refine im_iconst (q := 302) D449_301 ?_
        refine im_goto (q := 305) (t := 306) D449_302 rfl ?_
        exact im_zret (q := 307) D449_306 rfl (by decide) hP
  have hd148 : p1 < 1 ∨ 7 < p1 := by omega
  refine im_tsw (q := 11) (t := 307) D449_10 hg3 (fun z9 => absurd hd148 z9) (by rw [if_pos hd148]; rfl) ?_
  replace hP := hP.2.2.2.2.2.2.2 hd148
  refine im_ld (q := 308) (i := 0) D449_307 rfl rfl rfl ?_
  refine im_iconst (q := 309) D449_308 ?_
  refine im_pfI (q := 312) D449_309 (im_fl cn_449 fl_12_794) sf_6952 rfl rfl ti_12_62 (by decide) ?_
  refine im_iconst (q := 313) D449_312 ?_
  exact im_zret (q := 314) D449_313 rfl (by decide) hP
set_option maxRecDepth 20000 in
set_option maxHeartbeats 4000000 in
theorem b_small_0 {g : im_g} {d : Nat} {e : im_E} {M : im_M} {K : im_K} {p0 : Int} (hd : 1 ≤ d) (hP : im_T g (d - 1) 268 0 [some (vL p0), none, some (vL 0), none, some (vL 15), none] [] e M (im_ri (fun x2 e_ M1 => e = e_ ∧ (im_i32 x2) ∧ ((∀ x5 : Int, (((x2 = 0) ∧ x5 = (-1)) ∨ ((¬ x2 = 0) ∧ x5 = p0)) → K (.inl (some (vI x5))) e M1))))) : im_T g d 450 0 [some (vL p0), none] [] e M K := by
  refine im_ld (q := 1) (i := 0) D450_0 rfl rfl rfl ?_
  refine im_lconst (q := 2) (z := 0) D450_1 rfl ?_
  refine im_ldc2 (q := 5) (n := 15) D450_2 rfl ?_
  refine im_callS (q := 8) (kd := 0) (y := 268) (n := 3) (z := 12) (vs := [vL p0, vL 0, vL 15]) (r := []) (L2 := [some (vL p0), none, some (vL 0), none, some (vL 15), none]) D450_5 rfl (im_cal cn_450 cl_12_428) (Or.inl rfl) rfl rfl rfl rfl rfl hd ⟨rfl, rfl, rfl, trivial⟩ ?_
  refine hP.mono ?_
  rintro _ e9 M1 ⟨x2, rfl, rfl, hP⟩
  refine im_bkS ?_
  obtain ⟨hg3, hP⟩ := hP
  have hJ6 := hP
  have kJ7 : ∀ x5 : Int, (((x2 = 0) ∧ x5 = (-1)) ∨ ((¬ x2 = 0) ∧ x5 = p0)) → im_T g d 450 17 [none, none] [vI x5] e M1 K := by
    intro x5 hx8
    have hP := hJ6 x5 hx8
    exact im_iret (q := 18) D450_17 rfl hP
  refine im_ifc (q := 11) (t := 16) D450_8 rfl hg3 (fun hc4 => ?_) (fun hc4 => ?_)
  · refine im_iconst (q := 17) D450_16 ?_
    exact (kJ7 ((-1)) (Or.inl ⟨hc4, rfl⟩)).wk trivial
  · refine im_ld (q := 12) (i := 0) D450_11 rfl rfl rfl ?_
    refine im_l2i (q := 13) D450_12 ?_
    refine im_goto (q := 16) (t := 17) D450_13 rfl ?_
    exact (kJ7 (p0) (Or.inr ⟨hc4, rfl⟩)).wk trivial
set_option maxRecDepth 20000 in
set_option maxHeartbeats 4000000 in
theorem b_told_0 {g : im_g} {d : Nat} {e : im_E} {M : im_M} {K : im_K} {p1 : Int} (hd : 1 ≤ d) (hP : (im_i32 p1) ∧ im_T g (d - 1) 268 0 [some (vL p1), none, some (vL 0), none, some (vL 7), none] [] e M (im_ri (fun x3 e_ M2 => e = e_ ∧ (im_i32 x3) ∧ ((∀ x6 : Int, (((x3 = 0) ∧ x6 = 1) ∨ ((¬ x3 = 0) ∧ x6 = 0)) → im_T g d 451 28 [some (.ref 6952), some (vI p1), some (vI 0), some (vI 0), some (vI 0)] [] e (im_u M2 6952 0 x6) K))))) : im_T g d 451 0 [some (.ref 6952), some (vI p1), none, none, none] [] e M K := by
  refine im_ld (q := 1) (i := 0) D451_0 rfl rfl rfl ?_
  refine im_ld (q := 2) (i := 1) D451_1 rfl rfl rfl ?_
  obtain ⟨hg1, hP⟩ := hP
  refine im_i2l (q := 3) D451_2 hg1 ?_
  refine im_lconst (q := 4) (z := 0) D451_3 rfl ?_
  refine im_ldc2 (q := 7) (n := 7) D451_4 rfl ?_
  refine im_callS (q := 10) (kd := 0) (y := 268) (n := 3) (z := 12) (vs := [vL p1, vL 0, vL 7]) (r := [.ref 6952]) (L2 := [some (vL p1), none, some (vL 0), none, some (vL 7), none]) D451_7 rfl (im_cal cn_451 cl_12_428) (Or.inl rfl) rfl rfl rfl rfl rfl hd ⟨rfl, rfl, rfl, trivial⟩ ?_
  refine hP.mono ?_
  rintro _ e10 M2 ⟨x3, rfl, rfl, hP⟩
  refine im_bkS ?_
  obtain ⟨hg4, hP⟩ := hP
  have hJ7 := hP
  have kJ8 : ∀ x6 : Int, (((x3 = 0) ∧ x6 = 1) ∨ ((¬ x3 = 0) ∧ x6 = 0)) → im_T g d 451 18 [some (.ref 6952), some (vI p1), none, none, none] [vI x6, .ref 6952] e M2 K := by
    intro x6 hx9
    have hP := hJ7 x6 hx9
    refine im_pfI (q := 21) D451_18 (im_fl cn_451 fl_12_409) sf_6952 rfl rfl ti_12_0 (by omega) ?_
    refine im_iconst (q := 22) D451_21 ?_
    refine im_st1 (q := 23) (i := 2) (L' := [some (.ref 6952), some (vI p1), some (vI 0), none, none]) D451_22 (Or.inl ⟨_, rfl, rfl⟩) (Nat.le_of_ble_eq_true rfl) rfl ?_
    refine im_iconst (q := 24) D451_23 ?_
    refine im_st1 (q := 25) (i := 3) (L' := [some (.ref 6952), some (vI p1), some (vI 0), some (vI 0), none]) D451_24 (Or.inl ⟨_, rfl, rfl⟩) (Nat.le_of_ble_eq_true rfl) rfl ?_
    refine im_iconst (q := 26) D451_25 ?_
    refine im_st1 (q := 28) (i := 4) (L' := [some (.ref 6952), some (vI p1), some (vI 0), some (vI 0), some (vI 0)]) D451_26 (Or.inr rfl) (Nat.le_of_ble_eq_true rfl) rfl ?_
    exact hP.wk ⟨rfl, rfl, rfl, rfl, rfl, trivial⟩
  refine im_ifc (q := 13) (t := 17) D451_10 rfl hg4 (fun hc5 => ?_) (fun hc5 => ?_)
  · refine im_iconst (q := 18) D451_17 ?_
    exact (kJ8 (1) (Or.inl ⟨hc5, rfl⟩)).wk ⟨rfl, rfl, trivial⟩
  · refine im_iconst (q := 14) D451_13 ?_
    refine im_goto (q := 17) (t := 18) D451_14 rfl ?_
    exact (kJ8 (0) (Or.inr ⟨hc5, rfl⟩)).wk ⟨rfl, rfl, trivial⟩
set_option maxRecDepth 20000 in
set_option maxHeartbeats 4000000 in
theorem b_told_28 {g : im_g} {d : Nat} {e : im_E} {M : im_M} {K : im_K} {p1 p2 p3 p4 : Int} (hP : (im_i32 p4) ∧ ((((16 ≤ p4 → (im_i32 p1) ∧ ((p1 = 0 → K (.inl (some (vI p2))) e M) ∧ (p1 = 1 → K (.inl (some (vI p3))) e M) ∧ (p1 = 2 → K (.inl (some (vI (M 6952 2)))) e M) ∧ (p1 = 3 → K (.inl (some (vI (M 6952 177)))) e M) ∧ (p1 = 4 → K (.inl (some (vI (M 6952 178)))) e M) ∧ (p1 = 5 → K (.inl (some (vI (M 6952 38)))) e M) ∧ (p1 = 6 → K (.inl (some (vI (M 6952 62)))) e M) ∧ (p1 = 7 → ((∀ x32 : Int, ((((M 6952 180) = 0) ∧ x32 = 0) ∨ ((¬ (M 6952 180) = 0) ∧ x32 = 1)) → K (.inl (some (vI x32))) e M))) ∧ (p1 < 0 ∨ 7 < p1 → K (.inl (some (vI 0))) e M))) ∧ (p4 < 16 → (0 ≤ p4 ∧ p4 < 16)))) ∧ (∀ x6 : Int, (((p4 < 16) ∧ ((M 6984 p4) = 0) ∧ x6 = 0) ∨ ((p4 < 16) ∧ (¬ (M 6984 p4) = 0) ∧ x6 = 1)) → (0 ≤ p4 ∧ p4 < 16) ∧ ((∀ x13 : Int, ((((M 6994 p4) = 0) ∧ x13 = 0) ∨ ((¬ (M 6994 p4) = 0) ∧ x13 = 1)) → im_T g d 451 28 [some (.ref 6952), some (vI p1), some (vI (p2 + x6)), some (vI (p3 + x13)), some (vI (p4 + 1))] [] e M K))))) : im_T g d 451 28 [some (.ref 6952), some (vI p1), some (vI p2), some (vI p3), some (vI p4)] [] e M K := by
  refine im_ld (q := 30) (i := 4) D451_28 rfl rfl rfl ?_
  refine im_bipush (q := 32) D451_30 rfl ?_
  obtain ⟨hg1, hP⟩ := hP
  obtain ⟨hP, hJ7⟩ := hP
  have kJ8 : ∀ x6 : Int, (((p4 < 16) ∧ ((M 6984 p4) = 0) ∧ x6 = 0) ∨ ((p4 < 16) ∧ (¬ (M 6984 p4) = 0) ∧ x6 = 1)) → im_T g d 451 51 [some (.ref 6952), some (vI p1), none, some (vI p3), some (vI p4)] [vI x6, vI p2] e M K := by
    intro x6 hx9
    have hP := hJ7 x6 hx9
    refine im_iadd (q := 52) D451_51 ?_
    refine im_st1 (q := 53) (i := 2) (L' := [some (.ref 6952), some (vI p1), some (vI (p2 + x6)), some (vI p3), some (vI p4)]) D451_52 (Or.inl ⟨_, rfl, rfl⟩) (Nat.le_of_ble_eq_true rfl) rfl ?_
    refine im_ld (q := 54) (i := 3) D451_53 rfl rfl rfl ?_
    refine im_ld (q := 55) (i := 0) D451_54 rfl rfl rfl ?_
    refine im_gfR (q := 58) (b := 6994) D451_55 (im_fl cn_451 fl_12_136) sf_6952 rfl rfl tR_12_66 rf_6952_66 ?_
    refine im_ld (q := 60) (i := 4) D451_58 rfl rfl rfl ?_
    obtain ⟨hg10, hP⟩ := hP
    refine im_rng (j := p4) sf_6994 hg10.1 hg10.2 (fun hr11 => ?_)
    refine im_bald (q := 61) D451_60 sf_6994 (Or.inr rfl) hg10.1 hg10.2 (by decide) rfl ?_
    have hJ14 := hP
    have kJ15 : ∀ x13 : Int, ((((M 6994 p4) = 0) ∧ x13 = 0) ∨ ((¬ (M 6994 p4) = 0) ∧ x13 = 1)) → im_T g d 451 69 [some (.ref 6952), some (vI p1), some (vI (p2 + x6)), none, some (vI p4)] [vI x13, vI p3] e M K := by
      intro x13 hx16
      have hP := hJ14 x13 hx16
      refine im_iadd (q := 70) D451_69 ?_
      refine im_st1 (q := 71) (i := 3) (L' := [some (.ref 6952), some (vI p1), some (vI (p2 + x6)), some (vI (p3 + x13)), some (vI p4)]) D451_70 (Or.inl ⟨_, rfl, rfl⟩) (Nat.le_of_ble_eq_true rfl) rfl ?_
      refine im_iinc (q := 74) (i := 4) (L' := [some (.ref 6952), some (vI p1), some (vI (p2 + x6)), some (vI (p3 + x13)), some (vI (p4 + 1))]) D451_71 rfl (Nat.le_of_ble_eq_true rfl) rfl ?_
      refine im_goto (q := 77) (t := 28) D451_74 rfl ?_
      exact hP.wk ⟨rfl, rfl, rfl, rfl, rfl, trivial⟩
    refine im_ifc (q := 64) (t := 68) D451_61 rfl (im_z32 hr11) (fun hc12 => ?_) (fun hc12 => ?_)
    · refine im_iconst (q := 69) D451_68 ?_
      exact (kJ15 (0) (Or.inl ⟨hc12, rfl⟩)).wk ⟨rfl, rfl, rfl, rfl, trivial⟩
    · refine im_iconst (q := 65) D451_64 ?_
      refine im_goto (q := 68) (t := 69) D451_65 rfl ?_
      exact (kJ15 (1) (Or.inr ⟨hc12, rfl⟩)).wk ⟨rfl, rfl, rfl, rfl, trivial⟩
  refine im_icmp (q := 35) (t := 77) D451_32 rfl hg1 (by decide) (fun hc2 => ?_) (fun hc2 => ?_)
  · replace hP := hP.1 hc2
    refine im_ld (q := 78) (i := 1) D451_77 rfl rfl rfl ?_
    obtain ⟨hg17, hP⟩ := hP
    by_cases hc18 : p1 = 0
    · refine im_tsw (q := 79) (t := 124) D451_78 hg17 (fun _ => by rcases hc18 with hc18 <;> (rw [hc18]; rfl)) (by rcases hc18 with hc18 <;> (rw [hc18]; rfl)) ?_
      replace hP := hP.1 hc18
      refine im_ld (q := 125) (i := 2) D451_124 rfl rfl rfl ?_
      exact im_iret (q := 126) D451_125 rfl hP
    by_cases hc19 : p1 = 1
    · refine im_tsw (q := 79) (t := 126) D451_78 hg17 (fun _ => by rcases hc19 with hc19 <;> (rw [hc19]; rfl)) (by rcases hc19 with hc19 <;> (rw [hc19]; rfl)) ?_
      replace hP := hP.2.1 hc19
      refine im_ld (q := 127) (i := 3) D451_126 rfl rfl rfl ?_
      exact im_iret (q := 128) D451_127 rfl hP
    by_cases hc21 : p1 = 2
    · refine im_tsw (q := 79) (t := 128) D451_78 hg17 (fun _ => by rcases hc21 with hc21 <;> (rw [hc21]; rfl)) (by rcases hc21 with hc21 <;> (rw [hc21]; rfl)) ?_
      replace hP := hP.2.2.1 hc21
      refine im_ld (q := 129) (i := 0) D451_128 rfl rfl rfl ?_
      refine im_rng (j := 2) sf_6952 (by decide) (by decide) (fun hr20 => ?_)
      refine im_gfI (q := 132) D451_129 (im_fl cn_451 fl_12_416) sf_6952 rfl rfl tI_12_2 rfl ?_
      exact im_iret (q := 133) D451_132 rfl hP
    by_cases hc23 : p1 = 3
    · refine im_tsw (q := 79) (t := 133) D451_78 hg17 (fun _ => by rcases hc23 with hc23 <;> (rw [hc23]; rfl)) (by rcases hc23 with hc23 <;> (rw [hc23]; rfl)) ?_
      replace hP := hP.2.2.2.1 hc23
      refine im_ld (q := 134) (i := 0) D451_133 rfl rfl rfl ?_
      refine im_rng (j := 177) sf_6952 (by decide) (by decide) (fun hr22 => ?_)
      refine im_gfI (q := 137) D451_134 (im_fl cn_451 fl_12_1140) sf_6952 rfl rfl tI_12_177 rfl ?_
      exact im_iret (q := 138) D451_137 rfl hP
    by_cases hc25 : p1 = 4
    · refine im_tsw (q := 79) (t := 138) D451_78 hg17 (fun _ => by rcases hc25 with hc25 <;> (rw [hc25]; rfl)) (by rcases hc25 with hc25 <;> (rw [hc25]; rfl)) ?_
      replace hP := hP.2.2.2.2.1 hc25
      refine im_ld (q := 139) (i := 0) D451_138 rfl rfl rfl ?_
      refine im_rng (j := 178) sf_6952 (by decide) (by decide) (fun hr24 => ?_)
      refine im_gfI (q := 142) D451_139 (im_fl cn_451 fl_12_1154) sf_6952 rfl rfl tI_12_178 rfl ?_
      exact im_iret (q := 143) D451_142 rfl hP
    by_cases hc27 : p1 = 5
    · refine im_tsw (q := 79) (t := 143) D451_78 hg17 (fun _ => by rcases hc27 with hc27 <;> (rw [hc27]; rfl)) (by rcases hc27 with hc27 <;> (rw [hc27]; rfl)) ?_
      replace hP := hP.2.2.2.2.2.1 hc27
      refine im_ld (q := 144) (i := 0) D451_143 rfl rfl rfl ?_
      refine im_rng (j := 38) sf_6952 (by decide) (by decide) (fun hr26 => ?_)
      refine im_gfI (q := 147) D451_144 (im_fl cn_451 fl_12_632) sf_6952 rfl rfl tI_12_38 rfl ?_
      exact im_iret (q := 148) D451_147 rfl hP
    by_cases hc29 : p1 = 6
    · refine im_tsw (q := 79) (t := 148) D451_78 hg17 (fun _ => by rcases hc29 with hc29 <;> (rw [hc29]; rfl)) (by rcases hc29 with hc29 <;> (rw [hc29]; rfl)) ?_
      replace hP := hP.2.2.2.2.2.2.1 hc29
      refine im_ld (q := 149) (i := 0) D451_148 rfl rfl rfl ?_
      refine im_rng (j := 62) sf_6952 (by decide) (by decide) (fun hr28 => ?_)
      refine im_gfI (q := 152) D451_149 (im_fl cn_451 fl_12_794) sf_6952 rfl rfl tI_12_62 rfl ?_
      exact im_iret (q := 153) D451_152 rfl hP
    by_cases hc36 : p1 = 7
    · refine im_tsw (q := 79) (t := 153) D451_78 hg17 (fun _ => by rcases hc36 with hc36 <;> (rw [hc36]; rfl)) (by rcases hc36 with hc36 <;> (rw [hc36]; rfl)) ?_
      replace hP := hP.2.2.2.2.2.2.2.1 hc36
      refine im_ld (q := 154) (i := 0) D451_153 rfl rfl rfl ?_
      refine im_rng (j := 180) sf_6952 (by decide) (by decide) (fun hr30 => ?_)
      refine im_gfI (q := 157) D451_154 (im_fl cn_451 fl_12_412) sf_6952 rfl rfl tI_12_180 rfl ?_
      have hJ33 := hP
      have kJ34 : ∀ x32 : Int, ((((M 6952 180) = 0) ∧ x32 = 0) ∨ ((¬ (M 6952 180) = 0) ∧ x32 = 1)) → im_T g d 451 165 [none, none, none, none, none] [vI x32] e M K := by
        intro x32 hx35
        have hP := hJ33 x32 hx35
        exact im_iret (q := 166) D451_165 rfl hP
      refine im_ifc (q := 160) (t := 164) D451_157 rfl (im_z32 hr30) (fun hc31 => ?_) (fun hc31 => ?_)
      · refine im_iconst (q := 165) D451_164 ?_
        exact (kJ34 (0) (Or.inl ⟨hc31, rfl⟩)).wk trivial
      · refine im_iconst (q := 161) D451_160 ?_
        refine im_goto (q := 164) (t := 165) D451_161 rfl ?_
        exact (kJ34 (1) (Or.inr ⟨hc31, rfl⟩)).wk trivial
    have hd37 : p1 < 0 ∨ 7 < p1 := by omega
    refine im_tsw (q := 79) (t := 166) D451_78 hg17 (fun z9 => absurd hd37 z9) (by rw [if_pos hd37]; rfl) ?_
    replace hP := hP.2.2.2.2.2.2.2.2 hd37
    refine im_iconst (q := 167) D451_166 ?_
    exact im_iret (q := 168) D451_167 rfl hP
  · replace hP := hP.2 (Int.not_le.mp hc2)
    refine im_ld (q := 36) (i := 2) D451_35 rfl rfl rfl ?_
    refine im_ld (q := 37) (i := 0) D451_36 rfl rfl rfl ?_
    refine im_gfR (q := 40) (b := 6984) D451_37 (im_fl cn_451 fl_12_106) sf_6952 rfl rfl tR_12_52 rf_6952_52 ?_
    refine im_ld (q := 42) (i := 4) D451_40 rfl rfl rfl ?_
    have hg3 := hP
    refine im_rng (j := p4) sf_6984 hg3.1 hg3.2 (fun hr4 => ?_)
    refine im_bald (q := 43) D451_42 sf_6984 (Or.inr rfl) hg3.1 hg3.2 (by decide) rfl ?_
    refine im_ifc (q := 46) (t := 50) D451_43 rfl (im_z32 hr4) (fun hc5 => ?_) (fun hc5 => ?_)
    · refine im_iconst (q := 51) D451_50 ?_
      exact (kJ8 (0) (Or.inl ⟨(Int.not_le.mp hc2), hc5, rfl⟩)).wk ⟨rfl, rfl, rfl, rfl, trivial⟩
    · refine im_iconst (q := 47) D451_46 ?_
      refine im_goto (q := 50) (t := 51) D451_47 rfl ?_
      exact (kJ8 (1) (Or.inr ⟨(Int.not_le.mp hc2), hc5, rfl⟩)).wk ⟨rfl, rfl, rfl, rfl, trivial⟩

/-! blocks of the reference -/
theorem D283_0 {g : im_g} : im_D g 283 0 (.aload_n 0) 1 := im_D.of (by decide +kernel)
theorem D283_1 {g : im_g} : im_D g 283 1 (.getfield 591) 4 := im_D.of (by decide +kernel)
theorem D283_4 {g : im_g} : im_D g 283 4 (.iconst 2) 5 := im_D.of (by decide +kernel)
theorem D283_5 {g : im_g} : im_D g 283 5 (.if_icmp .ne 13) 8 := im_D.of (by decide +kernel)
theorem D283_8 {g : im_g} : im_D g 283 8 (.aload_n 0) 9 := im_D.of (by decide +kernel)
theorem D283_9 {g : im_g} : im_D g 283 9 (.getfield 597) 12 := im_D.of (by decide +kernel)
theorem D283_12 {g : im_g} : im_D g 283 12 (.invokestatic 635) 15 := im_D.of (by decide +kernel)
theorem D283_15 {g : im_g} : im_D g 283 15 (.goto 4) 18 := im_D.of (by decide +kernel)
theorem D283_18 {g : im_g} : im_D g 283 18 (.iconst 0) 19 := im_D.of (by decide +kernel)
theorem D283_19 {g : im_g} : im_D g 283 19 (.istore 4) 21 := im_D.of (by decide +kernel)
theorem D283_21 {g : im_g} : im_D g 283 21 (.iload 4) 23 := im_D.of (by decide +kernel)
theorem D283_23 {g : im_g} : im_D g 283 23 (.ifCond .ne 8) 26 := im_D.of (by decide +kernel)
theorem D283_26 {g : im_g} : im_D g 283 26 (.aload_n 0) 27 := im_D.of (by decide +kernel)
theorem D283_27 {g : im_g} : im_D g 283 27 (.invokevirtual 639) 30 := im_D.of (by decide +kernel)
theorem D283_30 {g : im_g} : im_D g 283 30 (.return_) 31 := im_D.of (by decide +kernel)
theorem D283_31 {g : im_g} : im_D g 283 31 (.aload_n 0) 32 := im_D.of (by decide +kernel)
theorem D283_32 {g : im_g} : im_D g 283 32 (.iload 4) 34 := im_D.of (by decide +kernel)
theorem D283_34 {g : im_g} : im_D g 283 34 (.iload_n 3) 35 := im_D.of (by decide +kernel)
theorem D283_35 {g : im_g} : im_D g 283 35 (.invokevirtual 642) 38 := im_D.of (by decide +kernel)
theorem D283_38 {g : im_g} : im_D g 283 38 (.istore 5) 40 := im_D.of (by decide +kernel)
theorem D283_40 {g : im_g} : im_D g 283 40 (.iload 5) 42 := im_D.of (by decide +kernel)
theorem D283_42 {g : im_g} : im_D g 283 42 (.iconst (-1)) 43 := im_D.of (by decide +kernel)
theorem D283_43 {g : im_g} : im_D g 283 43 (.if_icmp .ne 4) 46 := im_D.of (by decide +kernel)
theorem D283_46 {g : im_g} : im_D g 283 46 (.return_) 47 := im_D.of (by decide +kernel)
theorem D283_47 {g : im_g} : im_D g 283 47 (.aload_n 0) 48 := im_D.of (by decide +kernel)
theorem D283_48 {g : im_g} : im_D g 283 48 (.iload_n 1) 49 := im_D.of (by decide +kernel)
theorem D283_49 {g : im_g} : im_D g 283 49 (.iload_n 2) 50 := im_D.of (by decide +kernel)
theorem D283_50 {g : im_g} : im_D g 283 50 (.iload 5) 52 := im_D.of (by decide +kernel)
theorem D283_52 {g : im_g} : im_D g 283 52 (.invokevirtual 645) 55 := im_D.of (by decide +kernel)
theorem D283_55 {g : im_g} : im_D g 283 55 (.aload_n 0) 56 := im_D.of (by decide +kernel)
theorem D283_56 {g : im_g} : im_D g 283 56 (.invokevirtual 649) 59 := im_D.of (by decide +kernel)
theorem D283_59 {g : im_g} : im_D g 283 59 (.iload 4) 61 := im_D.of (by decide +kernel)
theorem D283_61 {g : im_g} : im_D g 283 61 (.iconst 5) 62 := im_D.of (by decide +kernel)
theorem D283_62 {g : im_g} : im_D g 283 62 (.if_icmp .ne 47) 65 := im_D.of (by decide +kernel)
theorem D283_65 {g : im_g} : im_D g 283 65 (.aload_n 0) 66 := im_D.of (by decide +kernel)
theorem D283_66 {g : im_g} : im_D g 283 66 (.iconst 1) 67 := im_D.of (by decide +kernel)
theorem D283_67 {g : im_g} : im_D g 283 67 (.iload 5) 69 := im_D.of (by decide +kernel)
theorem D283_69 {g : im_g} : im_D g 283 69 (.iconst 2) 70 := im_D.of (by decide +kernel)
theorem D283_70 {g : im_g} : im_D g 283 70 (.iload_n 3) 71 := im_D.of (by decide +kernel)
theorem D283_71 {g : im_g} : im_D g 283 71 (.iconst 1) 72 := im_D.of (by decide +kernel)
theorem D283_72 {g : im_g} : im_D g 283 72 (.iadd) 73 := im_D.of (by decide +kernel)
theorem D283_73 {g : im_g} : im_D g 283 73 (.invokevirtual 652) 76 := im_D.of (by decide +kernel)
theorem D283_76 {g : im_g} : im_D g 283 76 (.aload_n 0) 77 := im_D.of (by decide +kernel)
theorem D283_77 {g : im_g} : im_D g 283 77 (.bipush 9) 79 := im_D.of (by decide +kernel)
theorem D283_79 {g : im_g} : im_D g 283 79 (.iload 5) 81 := im_D.of (by decide +kernel)
theorem D283_81 {g : im_g} : im_D g 283 81 (.iconst 0) 82 := im_D.of (by decide +kernel)
theorem D283_82 {g : im_g} : im_D g 283 82 (.iload_n 3) 83 := im_D.of (by decide +kernel)
theorem D283_83 {g : im_g} : im_D g 283 83 (.invokevirtual 652) 86 := im_D.of (by decide +kernel)
theorem D283_86 {g : im_g} : im_D g 283 86 (.aload_n 0) 87 := im_D.of (by decide +kernel)
theorem D283_87 {g : im_g} : im_D g 283 87 (.bipush 8) 89 := im_D.of (by decide +kernel)
theorem D283_89 {g : im_g} : im_D g 283 89 (.iload 5) 91 := im_D.of (by decide +kernel)
theorem D283_91 {g : im_g} : im_D g 283 91 (.iconst 0) 92 := im_D.of (by decide +kernel)
theorem D283_92 {g : im_g} : im_D g 283 92 (.iload_n 3) 93 := im_D.of (by decide +kernel)
theorem D283_93 {g : im_g} : im_D g 283 93 (.invokevirtual 652) 96 := im_D.of (by decide +kernel)
theorem D283_96 {g : im_g} : im_D g 283 96 (.aload_n 0) 97 := im_D.of (by decide +kernel)
theorem D283_97 {g : im_g} : im_D g 283 97 (.bipush 7) 99 := im_D.of (by decide +kernel)
theorem D283_99 {g : im_g} : im_D g 283 99 (.iload 5) 101 := im_D.of (by decide +kernel)
theorem D283_101 {g : im_g} : im_D g 283 101 (.iconst 0) 102 := im_D.of (by decide +kernel)
theorem D283_102 {g : im_g} : im_D g 283 102 (.iload_n 3) 103 := im_D.of (by decide +kernel)
theorem D283_103 {g : im_g} : im_D g 283 103 (.invokevirtual 652) 106 := im_D.of (by decide +kernel)
theorem D283_106 {g : im_g} : im_D g 283 106 (.goto 134) 109 := im_D.of (by decide +kernel)
theorem D283_109 {g : im_g} : im_D g 283 109 (.iload 4) 111 := im_D.of (by decide +kernel)
theorem D283_111 {g : im_g} : im_D g 283 111 (.iconst 4) 112 := im_D.of (by decide +kernel)
theorem D283_112 {g : im_g} : im_D g 283 112 (.if_icmp .ne 39) 115 := im_D.of (by decide +kernel)
theorem D283_115 {g : im_g} : im_D g 283 115 (.aload_n 0) 116 := im_D.of (by decide +kernel)
theorem D283_116 {g : im_g} : im_D g 283 116 (.iconst 1) 117 := im_D.of (by decide +kernel)
theorem D283_117 {g : im_g} : im_D g 283 117 (.iload 5) 119 := im_D.of (by decide +kernel)
theorem D283_119 {g : im_g} : im_D g 283 119 (.iconst 3) 120 := im_D.of (by decide +kernel)
theorem D283_120 {g : im_g} : im_D g 283 120 (.iload_n 3) 121 := im_D.of (by decide +kernel)
theorem D283_121 {g : im_g} : im_D g 283 121 (.iconst 1) 122 := im_D.of (by decide +kernel)
theorem D283_122 {g : im_g} : im_D g 283 122 (.iadd) 123 := im_D.of (by decide +kernel)
theorem D283_123 {g : im_g} : im_D g 283 123 (.invokevirtual 652) 126 := im_D.of (by decide +kernel)
theorem D283_126 {g : im_g} : im_D g 283 126 (.aload_n 0) 127 := im_D.of (by decide +kernel)
theorem D283_127 {g : im_g} : im_D g 283 127 (.iconst 1) 128 := im_D.of (by decide +kernel)
theorem D283_128 {g : im_g} : im_D g 283 128 (.iload 5) 130 := im_D.of (by decide +kernel)
theorem D283_130 {g : im_g} : im_D g 283 130 (.iconst 2) 131 := im_D.of (by decide +kernel)
theorem D283_131 {g : im_g} : im_D g 283 131 (.iload_n 3) 132 := im_D.of (by decide +kernel)
theorem D283_132 {g : im_g} : im_D g 283 132 (.iconst 1) 133 := im_D.of (by decide +kernel)
theorem D283_133 {g : im_g} : im_D g 283 133 (.iadd) 134 := im_D.of (by decide +kernel)
theorem D283_134 {g : im_g} : im_D g 283 134 (.invokevirtual 652) 137 := im_D.of (by decide +kernel)
theorem D283_137 {g : im_g} : im_D g 283 137 (.aload_n 0) 138 := im_D.of (by decide +kernel)
theorem D283_138 {g : im_g} : im_D g 283 138 (.iconst 3) 139 := im_D.of (by decide +kernel)
theorem D283_139 {g : im_g} : im_D g 283 139 (.iload 5) 141 := im_D.of (by decide +kernel)
theorem D283_141 {g : im_g} : im_D g 283 141 (.iconst 1) 142 := im_D.of (by decide +kernel)
theorem D283_142 {g : im_g} : im_D g 283 142 (.iload_n 3) 143 := im_D.of (by decide +kernel)
theorem D283_143 {g : im_g} : im_D g 283 143 (.iconst 1) 144 := im_D.of (by decide +kernel)
theorem D283_144 {g : im_g} : im_D g 283 144 (.iadd) 145 := im_D.of (by decide +kernel)
theorem D283_145 {g : im_g} : im_D g 283 145 (.invokevirtual 652) 148 := im_D.of (by decide +kernel)
theorem D283_148 {g : im_g} : im_D g 283 148 (.goto 92) 151 := im_D.of (by decide +kernel)
theorem D283_151 {g : im_g} : im_D g 283 151 (.iload 4) 153 := im_D.of (by decide +kernel)
theorem D283_153 {g : im_g} : im_D g 283 153 (.iconst 1) 154 := im_D.of (by decide +kernel)
theorem D283_154 {g : im_g} : im_D g 283 154 (.if_icmp .eq 86) 157 := im_D.of (by decide +kernel)
theorem D283_157 {g : im_g} : im_D g 283 157 (.aload_n 0) 158 := im_D.of (by decide +kernel)
theorem D283_158 {g : im_g} : im_D g 283 158 (.iconst 1) 159 := im_D.of (by decide +kernel)
theorem D283_159 {g : im_g} : im_D g 283 159 (.iload 5) 161 := im_D.of (by decide +kernel)
theorem D283_161 {g : im_g} : im_D g 283 161 (.iconst 2) 162 := im_D.of (by decide +kernel)
theorem D283_162 {g : im_g} : im_D g 283 162 (.iload_n 3) 163 := im_D.of (by decide +kernel)
theorem D283_163 {g : im_g} : im_D g 283 163 (.iconst 1) 164 := im_D.of (by decide +kernel)
theorem D283_164 {g : im_g} : im_D g 283 164 (.iadd) 165 := im_D.of (by decide +kernel)
theorem D283_165 {g : im_g} : im_D g 283 165 (.invokevirtual 652) 168 := im_D.of (by decide +kernel)
theorem D283_168 {g : im_g} : im_D g 283 168 (.aload_n 0) 169 := im_D.of (by decide +kernel)
theorem D283_169 {g : im_g} : im_D g 283 169 (.iload 4) 171 := im_D.of (by decide +kernel)
theorem D283_171 {g : im_g} : im_D g 283 171 (.bipush 7) 173 := im_D.of (by decide +kernel)
theorem D283_173 {g : im_g} : im_D g 283 173 (.if_icmp .ne 7) 176 := im_D.of (by decide +kernel)
theorem D283_176 {g : im_g} : im_D g 283 176 (.iconst 3) 177 := im_D.of (by decide +kernel)
theorem D283_177 {g : im_g} : im_D g 283 177 (.goto 4) 180 := im_D.of (by decide +kernel)
theorem D283_180 {g : im_g} : im_D g 283 180 (.iconst 2) 181 := im_D.of (by decide +kernel)
theorem D283_181 {g : im_g} : im_D g 283 181 (.iload 5) 183 := im_D.of (by decide +kernel)
theorem D283_183 {g : im_g} : im_D g 283 183 (.iconst 1) 184 := im_D.of (by decide +kernel)
theorem D283_184 {g : im_g} : im_D g 283 184 (.iload_n 3) 185 := im_D.of (by decide +kernel)
theorem D283_185 {g : im_g} : im_D g 283 185 (.iconst 1) 186 := im_D.of (by decide +kernel)
theorem D283_186 {g : im_g} : im_D g 283 186 (.iadd) 187 := im_D.of (by decide +kernel)
theorem D283_187 {g : im_g} : im_D g 283 187 (.invokevirtual 652) 190 := im_D.of (by decide +kernel)
theorem D283_190 {g : im_g} : im_D g 283 190 (.iload 4) 192 := im_D.of (by decide +kernel)
theorem D283_192 {g : im_g} : im_D g 283 192 (.iconst 2) 193 := im_D.of (by decide +kernel)
theorem D283_193 {g : im_g} : im_D g 283 193 (.if_icmp .ne 31) 196 := im_D.of (by decide +kernel)
theorem D283_196 {g : im_g} : im_D g 283 196 (.aload_n 0) 197 := im_D.of (by decide +kernel)
theorem D283_197 {g : im_g} : im_D g 283 197 (.iconst 4) 198 := im_D.of (by decide +kernel)
theorem D283_198 {g : im_g} : im_D g 283 198 (.iload 5) 200 := im_D.of (by decide +kernel)
theorem D283_200 {g : im_g} : im_D g 283 200 (.iconst 3) 201 := im_D.of (by decide +kernel)
theorem D283_201 {g : im_g} : im_D g 283 201 (.iload_n 3) 202 := im_D.of (by decide +kernel)
theorem D283_202 {g : im_g} : im_D g 283 202 (.invokevirtual 652) 205 := im_D.of (by decide +kernel)
theorem D283_205 {g : im_g} : im_D g 283 205 (.aload_n 0) 206 := im_D.of (by decide +kernel)
theorem D283_206 {g : im_g} : im_D g 283 206 (.iconst 4) 207 := im_D.of (by decide +kernel)
theorem D283_207 {g : im_g} : im_D g 283 207 (.iload 5) 209 := im_D.of (by decide +kernel)
theorem D283_209 {g : im_g} : im_D g 283 209 (.iconst 2) 210 := im_D.of (by decide +kernel)
theorem D283_210 {g : im_g} : im_D g 283 210 (.iload_n 3) 211 := im_D.of (by decide +kernel)
theorem D283_211 {g : im_g} : im_D g 283 211 (.invokevirtual 652) 214 := im_D.of (by decide +kernel)
theorem D283_214 {g : im_g} : im_D g 283 214 (.aload_n 0) 215 := im_D.of (by decide +kernel)
theorem D283_215 {g : im_g} : im_D g 283 215 (.bipush 6) 217 := im_D.of (by decide +kernel)
theorem D283_217 {g : im_g} : im_D g 283 217 (.iload 5) 219 := im_D.of (by decide +kernel)
theorem D283_219 {g : im_g} : im_D g 283 219 (.iconst 0) 220 := im_D.of (by decide +kernel)
theorem D283_220 {g : im_g} : im_D g 283 220 (.iload_n 3) 221 := im_D.of (by decide +kernel)
theorem D283_221 {g : im_g} : im_D g 283 221 (.invokevirtual 652) 224 := im_D.of (by decide +kernel)
theorem D283_224 {g : im_g} : im_D g 283 224 (.iload 4) 226 := im_D.of (by decide +kernel)
theorem D283_226 {g : im_g} : im_D g 283 226 (.bipush 7) 228 := im_D.of (by decide +kernel)
theorem D283_228 {g : im_g} : im_D g 283 228 (.if_icmp .eq 12) 231 := im_D.of (by decide +kernel)
theorem D283_231 {g : im_g} : im_D g 283 231 (.aload_n 0) 232 := im_D.of (by decide +kernel)
theorem D283_232 {g : im_g} : im_D g 283 232 (.iconst 4) 233 := im_D.of (by decide +kernel)
theorem D283_233 {g : im_g} : im_D g 283 233 (.iload 5) 235 := im_D.of (by decide +kernel)
theorem D283_235 {g : im_g} : im_D g 283 235 (.iconst 1) 236 := im_D.of (by decide +kernel)
theorem D283_236 {g : im_g} : im_D g 283 236 (.iload_n 3) 237 := im_D.of (by decide +kernel)
theorem D283_237 {g : im_g} : im_D g 283 237 (.invokevirtual 652) 240 := im_D.of (by decide +kernel)
theorem D283_240 {g : im_g} : im_D g 283 240 (.return_) 241 := im_D.of (by decide +kernel)
theorem D284_0 {g : im_g} : im_D g 284 0 (.lload_n 0) 1 := im_D.of (by decide +kernel)
theorem D284_1 {g : im_g} : im_D g 284 1 (.ldc2_w 505) 4 := im_D.of (by decide +kernel)
theorem D284_4 {g : im_g} : im_D g 284 4 (.lcmp) 5 := im_D.of (by decide +kernel)
theorem D284_5 {g : im_g} : im_D g 284 5 (.ifCond .ne 7) 8 := im_D.of (by decide +kernel)
theorem D284_8 {g : im_g} : im_D g 284 8 (.iconst 1) 9 := im_D.of (by decide +kernel)
theorem D284_9 {g : im_g} : im_D g 284 9 (.goto 66) 12 := im_D.of (by decide +kernel)
theorem D284_12 {g : im_g} : im_D g 284 12 (.lload_n 0) 13 := im_D.of (by decide +kernel)
theorem D284_13 {g : im_g} : im_D g 284 13 (.ldc2_w 507) 16 := im_D.of (by decide +kernel)
theorem D284_16 {g : im_g} : im_D g 284 16 (.lcmp) 17 := im_D.of (by decide +kernel)
theorem D284_17 {g : im_g} : im_D g 284 17 (.ifCond .ne 7) 20 := im_D.of (by decide +kernel)
theorem D284_20 {g : im_g} : im_D g 284 20 (.iconst 2) 21 := im_D.of (by decide +kernel)
theorem D284_21 {g : im_g} : im_D g 284 21 (.goto 54) 24 := im_D.of (by decide +kernel)
theorem D284_24 {g : im_g} : im_D g 284 24 (.lload_n 0) 25 := im_D.of (by decide +kernel)
theorem D284_25 {g : im_g} : im_D g 284 25 (.ldc2_w 513) 28 := im_D.of (by decide +kernel)
theorem D284_28 {g : im_g} : im_D g 284 28 (.lcmp) 29 := im_D.of (by decide +kernel)
theorem D284_29 {g : im_g} : im_D g 284 29 (.ifCond .ne 7) 32 := im_D.of (by decide +kernel)
theorem D284_32 {g : im_g} : im_D g 284 32 (.iconst 4) 33 := im_D.of (by decide +kernel)
theorem D284_33 {g : im_g} : im_D g 284 33 (.goto 42) 36 := im_D.of (by decide +kernel)
theorem D284_36 {g : im_g} : im_D g 284 36 (.lload_n 0) 37 := im_D.of (by decide +kernel)
theorem D284_37 {g : im_g} : im_D g 284 37 (.ldc2_w 515) 40 := im_D.of (by decide +kernel)
theorem D284_40 {g : im_g} : im_D g 284 40 (.lcmp) 41 := im_D.of (by decide +kernel)
theorem D284_41 {g : im_g} : im_D g 284 41 (.ifCond .ne 7) 44 := im_D.of (by decide +kernel)
theorem D284_44 {g : im_g} : im_D g 284 44 (.iconst 5) 45 := im_D.of (by decide +kernel)
theorem D284_45 {g : im_g} : im_D g 284 45 (.goto 30) 48 := im_D.of (by decide +kernel)
theorem D284_48 {g : im_g} : im_D g 284 48 (.lload_n 0) 49 := im_D.of (by decide +kernel)
theorem D284_49 {g : im_g} : im_D g 284 49 (.ldc2_w 525) 52 := im_D.of (by decide +kernel)
theorem D284_52 {g : im_g} : im_D g 284 52 (.lcmp) 53 := im_D.of (by decide +kernel)
theorem D284_53 {g : im_g} : im_D g 284 53 (.ifCond .ne 8) 56 := im_D.of (by decide +kernel)
theorem D284_56 {g : im_g} : im_D g 284 56 (.bipush 6) 58 := im_D.of (by decide +kernel)
theorem D284_58 {g : im_g} : im_D g 284 58 (.goto 17) 61 := im_D.of (by decide +kernel)
theorem D284_61 {g : im_g} : im_D g 284 61 (.lload_n 0) 62 := im_D.of (by decide +kernel)
theorem D284_62 {g : im_g} : im_D g 284 62 (.ldc2_w 527) 65 := im_D.of (by decide +kernel)
theorem D284_65 {g : im_g} : im_D g 284 65 (.lcmp) 66 := im_D.of (by decide +kernel)
theorem D284_66 {g : im_g} : im_D g 284 66 (.ifCond .ne 8) 69 := im_D.of (by decide +kernel)
theorem D284_69 {g : im_g} : im_D g 284 69 (.bipush 7) 71 := im_D.of (by decide +kernel)
theorem D284_71 {g : im_g} : im_D g 284 71 (.goto 4) 74 := im_D.of (by decide +kernel)
theorem D284_74 {g : im_g} : im_D g 284 74 (.iconst 0) 75 := im_D.of (by decide +kernel)
theorem D284_75 {g : im_g} : im_D g 284 75 (.ireturn) 76 := im_D.of (by decide +kernel)
theorem D285_0 {g : im_g} : im_D g 285 0 (.aload_n 0) 1 := im_D.of (by decide +kernel)
theorem D285_1 {g : im_g} : im_D g 285 1 (.aload_n 0) 2 := im_D.of (by decide +kernel)
theorem D285_2 {g : im_g} : im_D g 285 2 (.getfield 591) 5 := im_D.of (by decide +kernel)
theorem D285_5 {g : im_g} : im_D g 285 5 (.bipush 9) 7 := im_D.of (by decide +kernel)
theorem D285_7 {g : im_g} : im_D g 285 7 (.if_icmp .ne 7) 10 := im_D.of (by decide +kernel)
theorem D285_10 {g : im_g} : im_D g 285 10 (.iconst 1) 11 := im_D.of (by decide +kernel)
theorem D285_11 {g : im_g} : im_D g 285 11 (.goto 28) 14 := im_D.of (by decide +kernel)
theorem D285_14 {g : im_g} : im_D g 285 14 (.aload_n 0) 15 := im_D.of (by decide +kernel)
theorem D285_15 {g : im_g} : im_D g 285 15 (.getfield 591) 18 := im_D.of (by decide +kernel)
theorem D285_18 {g : im_g} : im_D g 285 18 (.bipush 10) 20 := im_D.of (by decide +kernel)
theorem D285_20 {g : im_g} : im_D g 285 20 (.if_icmp .ne 7) 23 := im_D.of (by decide +kernel)
theorem D285_23 {g : im_g} : im_D g 285 23 (.iconst 2) 24 := im_D.of (by decide +kernel)
theorem D285_24 {g : im_g} : im_D g 285 24 (.goto 15) 27 := im_D.of (by decide +kernel)
theorem D285_27 {g : im_g} : im_D g 285 27 (.aload_n 0) 28 := im_D.of (by decide +kernel)
theorem D285_28 {g : im_g} : im_D g 285 28 (.getfield 591) 31 := im_D.of (by decide +kernel)
theorem D285_31 {g : im_g} : im_D g 285 31 (.ifCond .ne 7) 34 := im_D.of (by decide +kernel)
theorem D285_34 {g : im_g} : im_D g 285 34 (.iconst 3) 35 := im_D.of (by decide +kernel)
theorem D285_35 {g : im_g} : im_D g 285 35 (.goto 4) 38 := im_D.of (by decide +kernel)
theorem D285_38 {g : im_g} : im_D g 285 38 (.iconst 4) 39 := im_D.of (by decide +kernel)
theorem D285_39 {g : im_g} : im_D g 285 39 (.invokevirtual 614) 42 := im_D.of (by decide +kernel)
theorem D285_42 {g : im_g} : im_D g 285 42 (.return_) 43 := im_D.of (by decide +kernel)
theorem D286_0 {g : im_g} : im_D g 286 0 (.aload_n 0) 1 := im_D.of (by decide +kernel)
theorem D286_1 {g : im_g} : im_D g 286 1 (.getfield 403) 4 := im_D.of (by decide +kernel)
theorem D286_4 {g : im_g} : im_D g 286 4 (.ifCond .ne 16) 7 := im_D.of (by decide +kernel)
theorem D286_7 {g : im_g} : im_D g 286 7 (.aload_n 0) 8 := im_D.of (by decide +kernel)
theorem D286_8 {g : im_g} : im_D g 286 8 (.iload_n 1) 9 := im_D.of (by decide +kernel)
theorem D286_9 {g : im_g} : im_D g 286 9 (.putfield 403) 12 := im_D.of (by decide +kernel)
theorem D286_12 {g : im_g} : im_D g 286 12 (.aload_n 0) 13 := im_D.of (by decide +kernel)
theorem D286_13 {g : im_g} : im_D g 286 13 (.aload_n 0) 14 := im_D.of (by decide +kernel)
theorem D286_14 {g : im_g} : im_D g 286 14 (.getfield 585) 17 := im_D.of (by decide +kernel)
theorem D286_17 {g : im_g} : im_D g 286 17 (.putfield 406) 20 := im_D.of (by decide +kernel)
theorem D286_20 {g : im_g} : im_D g 286 20 (.return_) 21 := im_D.of (by decide +kernel)
theorem D287_0 {g : im_g} : im_D g 287 0 (.iload_n 2) 1 := im_D.of (by decide +kernel)
theorem D287_1 {g : im_g} : im_D g 287 1 (.bipush 100) 3 := im_D.of (by decide +kernel)
theorem D287_3 {g : im_g} : im_D g 287 3 (.if_icmp .gt 18) 6 := im_D.of (by decide +kernel)
theorem D287_6 {g : im_g} : im_D g 287 6 (.aload_n 0) 7 := im_D.of (by decide +kernel)
theorem D287_7 {g : im_g} : im_D g 287 7 (.getfield 629) 10 := im_D.of (by decide +kernel)
theorem D287_10 {g : im_g} : im_D g 287 10 (.aload_n 0) 11 := im_D.of (by decide +kernel)
theorem D287_11 {g : im_g} : im_D g 287 11 (.getfield 632) 14 := im_D.of (by decide +kernel)
theorem D287_14 {g : im_g} : im_D g 287 14 (.isub) 15 := im_D.of (by decide +kernel)
theorem D287_15 {g : im_g} : im_D g 287 15 (.sipush 1000) 18 := im_D.of (by decide +kernel)
theorem D287_18 {g : im_g} : im_D g 287 18 (.if_icmp .ne 11) 21 := im_D.of (by decide +kernel)
theorem D287_21 {g : im_g} : im_D g 287 21 (.aload_n 0) 22 := im_D.of (by decide +kernel)
theorem D287_22 {g : im_g} : im_D g 287 22 (.bipush 7) 24 := im_D.of (by decide +kernel)
theorem D287_24 {g : im_g} : im_D g 287 24 (.invokevirtual 614) 27 := im_D.of (by decide +kernel)
theorem D287_27 {g : im_g} : im_D g 287 27 (.iconst (-1)) 28 := im_D.of (by decide +kernel)
theorem D287_28 {g : im_g} : im_D g 287 28 (.ireturn) 29 := im_D.of (by decide +kernel)
theorem D287_29 {g : im_g} : im_D g 287 29 (.aload_n 0) 30 := im_D.of (by decide +kernel)
theorem D287_30 {g : im_g} : im_D g 287 30 (.getfield 629) 33 := im_D.of (by decide +kernel)
theorem D287_33 {g : im_g} : im_D g 287 33 (.istore_n 3) 34 := im_D.of (by decide +kernel)
theorem D287_34 {g : im_g} : im_D g 287 34 (.aload_n 0) 35 := im_D.of (by decide +kernel)
theorem D287_35 {g : im_g} : im_D g 287 35 (.dup) 36 := im_D.of (by decide +kernel)
theorem D287_36 {g : im_g} : im_D g 287 36 (.getfield 629) 39 := im_D.of (by decide +kernel)
theorem D287_39 {g : im_g} : im_D g 287 39 (.iconst 1) 40 := im_D.of (by decide +kernel)
theorem D287_40 {g : im_g} : im_D g 287 40 (.iadd) 41 := im_D.of (by decide +kernel)
theorem D287_41 {g : im_g} : im_D g 287 41 (.putfield 629) 44 := im_D.of (by decide +kernel)
theorem D287_44 {g : im_g} : im_D g 287 44 (.aload_n 0) 45 := im_D.of (by decide +kernel)
theorem D287_45 {g : im_g} : im_D g 287 45 (.getfield 33) 48 := im_D.of (by decide +kernel)
theorem D287_48 {g : im_g} : im_D g 287 48 (.iload_n 3) 49 := im_D.of (by decide +kernel)
theorem D287_49 {g : im_g} : im_D g 287 49 (.iload_n 1) 50 := im_D.of (by decide +kernel)
theorem D287_50 {g : im_g} : im_D g 287 50 (.iastore) 51 := im_D.of (by decide +kernel)
theorem D287_51 {g : im_g} : im_D g 287 51 (.aload_n 0) 52 := im_D.of (by decide +kernel)
theorem D287_52 {g : im_g} : im_D g 287 52 (.getfield 36) 55 := im_D.of (by decide +kernel)
theorem D287_55 {g : im_g} : im_D g 287 55 (.iload_n 3) 56 := im_D.of (by decide +kernel)
theorem D287_56 {g : im_g} : im_D g 287 56 (.lconst 0) 57 := im_D.of (by decide +kernel)
theorem D287_57 {g : im_g} : im_D g 287 57 (.lastore) 58 := im_D.of (by decide +kernel)
theorem D287_58 {g : im_g} : im_D g 287 58 (.aload_n 0) 59 := im_D.of (by decide +kernel)
theorem D287_59 {g : im_g} : im_D g 287 59 (.getfield 39) 62 := im_D.of (by decide +kernel)
theorem D287_62 {g : im_g} : im_D g 287 62 (.iload_n 3) 63 := im_D.of (by decide +kernel)
theorem D287_63 {g : im_g} : im_D g 287 63 (.lconst 0) 64 := im_D.of (by decide +kernel)
theorem D287_64 {g : im_g} : im_D g 287 64 (.lastore) 65 := im_D.of (by decide +kernel)
theorem D287_65 {g : im_g} : im_D g 287 65 (.aload_n 0) 66 := im_D.of (by decide +kernel)
theorem D287_66 {g : im_g} : im_D g 287 66 (.getfield 42) 69 := im_D.of (by decide +kernel)
theorem D287_69 {g : im_g} : im_D g 287 69 (.iload_n 3) 70 := im_D.of (by decide +kernel)
theorem D287_70 {g : im_g} : im_D g 287 70 (.lconst 0) 71 := im_D.of (by decide +kernel)
theorem D287_71 {g : im_g} : im_D g 287 71 (.lastore) 72 := im_D.of (by decide +kernel)
theorem D287_72 {g : im_g} : im_D g 287 72 (.aload_n 0) 73 := im_D.of (by decide +kernel)
theorem D287_73 {g : im_g} : im_D g 287 73 (.getfield 45) 76 := im_D.of (by decide +kernel)
theorem D287_76 {g : im_g} : im_D g 287 76 (.iload_n 3) 77 := im_D.of (by decide +kernel)
theorem D287_77 {g : im_g} : im_D g 287 77 (.iconst (-1)) 78 := im_D.of (by decide +kernel)
theorem D287_78 {g : im_g} : im_D g 287 78 (.iastore) 79 := im_D.of (by decide +kernel)
theorem D287_79 {g : im_g} : im_D g 287 79 (.aload_n 0) 80 := im_D.of (by decide +kernel)
theorem D287_80 {g : im_g} : im_D g 287 80 (.getfield 48) 83 := im_D.of (by decide +kernel)
theorem D287_83 {g : im_g} : im_D g 287 83 (.iload_n 3) 84 := im_D.of (by decide +kernel)
theorem D287_84 {g : im_g} : im_D g 287 84 (.iconst (-1)) 85 := im_D.of (by decide +kernel)
theorem D287_85 {g : im_g} : im_D g 287 85 (.iastore) 86 := im_D.of (by decide +kernel)
theorem D287_86 {g : im_g} : im_D g 287 86 (.aload_n 0) 87 := im_D.of (by decide +kernel)
theorem D287_87 {g : im_g} : im_D g 287 87 (.getfield 51) 90 := im_D.of (by decide +kernel)
theorem D287_90 {g : im_g} : im_D g 287 90 (.iload_n 3) 91 := im_D.of (by decide +kernel)
theorem D287_91 {g : im_g} : im_D g 287 91 (.iconst (-1)) 92 := im_D.of (by decide +kernel)
theorem D287_92 {g : im_g} : im_D g 287 92 (.iastore) 93 := im_D.of (by decide +kernel)
theorem D287_93 {g : im_g} : im_D g 287 93 (.aload_n 0) 94 := im_D.of (by decide +kernel)
theorem D287_94 {g : im_g} : im_D g 287 94 (.getfield 54) 97 := im_D.of (by decide +kernel)
theorem D287_97 {g : im_g} : im_D g 287 97 (.iload_n 3) 98 := im_D.of (by decide +kernel)
theorem D287_98 {g : im_g} : im_D g 287 98 (.iconst (-1)) 99 := im_D.of (by decide +kernel)
theorem D287_99 {g : im_g} : im_D g 287 99 (.iastore) 100 := im_D.of (by decide +kernel)
theorem D287_100 {g : im_g} : im_D g 287 100 (.aload_n 0) 101 := im_D.of (by decide +kernel)
theorem D287_101 {g : im_g} : im_D g 287 101 (.getfield 63) 104 := im_D.of (by decide +kernel)
theorem D287_104 {g : im_g} : im_D g 287 104 (.iload_n 3) 105 := im_D.of (by decide +kernel)
theorem D287_105 {g : im_g} : im_D g 287 105 (.iconst 0) 106 := im_D.of (by decide +kernel)
theorem D287_106 {g : im_g} : im_D g 287 106 (.bastore) 107 := im_D.of (by decide +kernel)
theorem D287_107 {g : im_g} : im_D g 287 107 (.aload_n 0) 108 := im_D.of (by decide +kernel)
theorem D287_108 {g : im_g} : im_D g 287 108 (.getfield 70) 111 := im_D.of (by decide +kernel)
theorem D287_111 {g : im_g} : im_D g 287 111 (.iload_n 3) 112 := im_D.of (by decide +kernel)
theorem D287_112 {g : im_g} : im_D g 287 112 (.iconst 0) 113 := im_D.of (by decide +kernel)
theorem D287_113 {g : im_g} : im_D g 287 113 (.iastore) 114 := im_D.of (by decide +kernel)
theorem D287_114 {g : im_g} : im_D g 287 114 (.iload_n 3) 115 := im_D.of (by decide +kernel)
theorem D287_115 {g : im_g} : im_D g 287 115 (.ireturn) 116 := im_D.of (by decide +kernel)
theorem D288_0 {g : im_g} : im_D g 288 0 (.iload_n 1) 1 := im_D.of (by decide +kernel)
theorem D288_1 {g : im_g} : im_D g 288 1 (.iconst (-1)) 2 := im_D.of (by decide +kernel)
theorem D288_2 {g : im_g} : im_D g 288 2 (.if_icmp .ne 11) 5 := im_D.of (by decide +kernel)
theorem D288_5 {g : im_g} : im_D g 288 5 (.aload_n 0) 6 := im_D.of (by decide +kernel)
theorem D288_6 {g : im_g} : im_D g 288 6 (.iload_n 3) 7 := im_D.of (by decide +kernel)
theorem D288_7 {g : im_g} : im_D g 288 7 (.putfield 626) 10 := im_D.of (by decide +kernel)
theorem D288_10 {g : im_g} : im_D g 288 10 (.goto 40) 13 := im_D.of (by decide +kernel)
theorem D288_13 {g : im_g} : im_D g 288 13 (.iload_n 2) 14 := im_D.of (by decide +kernel)
theorem D288_14 {g : im_g} : im_D g 288 14 (.iconst 1) 15 := im_D.of (by decide +kernel)
theorem D288_15 {g : im_g} : im_D g 288 15 (.if_icmp .ne 13) 18 := im_D.of (by decide +kernel)
theorem D288_18 {g : im_g} : im_D g 288 18 (.aload_n 0) 19 := im_D.of (by decide +kernel)
theorem D288_19 {g : im_g} : im_D g 288 19 (.getfield 45) 22 := im_D.of (by decide +kernel)
theorem D288_22 {g : im_g} : im_D g 288 22 (.iload_n 1) 23 := im_D.of (by decide +kernel)
theorem D288_23 {g : im_g} : im_D g 288 23 (.iload_n 3) 24 := im_D.of (by decide +kernel)
theorem D288_24 {g : im_g} : im_D g 288 24 (.iastore) 25 := im_D.of (by decide +kernel)
theorem D288_25 {g : im_g} : im_D g 288 25 (.goto 25) 28 := im_D.of (by decide +kernel)
theorem D288_28 {g : im_g} : im_D g 288 28 (.iload_n 2) 29 := im_D.of (by decide +kernel)
theorem D288_29 {g : im_g} : im_D g 288 29 (.iconst 2) 30 := im_D.of (by decide +kernel)
theorem D288_30 {g : im_g} : im_D g 288 30 (.if_icmp .ne 13) 33 := im_D.of (by decide +kernel)
theorem D288_33 {g : im_g} : im_D g 288 33 (.aload_n 0) 34 := im_D.of (by decide +kernel)
theorem D288_34 {g : im_g} : im_D g 288 34 (.getfield 48) 37 := im_D.of (by decide +kernel)
theorem D288_37 {g : im_g} : im_D g 288 37 (.iload_n 1) 38 := im_D.of (by decide +kernel)
theorem D288_38 {g : im_g} : im_D g 288 38 (.iload_n 3) 39 := im_D.of (by decide +kernel)
theorem D288_39 {g : im_g} : im_D g 288 39 (.iastore) 40 := im_D.of (by decide +kernel)
theorem D288_40 {g : im_g} : im_D g 288 40 (.goto 10) 43 := im_D.of (by decide +kernel)
theorem D288_43 {g : im_g} : im_D g 288 43 (.aload_n 0) 44 := im_D.of (by decide +kernel)
theorem D288_44 {g : im_g} : im_D g 288 44 (.getfield 51) 47 := im_D.of (by decide +kernel)
theorem D288_47 {g : im_g} : im_D g 288 47 (.iload_n 1) 48 := im_D.of (by decide +kernel)
theorem D288_48 {g : im_g} : im_D g 288 48 (.iload_n 3) 49 := im_D.of (by decide +kernel)
theorem D288_49 {g : im_g} : im_D g 288 49 (.iastore) 50 := im_D.of (by decide +kernel)
theorem D288_50 {g : im_g} : im_D g 288 50 (.return_) 51 := im_D.of (by decide +kernel)
set_option maxRecDepth 20000 in
set_option maxHeartbeats 4000000 in
theorem b_readContract_0 {g : im_g} {d : Nat} {e : im_E} {M : im_M} {K : im_K} {p1 p2 p3 : Int} (hd : 1 ≤ d) (hP : ((¬ (M 6952 15) = 2 → ((¬ 0 = 0 → im_T g (d - 1) 287 0 [some (.ref 6952), some (vI 0), some (vI p3), none] [] e M (im_ri (fun x6 e_ M5 => e = e_ ∧ (im_i32 x6) ∧ ((¬ x6 = (-1) → im_T g (d - 1) 288 0 [some (.ref 6952), some (vI p1), some (vI p2), some (vI x6)] [] e M5 (im_r0 (fun  e_ M9 => e = e_ ∧ im_T g (d - 1) 282 0 [some (.ref 6952)] [] e M9 (im_r0 (fun  e_ M10 => e = e_ ∧ ((¬ 0 = 5 → ((¬ 0 = 4 → ((0 = 1 → K (.inl none) e M10) ∧ (¬ 0 = 1 → im_T g (d - 1) 275 0 [some (.ref 6952), some (vI 1), some (vI x6), some (vI 2), some (vI (p3 + 1))] [] e M10 (im_r0 (fun  e_ M14 => e = e_ ∧ ((∀ x16 : Int, (((¬ 0 = 7) ∧ x16 = 2) ∨ ((0 = 7) ∧ x16 = 3)) → im_T g (d - 1) 275 0 [some (.ref 6952), some (vI x16), some (vI x6), some (vI 1), some (vI (p3 + 1))] [] e M14 (im_r0 (fun  e_ M20 => e = e_ ∧ ((¬ 0 = 2 → ((0 = 7 → K (.inl none) e M20) ∧ (¬ 0 = 7 → im_T g (d - 1) 275 0 [some (.ref 6952), some (vI 4), some (vI x6), some (vI 1), some (vI p3)] [] e M20 (im_r0 (fun  e_ M23 => e = e_ ∧ K (.inl none) e M23))))) ∧ (0 = 2 → im_T g (d - 1) 275 0 [some (.ref 6952), some (vI 4), some (vI x6), some (vI 3), some (vI p3)] [] e M20 (im_r0 (fun  e_ M25 => e = e_ ∧ im_T g (d - 1) 275 0 [some (.ref 6952), some (vI 4), some (vI x6), some (vI 2), some (vI p3)] [] e M25 (im_r0 (fun  e_ M26 => e = e_ ∧ im_T g (d - 1) 275 0 [some (.ref 6952), some (vI 6), some (vI x6), some (vI 0), some (vI p3)] [] e M26 (im_r0 (fun  e_ M27 => e = e_ ∧ ((0 = 7 → K (.inl none) e M27) ∧ (¬ 0 = 7 → im_T g (d - 1) 275 0 [some (.ref 6952), some (vI 4), some (vI x6), some (vI 1), some (vI p3)] [] e M27 (im_r0 (fun  e_ M29 => e = e_ ∧ K (.inl none) e M29))))))))))))))))))))) ∧ (0 = 4 → im_T g (d - 1) 275 0 [some (.ref 6952), some (vI 1), some (vI x6), some (vI 3), some (vI (p3 + 1))] [] e M10 (im_r0 (fun  e_ M36 => e = e_ ∧ im_T g (d - 1) 275 0 [some (.ref 6952), some (vI 1), some (vI x6), some (vI 2), some (vI (p3 + 1))] [] e M36 (im_r0 (fun  e_ M37 => e = e_ ∧ im_T g (d - 1) 275 0 [some (.ref 6952), some (vI 3), some (vI x6), some (vI 1), some (vI (p3 + 1))] [] e M37 (im_r0 (fun  e_ M38 => e = e_ ∧ K (.inl none) e M38))))))))) ∧ (0 = 5 → im_T g (d - 1) 275 0 [some (.ref 6952), some (vI 1), some (vI x6), some (vI 2), some (vI (p3 + 1))] [] e M10 (im_r0 (fun  e_ M42 => e = e_ ∧ im_T g (d - 1) 275 0 [some (.ref 6952), some (vI 9), some (vI x6), some (vI 0), some (vI p3)] [] e M42 (im_r0 (fun  e_ M43 => e = e_ ∧ im_T g (d - 1) 275 0 [some (.ref 6952), some (vI 8), some (vI x6), some (vI 0), some (vI p3)] [] e M43 (im_r0 (fun  e_ M44 => e = e_ ∧ im_T g (d - 1) 275 0 [some (.ref 6952), some (vI 7), some (vI x6), some (vI 0), some (vI p3)] [] e M44 (im_r0 (fun  e_ M45 => e = e_ ∧ K (.inl none) e M45))))))))))))))) ∧ (x6 = (-1) → K (.inl none) e M5))))) ∧ (0 = 0 → im_T g (d - 1) 285 0 [some (.ref 6952)] [] e M (im_r0 (fun  e_ M53 => e = e_ ∧ K (.inl none) e M53))))) ∧ ((M 6952 15) = 2 → im_T g (d - 1) 284 0 [some (vL (M 6952 18)), none] [] e M (im_ri (fun x56 e_ M55 => e = e_ ∧ (im_i32 x56) ∧ ((¬ x56 = 0 → im_T g (d - 1) 287 0 [some (.ref 6952), some (vI x56), some (vI p3), none] [] e M55 (im_ri (fun x60 e_ M59 => e = e_ ∧ (im_i32 x60) ∧ ((¬ x60 = (-1) → im_T g (d - 1) 288 0 [some (.ref 6952), some (vI p1), some (vI p2), some (vI x60)] [] e M59 (im_r0 (fun  e_ M63 => e = e_ ∧ im_T g (d - 1) 282 0 [some (.ref 6952)] [] e M63 (im_r0 (fun  e_ M64 => e = e_ ∧ ((¬ x56 = 5 → ((¬ x56 = 4 → ((x56 = 1 → K (.inl none) e M64) ∧ (¬ x56 = 1 → im_T g (d - 1) 275 0 [some (.ref 6952), some (vI 1), some (vI x60), some (vI 2), some (vI (p3 + 1))] [] e M64 (im_r0 (fun  e_ M68 => e = e_ ∧ ((∀ x70 : Int, (((¬ x56 = 7) ∧ x70 = 2) ∨ ((x56 = 7) ∧ x70 = 3)) → im_T g (d - 1) 275 0 [some (.ref 6952), some (vI x70), some (vI x60), some (vI 1), some (vI (p3 + 1))] [] e M68 (im_r0 (fun  e_ M74 => e = e_ ∧ ((¬ x56 = 2 → ((x56 = 7 → K (.inl none) e M74) ∧ (¬ x56 = 7 → im_T g (d - 1) 275 0 [some (.ref 6952), some (vI 4), some (vI x60), some (vI 1), some (vI p3)] [] e M74 (im_r0 (fun  e_ M77 => e = e_ ∧ K (.inl none) e M77))))) ∧ (x56 = 2 → im_T g (d - 1) 275 0 [some (.ref 6952), some (vI 4), some (vI x60), some (vI 3), some (vI p3)] [] e M74 (im_r0 (fun  e_ M79 => e = e_ ∧ im_T g (d - 1) 275 0 [some (.ref 6952), some (vI 4), some (vI x60), some (vI 2), some (vI p3)] [] e M79 (im_r0 (fun  e_ M80 => e = e_ ∧ im_T g (d - 1) 275 0 [some (.ref 6952), some (vI 6), some (vI x60), some (vI 0), some (vI p3)] [] e M80 (im_r0 (fun  e_ M81 => e = e_ ∧ ((x56 = 7 → K (.inl none) e M81) ∧ (¬ x56 = 7 → im_T g (d - 1) 275 0 [some (.ref 6952), some (vI 4), some (vI x60), some (vI 1), some (vI p3)] [] e M81 (im_r0 (fun  e_ M83 => e = e_ ∧ K (.inl none) e M83))))))))))))))))))))) ∧ (x56 = 4 → im_T g (d - 1) 275 0 [some (.ref 6952), some (vI 1), some (vI x60), some (vI 3), some (vI (p3 + 1))] [] e M64 (im_r0 (fun  e_ M90 => e = e_ ∧ im_T g (d - 1) 275 0 [some (.ref 6952), some (vI 1), some (vI x60), some (vI 2), some (vI (p3 + 1))] [] e M90 (im_r0 (fun  e_ M91 => e = e_ ∧ im_T g (d - 1) 275 0 [some (.ref 6952), some (vI 3), some (vI x60), some (vI 1), some (vI (p3 + 1))] [] e M91 (im_r0 (fun  e_ M92 => e = e_ ∧ K (.inl none) e M92))))))))) ∧ (x56 = 5 → im_T g (d - 1) 275 0 [some (.ref 6952), some (vI 1), some (vI x60), some (vI 2), some (vI (p3 + 1))] [] e M64 (im_r0 (fun  e_ M96 => e = e_ ∧ im_T g (d - 1) 275 0 [some (.ref 6952), some (vI 9), some (vI x60), some (vI 0), some (vI p3)] [] e M96 (im_r0 (fun  e_ M97 => e = e_ ∧ im_T g (d - 1) 275 0 [some (.ref 6952), some (vI 8), some (vI x60), some (vI 0), some (vI p3)] [] e M97 (im_r0 (fun  e_ M98 => e = e_ ∧ im_T g (d - 1) 275 0 [some (.ref 6952), some (vI 7), some (vI x60), some (vI 0), some (vI p3)] [] e M98 (im_r0 (fun  e_ M99 => e = e_ ∧ K (.inl none) e M99))))))))))))))) ∧ (x60 = (-1) → K (.inl none) e M59))))) ∧ (x56 = 0 → im_T g (d - 1) 285 0 [some (.ref 6952)] [] e M55 (im_r0 (fun  e_ M107 => e = e_ ∧ K (.inl none) e M107))))))))) : im_T g d 283 0 [some (.ref 6952), some (vI p1), some (vI p2), some (vI p3), none, none] [] e M K := by
  refine im_ld (q := 1) (i := 0) D283_0 rfl rfl rfl ?_
  refine im_rng (j := 15) sf_6952 (by decide) (by decide) (fun hr1 => ?_)
  refine im_gfI (q := 4) D283_1 (im_fl cn_283 fl_12_591) sf_6952 rfl rfl tI_12_15 rfl ?_
  refine im_iconst (q := 5) D283_4 ?_
  refine im_icmp (q := 8) (t := 18) D283_5 rfl hr1 (by decide) (fun hc2 => ?_) (fun hc2 => ?_)
  · replace hP := hP.1 hc2
    refine im_iconst (q := 19) D283_18 ?_
    refine im_st1 (q := 21) (i := 4) (L' := [some (.ref 6952), some (vI p1), some (vI p2), some (vI p3), some (vI 0), none]) D283_19 (Or.inr rfl) (Nat.le_of_ble_eq_true rfl) rfl ?_
    refine im_ld (q := 23) (i := 4) D283_21 rfl rfl rfl ?_
    refine im_ifc (q := 26) (t := 31) D283_23 rfl (by decide) (fun hc4 => ?_) (fun hc4 => ?_)
    · replace hP := hP.1 hc4
      refine im_ld (q := 32) (i := 0) D283_31 rfl rfl rfl ?_
      refine im_ld (q := 34) (i := 4) D283_32 rfl rfl rfl ?_
      refine im_ld (q := 35) (i := 3) D283_34 rfl rfl rfl ?_
      refine im_callV (q := 38) (kd := 1) (y := 287) (n := 2) (ci := 12) (a := 6952) (vs := [.ref 6952, vI 0, vI p3]) (r := []) (L2 := [some (.ref 6952), some (vI 0), some (vI p3), none]) D283_35 (im_cal cn_283 cl_12_642) (Or.inl rfl) rfl sf_6952 rfl rfl rfl rfl hd ⟨rfl, rfl, rfl, trivial⟩ ?_
      refine hP.mono ?_
      rintro _ e52 M5 ⟨x6, rfl, rfl, hP⟩
      refine im_bkS ?_
      refine im_st1 (q := 40) (i := 5) (L' := [some (.ref 6952), some (vI p1), some (vI p2), some (vI p3), some (vI 0), some (vI x6)]) D283_38 (Or.inr rfl) (Nat.le_of_ble_eq_true rfl) rfl ?_
      refine im_ld (q := 42) (i := 5) D283_40 rfl rfl rfl ?_
      refine im_iconst (q := 43) D283_42 ?_
      obtain ⟨hg7, hP⟩ := hP
      refine im_icmp (q := 46) (t := 47) D283_43 rfl hg7 (by decide) (fun hc8 => ?_) (fun hc8 => ?_)
      · replace hP := hP.1 hc8
        refine im_ld (q := 48) (i := 0) D283_47 rfl rfl rfl ?_
        refine im_ld (q := 49) (i := 1) D283_48 rfl rfl rfl ?_
        refine im_ld (q := 50) (i := 2) D283_49 rfl rfl rfl ?_
        refine im_ld (q := 52) (i := 5) D283_50 rfl rfl rfl ?_
        refine im_callV (q := 55) (kd := 1) (y := 288) (n := 3) (ci := 12) (a := 6952) (vs := [.ref 6952, vI p1, vI p2, vI x6]) (r := []) (L2 := [some (.ref 6952), some (vI p1), some (vI p2), some (vI x6)]) D283_52 (im_cal cn_283 cl_12_645) (Or.inl rfl) rfl sf_6952 rfl rfl rfl rfl hd ⟨rfl, rfl, rfl, rfl, trivial⟩ ?_
        refine hP.mono ?_
        rintro _ e51 M9 ⟨rfl, rfl, hP⟩
        refine im_bkN ?_
        refine im_ld (q := 56) (i := 0) D283_55 rfl rfl rfl ?_
        refine im_callV (q := 59) (kd := 1) (y := 282) (n := 0) (ci := 12) (a := 6952) (vs := [.ref 6952]) (r := []) (L2 := [some (.ref 6952)]) D283_56 (im_cal cn_283 cl_12_649) (Or.inl rfl) rfl sf_6952 rfl rfl rfl rfl hd ⟨rfl, trivial⟩ ?_
        refine hP.mono ?_
        rintro _ e50 M10 ⟨rfl, rfl, hP⟩
        refine im_bkN ?_
        refine im_ld (q := 61) (i := 4) D283_59 rfl rfl rfl ?_
        refine im_iconst (q := 62) D283_61 ?_
        refine im_icmp (q := 65) (t := 109) D283_62 rfl (by decide) (by decide) (fun hc11 => ?_) (fun hc11 => ?_)
        · replace hP := hP.1 hc11
          refine im_ld (q := 111) (i := 4) D283_109 rfl rfl rfl ?_
          refine im_iconst (q := 112) D283_111 ?_
          refine im_icmp (q := 115) (t := 151) D283_112 rfl (by decide) (by decide) (fun hc12 => ?_) (fun hc12 => ?_)
          · replace hP := hP.1 hc12
            refine im_ld (q := 153) (i := 4) D283_151 rfl rfl rfl ?_
            refine im_iconst (q := 154) D283_153 ?_
            refine im_icmp (q := 157) (t := 240) D283_154 rfl (by decide) (by decide) (fun hc13 => ?_) (fun hc13 => ?_)
            · replace hP := hP.1 hc13
              exact im_vret (q := 241) D283_240 rfl hP
            · replace hP := hP.2 hc13
              refine im_ld (q := 158) (i := 0) D283_157 rfl rfl rfl ?_
              refine im_iconst (q := 159) D283_158 ?_
              refine im_ld (q := 161) (i := 5) D283_159 rfl rfl rfl ?_
              refine im_iconst (q := 162) D283_161 ?_
              refine im_ld (q := 163) (i := 3) D283_162 rfl rfl rfl ?_
              refine im_iconst (q := 164) D283_163 ?_
              refine im_iadd (q := 165) D283_164 ?_
              refine im_callV (q := 168) (kd := 1) (y := 275) (n := 4) (ci := 12) (a := 6952) (vs := [.ref 6952, vI 1, vI x6, vI 2, vI (p3 + 1)]) (r := []) (L2 := [some (.ref 6952), some (vI 1), some (vI x6), some (vI 2), some (vI (p3 + 1))]) D283_165 (im_cal cn_283 cl_12_652) (Or.inl rfl) rfl sf_6952 rfl rfl rfl rfl hd ⟨rfl, rfl, rfl, rfl, rfl, trivial⟩ ?_
              refine hP.mono ?_
              rintro _ e35 M14 ⟨rfl, rfl, hP⟩
              refine im_bkN ?_
              refine im_ld (q := 169) (i := 0) D283_168 rfl rfl rfl ?_
              refine im_ld (q := 171) (i := 4) D283_169 rfl rfl rfl ?_
              refine im_bipush (q := 173) D283_171 rfl ?_
              have hJ17 := hP
              have kJ18 : ∀ x16 : Int, (((¬ 0 = 7) ∧ x16 = 2) ∨ ((0 = 7) ∧ x16 = 3)) → im_T g d 283 181 [some (.ref 6952), none, none, some (vI p3), some (vI 0), some (vI x6)] [vI x16, .ref 6952] e M14 K := by
                intro x16 hx19
                have hP := hJ17 x16 hx19
                refine im_ld (q := 183) (i := 5) D283_181 rfl rfl rfl ?_
                refine im_iconst (q := 184) D283_183 ?_
                refine im_ld (q := 185) (i := 3) D283_184 rfl rfl rfl ?_
                refine im_iconst (q := 186) D283_185 ?_
                refine im_iadd (q := 187) D283_186 ?_
                refine im_callV (q := 190) (kd := 1) (y := 275) (n := 4) (ci := 12) (a := 6952) (vs := [.ref 6952, vI x16, vI x6, vI 1, vI (p3 + 1)]) (r := []) (L2 := [some (.ref 6952), some (vI x16), some (vI x6), some (vI 1), some (vI (p3 + 1))]) D283_187 (im_cal cn_283 cl_12_652) (Or.inl rfl) rfl sf_6952 rfl rfl rfl rfl hd ⟨rfl, rfl, rfl, rfl, rfl, trivial⟩ ?_
                refine hP.mono ?_
                rintro _ e34 M20 ⟨rfl, rfl, hP⟩
                refine im_bkN ?_
                refine im_ld (q := 192) (i := 4) D283_190 rfl rfl rfl ?_
                refine im_iconst (q := 193) D283_192 ?_
                refine im_icmp (q := 196) (t := 224) D283_193 rfl (by decide) (by decide) (fun hc21 => ?_) (fun hc21 => ?_)
                · replace hP := hP.1 hc21
                  refine im_ld (q := 226) (i := 4) D283_224 rfl rfl rfl ?_
                  refine im_bipush (q := 228) D283_226 rfl ?_
                  refine im_icmp (q := 231) (t := 240) D283_228 rfl (by decide) (by decide) (fun hc22 => ?_) (fun hc22 => ?_)
                  · replace hP := hP.1 hc22
                    exact im_vret (q := 241) D283_240 rfl hP
                  · replace hP := hP.2 hc22
                    refine im_ld (q := 232) (i := 0) D283_231 rfl rfl rfl ?_
                    refine im_iconst (q := 233) D283_232 ?_
                    refine im_ld (q := 235) (i := 5) D283_233 rfl rfl rfl ?_
                    refine im_iconst (q := 236) D283_235 ?_
                    refine im_ld (q := 237) (i := 3) D283_236 rfl rfl rfl ?_
                    refine im_callV (q := 240) (kd := 1) (y := 275) (n := 4) (ci := 12) (a := 6952) (vs := [.ref 6952, vI 4, vI x6, vI 1, vI p3]) (r := []) (L2 := [some (.ref 6952), some (vI 4), some (vI x6), some (vI 1), some (vI p3)]) D283_237 (im_cal cn_283 cl_12_652) (Or.inl rfl) rfl sf_6952 rfl rfl rfl rfl hd ⟨rfl, rfl, rfl, rfl, rfl, trivial⟩ ?_
                    refine hP.mono ?_
                    rintro _ e24 M23 ⟨rfl, rfl, hP⟩
                    refine im_bkN ?_
                    exact im_vret (q := 241) D283_240 rfl hP
                · replace hP := hP.2 (Decidable.not_not.mp hc21)
                  refine im_ld (q := 197) (i := 0) D283_196 rfl rfl rfl ?_
                  refine im_iconst (q := 198) D283_197 ?_
                  refine im_ld (q := 200) (i := 5) D283_198 rfl rfl rfl ?_
                  refine im_iconst (q := 201) D283_200 ?_
                  refine im_ld (q := 202) (i := 3) D283_201 rfl rfl rfl ?_
                  refine im_callV (q := 205) (kd := 1) (y := 275) (n := 4) (ci := 12) (a := 6952) (vs := [.ref 6952, vI 4, vI x6, vI 3, vI p3]) (r := []) (L2 := [some (.ref 6952), some (vI 4), some (vI x6), some (vI 3), some (vI p3)]) D283_202 (im_cal cn_283 cl_12_652) (Or.inl rfl) rfl sf_6952 rfl rfl rfl rfl hd ⟨rfl, rfl, rfl, rfl, rfl, trivial⟩ ?_
                  refine hP.mono ?_
                  rintro _ e33 M25 ⟨rfl, rfl, hP⟩
                  refine im_bkN ?_
                  refine im_ld (q := 206) (i := 0) D283_205 rfl rfl rfl ?_
                  refine im_iconst (q := 207) D283_206 ?_
                  refine im_ld (q := 209) (i := 5) D283_207 rfl rfl rfl ?_
                  refine im_iconst (q := 210) D283_209 ?_
                  refine im_ld (q := 211) (i := 3) D283_210 rfl rfl rfl ?_
                  refine im_callV (q := 214) (kd := 1) (y := 275) (n := 4) (ci := 12) (a := 6952) (vs := [.ref 6952, vI 4, vI x6, vI 2, vI p3]) (r := []) (L2 := [some (.ref 6952), some (vI 4), some (vI x6), some (vI 2), some (vI p3)]) D283_211 (im_cal cn_283 cl_12_652) (Or.inl rfl) rfl sf_6952 rfl rfl rfl rfl hd ⟨rfl, rfl, rfl, rfl, rfl, trivial⟩ ?_
                  refine hP.mono ?_
                  rintro _ e32 M26 ⟨rfl, rfl, hP⟩
                  refine im_bkN ?_
                  refine im_ld (q := 215) (i := 0) D283_214 rfl rfl rfl ?_
                  refine im_bipush (q := 217) D283_215 rfl ?_
                  refine im_ld (q := 219) (i := 5) D283_217 rfl rfl rfl ?_
                  refine im_iconst (q := 220) D283_219 ?_
                  refine im_ld (q := 221) (i := 3) D283_220 rfl rfl rfl ?_
                  refine im_callV (q := 224) (kd := 1) (y := 275) (n := 4) (ci := 12) (a := 6952) (vs := [.ref 6952, vI 6, vI x6, vI 0, vI p3]) (r := []) (L2 := [some (.ref 6952), some (vI 6), some (vI x6), some (vI 0), some (vI p3)]) D283_221 (im_cal cn_283 cl_12_652) (Or.inl rfl) rfl sf_6952 rfl rfl rfl rfl hd ⟨rfl, rfl, rfl, rfl, rfl, trivial⟩ ?_
                  refine hP.mono ?_
                  rintro _ e31 M27 ⟨rfl, rfl, hP⟩
                  refine im_bkN ?_
                  refine im_ld (q := 226) (i := 4) D283_224 rfl rfl rfl ?_
                  refine im_bipush (q := 228) D283_226 rfl ?_
                  refine im_icmp (q := 231) (t := 240) D283_228 rfl (by decide) (by decide) (fun hc28 => ?_) (fun hc28 => ?_)
                  · replace hP := hP.1 hc28
                    exact im_vret (q := 241) D283_240 rfl hP
                  · replace hP := hP.2 hc28
                    refine im_ld (q := 232) (i := 0) D283_231 rfl rfl rfl ?_
                    refine im_iconst (q := 233) D283_232 ?_
                    refine im_ld (q := 235) (i := 5) D283_233 rfl rfl rfl ?_
                    refine im_iconst (q := 236) D283_235 ?_
                    refine im_ld (q := 237) (i := 3) D283_236 rfl rfl rfl ?_
                    refine im_callV (q := 240) (kd := 1) (y := 275) (n := 4) (ci := 12) (a := 6952) (vs := [.ref 6952, vI 4, vI x6, vI 1, vI p3]) (r := []) (L2 := [some (.ref 6952), some (vI 4), some (vI x6), some (vI 1), some (vI p3)]) D283_237 (im_cal cn_283 cl_12_652) (Or.inl rfl) rfl sf_6952 rfl rfl rfl rfl hd ⟨rfl, rfl, rfl, rfl, rfl, trivial⟩ ?_
                    refine hP.mono ?_
                    rintro _ e30 M29 ⟨rfl, rfl, hP⟩
                    refine im_bkN ?_
                    exact im_vret (q := 241) D283_240 rfl hP
              refine im_icmp (q := 176) (t := 180) D283_173 rfl (by decide) (by decide) (fun hc15 => ?_) (fun hc15 => ?_)
              · refine im_iconst (q := 181) D283_180 ?_
                exact (kJ18 (2) (Or.inl ⟨hc15, rfl⟩)).wk ⟨rfl, rfl, rfl, rfl, trivial⟩
              · refine im_iconst (q := 177) D283_176 ?_
                refine im_goto (q := 180) (t := 181) D283_177 rfl ?_
                exact (kJ18 (3) (Or.inr ⟨(Decidable.not_not.mp hc15), rfl⟩)).wk ⟨rfl, rfl, rfl, rfl, trivial⟩
          · replace hP := hP.2 (Decidable.not_not.mp hc12)
            refine im_ld (q := 116) (i := 0) D283_115 rfl rfl rfl ?_
            refine im_iconst (q := 117) D283_116 ?_
            refine im_ld (q := 119) (i := 5) D283_117 rfl rfl rfl ?_
            refine im_iconst (q := 120) D283_119 ?_
            refine im_ld (q := 121) (i := 3) D283_120 rfl rfl rfl ?_
            refine im_iconst (q := 122) D283_121 ?_
            refine im_iadd (q := 123) D283_122 ?_
            refine im_callV (q := 126) (kd := 1) (y := 275) (n := 4) (ci := 12) (a := 6952) (vs := [.ref 6952, vI 1, vI x6, vI 3, vI (p3 + 1)]) (r := []) (L2 := [some (.ref 6952), some (vI 1), some (vI x6), some (vI 3), some (vI (p3 + 1))]) D283_123 (im_cal cn_283 cl_12_652) (Or.inl rfl) rfl sf_6952 rfl rfl rfl rfl hd ⟨rfl, rfl, rfl, rfl, rfl, trivial⟩ ?_
            refine hP.mono ?_
            rintro _ e41 M36 ⟨rfl, rfl, hP⟩
            refine im_bkN ?_
            refine im_ld (q := 127) (i := 0) D283_126 rfl rfl rfl ?_
            refine im_iconst (q := 128) D283_127 ?_
            refine im_ld (q := 130) (i := 5) D283_128 rfl rfl rfl ?_
            refine im_iconst (q := 131) D283_130 ?_
            refine im_ld (q := 132) (i := 3) D283_131 rfl rfl rfl ?_
            refine im_iconst (q := 133) D283_132 ?_
            refine im_iadd (q := 134) D283_133 ?_
            refine im_callV (q := 137) (kd := 1) (y := 275) (n := 4) (ci := 12) (a := 6952) (vs := [.ref 6952, vI 1, vI x6, vI 2, vI (p3 + 1)]) (r := []) (L2 := [some (.ref 6952), some (vI 1), some (vI x6), some (vI 2), some (vI (p3 + 1))]) D283_134 (im_cal cn_283 cl_12_652) (Or.inl rfl) rfl sf_6952 rfl rfl rfl rfl hd ⟨rfl, rfl, rfl, rfl, rfl, trivial⟩ ?_
            refine hP.mono ?_
            rintro _ e40 M37 ⟨rfl, rfl, hP⟩
            refine im_bkN ?_
            refine im_ld (q := 138) (i := 0) D283_137 rfl rfl rfl ?_
            refine im_iconst (q := 139) D283_138 ?_
            refine im_ld (q := 141) (i := 5) D283_139 rfl rfl rfl ?_
            refine im_iconst (q := 142) D283_141 ?_
            refine im_ld (q := 143) (i := 3) D283_142 rfl rfl rfl ?_
            refine im_iconst (q := 144) D283_143 ?_
            refine im_iadd (q := 145) D283_144 ?_
            refine im_callV (q := 148) (kd := 1) (y := 275) (n := 4) (ci := 12) (a := 6952) (vs := [.ref 6952, vI 3, vI x6, vI 1, vI (p3 + 1)]) (r := []) (L2 := [some (.ref 6952), some (vI 3), some (vI x6), some (vI 1), some (vI (p3 + 1))]) D283_145 (im_cal cn_283 cl_12_652) (Or.inl rfl) rfl sf_6952 rfl rfl rfl rfl hd ⟨rfl, rfl, rfl, rfl, rfl, trivial⟩ ?_
            refine hP.mono ?_
            rintro _ e39 M38 ⟨rfl, rfl, hP⟩
            refine im_bkN ?_
            refine im_goto (q := 151) (t := 240) D283_148 rfl ?_
            exact im_vret (q := 241) D283_240 rfl hP
        · replace hP := hP.2 (Decidable.not_not.mp hc11)
          refine im_ld (q := 66) (i := 0) D283_65 rfl rfl rfl ?_
          refine im_iconst (q := 67) D283_66 ?_
          refine im_ld (q := 69) (i := 5) D283_67 rfl rfl rfl ?_
          refine im_iconst (q := 70) D283_69 ?_
          refine im_ld (q := 71) (i := 3) D283_70 rfl rfl rfl ?_
          refine im_iconst (q := 72) D283_71 ?_
          refine im_iadd (q := 73) D283_72 ?_
          refine im_callV (q := 76) (kd := 1) (y := 275) (n := 4) (ci := 12) (a := 6952) (vs := [.ref 6952, vI 1, vI x6, vI 2, vI (p3 + 1)]) (r := []) (L2 := [some (.ref 6952), some (vI 1), some (vI x6), some (vI 2), some (vI (p3 + 1))]) D283_73 (im_cal cn_283 cl_12_652) (Or.inl rfl) rfl sf_6952 rfl rfl rfl rfl hd ⟨rfl, rfl, rfl, rfl, rfl, trivial⟩ ?_
          refine hP.mono ?_
          rintro _ e49 M42 ⟨rfl, rfl, hP⟩
          refine im_bkN ?_
          refine im_ld (q := 77) (i := 0) D283_76 rfl rfl rfl ?_
          refine im_bipush (q := 79) D283_77 rfl ?_
          refine im_ld (q := 81) (i := 5) D283_79 rfl rfl rfl ?_
          refine im_iconst (q := 82) D283_81 ?_
          refine im_ld (q := 83) (i := 3) D283_82 rfl rfl rfl ?_
          refine im_callV (q := 86) (kd := 1) (y := 275) (n := 4) (ci := 12) (a := 6952) (vs := [.ref 6952, vI 9, vI x6, vI 0, vI p3]) (r := []) (L2 := [some (.ref 6952), some (vI 9), some (vI x6), some (vI 0), some (vI p3)]) D283_83 (im_cal cn_283 cl_12_652) (Or.inl rfl) rfl sf_6952 rfl rfl rfl rfl hd ⟨rfl, rfl, rfl, rfl, rfl, trivial⟩ ?_
          refine hP.mono ?_
          rintro _ e48 M43 ⟨rfl, rfl, hP⟩
          refine im_bkN ?_
          refine im_ld (q := 87) (i := 0) D283_86 rfl rfl rfl ?_
          refine im_bipush (q := 89) D283_87 rfl ?_
          refine im_ld (q := 91) (i := 5) D283_89 rfl rfl rfl ?_
          refine im_iconst (q := 92) D283_91 ?_
          refine im_ld (q := 93) (i := 3) D283_92 rfl rfl rfl ?_
          refine im_callV (q := 96) (kd := 1) (y := 275) (n := 4) (ci := 12) (a := 6952) (vs := [.ref 6952, vI 8, vI x6, vI 0, vI p3]) (r := []) (L2 := [some (.ref 6952), some (vI 8), some (vI x6), some (vI 0), some (vI p3)]) D283_93 (im_cal cn_283 cl_12_652) (Or.inl rfl) rfl sf_6952 rfl rfl rfl rfl hd ⟨rfl, rfl, rfl, rfl, rfl, trivial⟩ ?_
          refine hP.mono ?_
          rintro _ e47 M44 ⟨rfl, rfl, hP⟩
          refine im_bkN ?_
          refine im_ld (q := 97) (i := 0) D283_96 rfl rfl rfl ?_
          refine im_bipush (q := 99) D283_97 rfl ?_
          refine im_ld (q := 101) (i := 5) D283_99 rfl rfl rfl ?_
          refine im_iconst (q := 102) D283_101 ?_
          refine im_ld (q := 103) (i := 3) D283_102 rfl rfl rfl ?_
          refine im_callV (q := 106) (kd := 1) (y := 275) (n := 4) (ci := 12) (a := 6952) (vs := [.ref 6952, vI 7, vI x6, vI 0, vI p3]) (r := []) (L2 := [some (.ref 6952), some (vI 7), some (vI x6), some (vI 0), some (vI p3)]) D283_103 (im_cal cn_283 cl_12_652) (Or.inl rfl) rfl sf_6952 rfl rfl rfl rfl hd ⟨rfl, rfl, rfl, rfl, rfl, trivial⟩ ?_
          refine hP.mono ?_
          rintro _ e46 M45 ⟨rfl, rfl, hP⟩
          refine im_bkN ?_
          refine im_goto (q := 109) (t := 240) D283_106 rfl ?_
          exact im_vret (q := 241) D283_240 rfl hP
      · replace hP := hP.2 (Decidable.not_not.mp hc8)
        exact im_vret (q := 47) D283_46 rfl hP
    · replace hP := hP.2 (Decidable.not_not.mp hc4)
      refine im_ld (q := 27) (i := 0) D283_26 rfl rfl rfl ?_
      refine im_callV (q := 30) (kd := 1) (y := 285) (n := 0) (ci := 12) (a := 6952) (vs := [.ref 6952]) (r := []) (L2 := [some (.ref 6952)]) D283_27 (im_cal cn_283 cl_12_639) (Or.inl rfl) rfl sf_6952 rfl rfl rfl rfl hd ⟨rfl, trivial⟩ ?_
      refine hP.mono ?_
      rintro _ e54 M53 ⟨rfl, rfl, hP⟩
      refine im_bkN ?_
      exact im_vret (q := 31) D283_30 rfl hP
  · replace hP := hP.2 (Decidable.not_not.mp hc2)
    refine im_ld (q := 9) (i := 0) D283_8 rfl rfl rfl ?_
    refine im_rng (j := 18) sf_6952 (by decide) (by decide) (fun hr3 => ?_)
    refine im_gfL (q := 12) D283_9 (im_fl cn_283 fl_12_597) sf_6952 rfl rfl tL_12_18 rfl ?_
    refine im_callS (q := 15) (kd := 0) (y := 284) (n := 1) (z := 12) (vs := [vL (M 6952 18)]) (r := []) (L2 := [some (vL (M 6952 18)), none]) D283_12 rfl (im_cal cn_283 cl_12_635) (Or.inl rfl) rfl rfl rfl rfl rfl hd ⟨rfl, trivial⟩ ?_
    refine hP.mono ?_
    rintro _ e109 M55 ⟨x56, rfl, rfl, hP⟩
    refine im_bkS ?_
    refine im_goto (q := 18) (t := 19) D283_15 rfl ?_
    refine im_st1 (q := 21) (i := 4) (L' := [some (.ref 6952), some (vI p1), some (vI p2), some (vI p3), some (vI x56), none]) D283_19 (Or.inr rfl) (Nat.le_of_ble_eq_true rfl) rfl ?_
    refine im_ld (q := 23) (i := 4) D283_21 rfl rfl rfl ?_
    obtain ⟨hg57, hP⟩ := hP
    refine im_ifc (q := 26) (t := 31) D283_23 rfl hg57 (fun hc58 => ?_) (fun hc58 => ?_)
    · replace hP := hP.1 hc58
      refine im_ld (q := 32) (i := 0) D283_31 rfl rfl rfl ?_
      refine im_ld (q := 34) (i := 4) D283_32 rfl rfl rfl ?_
      refine im_ld (q := 35) (i := 3) D283_34 rfl rfl rfl ?_
      refine im_callV (q := 38) (kd := 1) (y := 287) (n := 2) (ci := 12) (a := 6952) (vs := [.ref 6952, vI x56, vI p3]) (r := []) (L2 := [some (.ref 6952), some (vI x56), some (vI p3), none]) D283_35 (im_cal cn_283 cl_12_642) (Or.inl rfl) rfl sf_6952 rfl rfl rfl rfl hd ⟨rfl, rfl, rfl, trivial⟩ ?_
      refine hP.mono ?_
      rintro _ e106 M59 ⟨x60, rfl, rfl, hP⟩
      refine im_bkS ?_
      refine im_st1 (q := 40) (i := 5) (L' := [some (.ref 6952), some (vI p1), some (vI p2), some (vI p3), some (vI x56), some (vI x60)]) D283_38 (Or.inr rfl) (Nat.le_of_ble_eq_true rfl) rfl ?_
      refine im_ld (q := 42) (i := 5) D283_40 rfl rfl rfl ?_
      refine im_iconst (q := 43) D283_42 ?_
      obtain ⟨hg61, hP⟩ := hP
      refine im_icmp (q := 46) (t := 47) D283_43 rfl hg61 (by decide) (fun hc62 => ?_) (fun hc62 => ?_)
      · replace hP := hP.1 hc62
        refine im_ld (q := 48) (i := 0) D283_47 rfl rfl rfl ?_
        refine im_ld (q := 49) (i := 1) D283_48 rfl rfl rfl ?_
        refine im_ld (q := 50) (i := 2) D283_49 rfl rfl rfl ?_
        refine im_ld (q := 52) (i := 5) D283_50 rfl rfl rfl ?_
        refine im_callV (q := 55) (kd := 1) (y := 288) (n := 3) (ci := 12) (a := 6952) (vs := [.ref 6952, vI p1, vI p2, vI x60]) (r := []) (L2 := [some (.ref 6952), some (vI p1), some (vI p2), some (vI x60)]) D283_52 (im_cal cn_283 cl_12_645) (Or.inl rfl) rfl sf_6952 rfl rfl rfl rfl hd ⟨rfl, rfl, rfl, rfl, trivial⟩ ?_
        refine hP.mono ?_
        rintro _ e105 M63 ⟨rfl, rfl, hP⟩
        refine im_bkN ?_
        refine im_ld (q := 56) (i := 0) D283_55 rfl rfl rfl ?_
        refine im_callV (q := 59) (kd := 1) (y := 282) (n := 0) (ci := 12) (a := 6952) (vs := [.ref 6952]) (r := []) (L2 := [some (.ref 6952)]) D283_56 (im_cal cn_283 cl_12_649) (Or.inl rfl) rfl sf_6952 rfl rfl rfl rfl hd ⟨rfl, trivial⟩ ?_
        refine hP.mono ?_
        rintro _ e104 M64 ⟨rfl, rfl, hP⟩
        refine im_bkN ?_
        refine im_ld (q := 61) (i := 4) D283_59 rfl rfl rfl ?_
        refine im_iconst (q := 62) D283_61 ?_
        refine im_icmp (q := 65) (t := 109) D283_62 rfl hg57 (by decide) (fun hc65 => ?_) (fun hc65 => ?_)
        · replace hP := hP.1 hc65
          refine im_ld (q := 111) (i := 4) D283_109 rfl rfl rfl ?_
          refine im_iconst (q := 112) D283_111 ?_
          refine im_icmp (q := 115) (t := 151) D283_112 rfl hg57 (by decide) (fun hc66 => ?_) (fun hc66 => ?_)
          · replace hP := hP.1 hc66
            refine im_ld (q := 153) (i := 4) D283_151 rfl rfl rfl ?_
            refine im_iconst (q := 154) D283_153 ?_
            refine im_icmp (q := 157) (t := 240) D283_154 rfl hg57 (by decide) (fun hc67 => ?_) (fun hc67 => ?_)
            · replace hP := hP.1 hc67
              exact im_vret (q := 241) D283_240 rfl hP
            · replace hP := hP.2 hc67
              refine im_ld (q := 158) (i := 0) D283_157 rfl rfl rfl ?_
              refine im_iconst (q := 159) D283_158 ?_
              refine im_ld (q := 161) (i := 5) D283_159 rfl rfl rfl ?_
              refine im_iconst (q := 162) D283_161 ?_
              refine im_ld (q := 163) (i := 3) D283_162 rfl rfl rfl ?_
              refine im_iconst (q := 164) D283_163 ?_
              refine im_iadd (q := 165) D283_164 ?_
              refine im_callV (q := 168) (kd := 1) (y := 275) (n := 4) (ci := 12) (a := 6952) (vs := [.ref 6952, vI 1, vI x60, vI 2, vI (p3 + 1)]) (r := []) (L2 := [some (.ref 6952), some (vI 1), some (vI x60), some (vI 2), some (vI (p3 + 1))]) D283_165 (im_cal cn_283 cl_12_652) (Or.inl rfl) rfl sf_6952 rfl rfl rfl rfl hd ⟨rfl, rfl, rfl, rfl, rfl, trivial⟩ ?_
              refine hP.mono ?_
              rintro _ e89 M68 ⟨rfl, rfl, hP⟩
              refine im_bkN ?_
              refine im_ld (q := 169) (i := 0) D283_168 rfl rfl rfl ?_
              refine im_ld (q := 171) (i := 4) D283_169 rfl rfl rfl ?_
              refine im_bipush (q := 173) D283_171 rfl ?_
              have hJ71 := hP
              have kJ72 : ∀ x70 : Int, (((¬ x56 = 7) ∧ x70 = 2) ∨ ((x56 = 7) ∧ x70 = 3)) → im_T g d 283 181 [some (.ref 6952), none, none, some (vI p3), some (vI x56), some (vI x60)] [vI x70, .ref 6952] e M68 K := by
                intro x70 hx73
                have hP := hJ71 x70 hx73
                refine im_ld (q := 183) (i := 5) D283_181 rfl rfl rfl ?_
                refine im_iconst (q := 184) D283_183 ?_
                refine im_ld (q := 185) (i := 3) D283_184 rfl rfl rfl ?_
                refine im_iconst (q := 186) D283_185 ?_
                refine im_iadd (q := 187) D283_186 ?_
                refine im_callV (q := 190) (kd := 1) (y := 275) (n := 4) (ci := 12) (a := 6952) (vs := [.ref 6952, vI x70, vI x60, vI 1, vI (p3 + 1)]) (r := []) (L2 := [some (.ref 6952), some (vI x70), some (vI x60), some (vI 1), some (vI (p3 + 1))]) D283_187 (im_cal cn_283 cl_12_652) (Or.inl rfl) rfl sf_6952 rfl rfl rfl rfl hd ⟨rfl, rfl, rfl, rfl, rfl, trivial⟩ ?_
                refine hP.mono ?_
                rintro _ e88 M74 ⟨rfl, rfl, hP⟩
                refine im_bkN ?_
                refine im_ld (q := 192) (i := 4) D283_190 rfl rfl rfl ?_
                refine im_iconst (q := 193) D283_192 ?_
                refine im_icmp (q := 196) (t := 224) D283_193 rfl hg57 (by decide) (fun hc75 => ?_) (fun hc75 => ?_)
                · replace hP := hP.1 hc75
                  refine im_ld (q := 226) (i := 4) D283_224 rfl rfl rfl ?_
                  refine im_bipush (q := 228) D283_226 rfl ?_
                  refine im_icmp (q := 231) (t := 240) D283_228 rfl hg57 (by decide) (fun hc76 => ?_) (fun hc76 => ?_)
                  · replace hP := hP.1 hc76
                    exact im_vret (q := 241) D283_240 rfl hP
                  · replace hP := hP.2 hc76
                    refine im_ld (q := 232) (i := 0) D283_231 rfl rfl rfl ?_
                    refine im_iconst (q := 233) D283_232 ?_
                    refine im_ld (q := 235) (i := 5) D283_233 rfl rfl rfl ?_
                    refine im_iconst (q := 236) D283_235 ?_
                    refine im_ld (q := 237) (i := 3) D283_236 rfl rfl rfl ?_
                    refine im_callV (q := 240) (kd := 1) (y := 275) (n := 4) (ci := 12) (a := 6952) (vs := [.ref 6952, vI 4, vI x60, vI 1, vI p3]) (r := []) (L2 := [some (.ref 6952), some (vI 4), some (vI x60), some (vI 1), some (vI p3)]) D283_237 (im_cal cn_283 cl_12_652) (Or.inl rfl) rfl sf_6952 rfl rfl rfl rfl hd ⟨rfl, rfl, rfl, rfl, rfl, trivial⟩ ?_
                    refine hP.mono ?_
                    rintro _ e78 M77 ⟨rfl, rfl, hP⟩
                    refine im_bkN ?_
                    exact im_vret (q := 241) D283_240 rfl hP
                · replace hP := hP.2 (Decidable.not_not.mp hc75)
                  refine im_ld (q := 197) (i := 0) D283_196 rfl rfl rfl ?_
                  refine im_iconst (q := 198) D283_197 ?_
                  refine im_ld (q := 200) (i := 5) D283_198 rfl rfl rfl ?_
                  refine im_iconst (q := 201) D283_200 ?_
                  refine im_ld (q := 202) (i := 3) D283_201 rfl rfl rfl ?_
                  refine im_callV (q := 205) (kd := 1) (y := 275) (n := 4) (ci := 12) (a := 6952) (vs := [.ref 6952, vI 4, vI x60, vI 3, vI p3]) (r := []) (L2 := [some (.ref 6952), some (vI 4), some (vI x60), some (vI 3), some (vI p3)]) D283_202 (im_cal cn_283 cl_12_652) (Or.inl rfl) rfl sf_6952 rfl rfl rfl rfl hd ⟨rfl, rfl, rfl, rfl, rfl, trivial⟩ ?_
                  refine hP.mono ?_
                  rintro _ e87 M79 ⟨rfl, rfl, hP⟩
                  refine im_bkN ?_
                  refine im_ld (q := 206) (i := 0) D283_205 rfl rfl rfl ?_
                  refine im_iconst (q := 207) D283_206 ?_
                  refine im_ld (q := 209) (i := 5) D283_207 rfl rfl rfl ?_
                  refine im_iconst (q := 210) D283_209 ?_
                  refine im_ld (q := 211) (i := 3) D283_210 rfl rfl rfl ?_
                  refine im_callV (q := 214) (kd := 1) (y := 275) (n := 4) (ci := 12) (a := 6952) (vs := [.ref 6952, vI 4, vI x60, vI 2, vI p3]) (r := []) (L2 := [some (.ref 6952), some (vI 4), some (vI x60), some (vI 2), some (vI p3)]) D283_211 (im_cal cn_283 cl_12_652) (Or.inl rfl) rfl sf_6952 rfl rfl rfl rfl hd ⟨rfl, rfl, rfl, rfl, rfl, trivial⟩ ?_
                  refine hP.mono ?_
                  rintro _ e86 M80 ⟨rfl, rfl, hP⟩
                  refine im_bkN ?_
                  refine im_ld (q := 215) (i := 0) D283_214 rfl rfl rfl ?_
                  refine im_bipush (q := 217) D283_215 rfl ?_
                  refine im_ld (q := 219) (i := 5) D283_217 rfl rfl rfl ?_
                  refine im_iconst (q := 220) D283_219 ?_
                  refine im_ld (q := 221) (i := 3) D283_220 rfl rfl rfl ?_
                  refine im_callV (q := 224) (kd := 1) (y := 275) (n := 4) (ci := 12) (a := 6952) (vs := [.ref 6952, vI 6, vI x60, vI 0, vI p3]) (r := []) (L2 := [some (.ref 6952), some (vI 6), some (vI x60), some (vI 0), some (vI p3)]) D283_221 (im_cal cn_283 cl_12_652) (Or.inl rfl) rfl sf_6952 rfl rfl rfl rfl hd ⟨rfl, rfl, rfl, rfl, rfl, trivial⟩ ?_
                  refine hP.mono ?_
                  rintro _ e85 M81 ⟨rfl, rfl, hP⟩
                  refine im_bkN ?_
                  refine im_ld (q := 226) (i := 4) D283_224 rfl rfl rfl ?_
                  refine im_bipush (q := 228) D283_226 rfl ?_
                  refine im_icmp (q := 231) (t := 240) D283_228 rfl hg57 (by decide) (fun hc82 => ?_) (fun hc82 => ?_)
                  · replace hP := hP.1 hc82
                    exact im_vret (q := 241) D283_240 rfl hP
                  · replace hP := hP.2 hc82
                    refine im_ld (q := 232) (i := 0) D283_231 rfl rfl rfl ?_
                    refine im_iconst (q := 233) D283_232 ?_
                    refine im_ld (q := 235) (i := 5) D283_233 rfl rfl rfl ?_
                    refine im_iconst (q := 236) D283_235 ?_
                    refine im_ld (q := 237) (i := 3) D283_236 rfl rfl rfl ?_
                    refine im_callV (q := 240) (kd := 1) (y := 275) (n := 4) (ci := 12) (a := 6952) (vs := [.ref 6952, vI 4, vI x60, vI 1, vI p3]) (r := []) (L2 := [some (.ref 6952), some (vI 4), some (vI x60), some (vI 1), some (vI p3)]) D283_237 (im_cal cn_283 cl_12_652) (Or.inl rfl) rfl sf_6952 rfl rfl rfl rfl hd ⟨rfl, rfl, rfl, rfl, rfl, trivial⟩ ?_
                    refine hP.mono ?_
                    rintro _ e84 M83 ⟨rfl, rfl, hP⟩
                    refine im_bkN ?_
                    exact im_vret (q := 241) D283_240 rfl hP
              refine im_icmp (q := 176) (t := 180) D283_173 rfl hg57 (by decide) (fun hc69 => ?_) (fun hc69 => ?_)
              · refine im_iconst (q := 181) D283_180 ?_
                exact (kJ72 (2) (Or.inl ⟨hc69, rfl⟩)).wk ⟨rfl, rfl, rfl, rfl, trivial⟩
              · refine im_iconst (q := 177) D283_176 ?_
                refine im_goto (q := 180) (t := 181) D283_177 rfl ?_
                exact (kJ72 (3) (Or.inr ⟨(Decidable.not_not.mp hc69), rfl⟩)).wk ⟨rfl, rfl, rfl, rfl, trivial⟩
          · replace hP := hP.2 (Decidable.not_not.mp hc66)
            refine im_ld (q := 116) (i := 0) D283_115 rfl rfl rfl ?_
            refine im_iconst (q := 117) D283_116 ?_
            refine im_ld (q := 119) (i := 5) D283_117 rfl rfl rfl ?_
            refine im_iconst (q := 120) D283_119 ?_
            refine im_ld (q := 121) (i := 3) D283_120 rfl rfl rfl ?_
            refine im_iconst (q := 122) D283_121 ?_
            refine im_iadd (q := 123) D283_122 ?_
            refine im_callV (q := 126) (kd := 1) (y := 275) (n := 4) (ci := 12) (a := 6952) (vs := [.ref 6952, vI 1, vI x60, vI 3, vI (p3 + 1)]) (r := []) (L2 := [some (.ref 6952), some (vI 1), some (vI x60), some (vI 3), some (vI (p3 + 1))]) D283_123 (im_cal cn_283 cl_12_652) (Or.inl rfl) rfl sf_6952 rfl rfl rfl rfl hd ⟨rfl, rfl, rfl, rfl, rfl, trivial⟩ ?_
            refine hP.mono ?_
            rintro _ e95 M90 ⟨rfl, rfl, hP⟩
            refine im_bkN ?_
            refine im_ld (q := 127) (i := 0) D283_126 rfl rfl rfl ?_
            refine im_iconst (q := 128) D283_127 ?_
            refine im_ld (q := 130) (i := 5) D283_128 rfl rfl rfl ?_
            refine im_iconst (q := 131) D283_130 ?_
            refine im_ld (q := 132) (i := 3) D283_131 rfl rfl rfl ?_
            refine im_iconst (q := 133) D283_132 ?_
            refine im_iadd (q := 134) D283_133 ?_
            refine im_callV (q := 137) (kd := 1) (y := 275) (n := 4) (ci := 12) (a := 6952) (vs := [.ref 6952, vI 1, vI x60, vI 2, vI (p3 + 1)]) (r := []) (L2 := [some (.ref 6952), some (vI 1), some (vI x60), some (vI 2), some (vI (p3 + 1))]) D283_134 (im_cal cn_283 cl_12_652) (Or.inl rfl) rfl sf_6952 rfl rfl rfl rfl hd ⟨rfl, rfl, rfl, rfl, rfl, trivial⟩ ?_
            refine hP.mono ?_
            rintro _ e94 M91 ⟨rfl, rfl, hP⟩
            refine im_bkN ?_
            refine im_ld (q := 138) (i := 0) D283_137 rfl rfl rfl ?_
            refine im_iconst (q := 139) D283_138 ?_
            refine im_ld (q := 141) (i := 5) D283_139 rfl rfl rfl ?_
            refine im_iconst (q := 142) D283_141 ?_
            refine im_ld (q := 143) (i := 3) D283_142 rfl rfl rfl ?_
            refine im_iconst (q := 144) D283_143 ?_
            refine im_iadd (q := 145) D283_144 ?_
            refine im_callV (q := 148) (kd := 1) (y := 275) (n := 4) (ci := 12) (a := 6952) (vs := [.ref 6952, vI 3, vI x60, vI 1, vI (p3 + 1)]) (r := []) (L2 := [some (.ref 6952), some (vI 3), some (vI x60), some (vI 1), some (vI (p3 + 1))]) D283_145 (im_cal cn_283 cl_12_652) (Or.inl rfl) rfl sf_6952 rfl rfl rfl rfl hd ⟨rfl, rfl, rfl, rfl, rfl, trivial⟩ ?_
            refine hP.mono ?_
            rintro _ e93 M92 ⟨rfl, rfl, hP⟩
            refine im_bkN ?_
            refine im_goto (q := 151) (t := 240) D283_148 rfl ?_
            exact im_vret (q := 241) D283_240 rfl hP
        · replace hP := hP.2 (Decidable.not_not.mp hc65)
          refine im_ld (q := 66) (i := 0) D283_65 rfl rfl rfl ?_
          refine im_iconst (q := 67) D283_66 ?_
          refine im_ld (q := 69) (i := 5) D283_67 rfl rfl rfl ?_
          refine im_iconst (q := 70) D283_69 ?_
          refine im_ld (q := 71) (i := 3) D283_70 rfl rfl rfl ?_
          refine im_iconst (q := 72) D283_71 ?_
          refine im_iadd (q := 73) D283_72 ?_
          refine im_callV (q := 76) (kd := 1) (y := 275) (n := 4) (ci := 12) (a := 6952) (vs := [.ref 6952, vI 1, vI x60, vI 2, vI (p3 + 1)]) (r := []) (L2 := [some (.ref 6952), some (vI 1), some (vI x60), some (vI 2), some (vI (p3 + 1))]) D283_73 (im_cal cn_283 cl_12_652) (Or.inl rfl) rfl sf_6952 rfl rfl rfl rfl hd ⟨rfl, rfl, rfl, rfl, rfl, trivial⟩ ?_
          refine hP.mono ?_
          rintro _ e103 M96 ⟨rfl, rfl, hP⟩
          refine im_bkN ?_
          refine im_ld (q := 77) (i := 0) D283_76 rfl rfl rfl ?_
          refine im_bipush (q := 79) D283_77 rfl ?_
          refine im_ld (q := 81) (i := 5) D283_79 rfl rfl rfl ?_
          refine im_iconst (q := 82) D283_81 ?_
          refine im_ld (q := 83) (i := 3) D283_82 rfl rfl rfl ?_
          refine im_callV (q := 86) (kd := 1) (y := 275) (n := 4) (ci := 12) (a := 6952) (vs := [.ref 6952, vI 9, vI x60, vI 0, vI p3]) (r := []) (L2 := [some (.ref 6952), some (vI 9), some (vI x60), some (vI 0), some (vI p3)]) D283_83 (im_cal cn_283 cl_12_652) (Or.inl rfl) rfl sf_6952 rfl rfl rfl rfl hd ⟨rfl, rfl, rfl, rfl, rfl, trivial⟩ ?_
          refine hP.mono ?_
          rintro _ e102 M97 ⟨rfl, rfl, hP⟩
          refine im_bkN ?_
          refine im_ld (q := 87) (i := 0) D283_86 rfl rfl rfl ?_
          refine im_bipush (q := 89) D283_87 rfl ?_
          refine im_ld (q := 91) (i := 5) D283_89 rfl rfl rfl ?_
          refine im_iconst (q := 92) D283_91 ?_
          refine im_ld (q := 93) (i := 3) D283_92 rfl rfl rfl ?_
          refine im_callV (q := 96) (kd := 1) (y := 275) (n := 4) (ci := 12) (a := 6952) (vs := [.ref 6952, vI 8, vI x60, vI 0, vI p3]) (r := []) (L2 := [some (.ref 6952), some (vI 8), some (vI x60), some (vI 0), some (vI p3)]) D283_93 (im_cal cn_283 cl_12_652) (Or.inl rfl) rfl sf_6952 rfl rfl rfl rfl hd ⟨rfl, rfl, rfl, rfl, rfl, trivial⟩ ?_
          refine hP.mono ?_
          rintro _ e101 M98 ⟨rfl, rfl, hP⟩
          refine im_bkN ?_
          refine im_ld (q := 97) (i := 0) D283_96 rfl rfl rfl ?_
          refine im_bipush (q := 99) D283_97 rfl ?_
          refine im_ld (q := 101) (i := 5) D283_99 rfl rfl rfl ?_
          refine im_iconst (q := 102) D283_101 ?_
          refine im_ld (q := 103) (i := 3) D283_102 rfl rfl rfl ?_
          refine im_callV (q := 106) (kd := 1) (y := 275) (n := 4) (ci := 12) (a := 6952) (vs := [.ref 6952, vI 7, vI x60, vI 0, vI p3]) (r := []) (L2 := [some (.ref 6952), some (vI 7), some (vI x60), some (vI 0), some (vI p3)]) D283_103 (im_cal cn_283 cl_12_652) (Or.inl rfl) rfl sf_6952 rfl rfl rfl rfl hd ⟨rfl, rfl, rfl, rfl, rfl, trivial⟩ ?_
          refine hP.mono ?_
          rintro _ e100 M99 ⟨rfl, rfl, hP⟩
          refine im_bkN ?_
          refine im_goto (q := 109) (t := 240) D283_106 rfl ?_
          exact im_vret (q := 241) D283_240 rfl hP
      · replace hP := hP.2 (Decidable.not_not.mp hc62)
        exact im_vret (q := 47) D283_46 rfl hP
    · replace hP := hP.2 (Decidable.not_not.mp hc58)
      refine im_ld (q := 27) (i := 0) D283_26 rfl rfl rfl ?_
      refine im_callV (q := 30) (kd := 1) (y := 285) (n := 0) (ci := 12) (a := 6952) (vs := [.ref 6952]) (r := []) (L2 := [some (.ref 6952)]) D283_27 (im_cal cn_283 cl_12_639) (Or.inl rfl) rfl sf_6952 rfl rfl rfl rfl hd ⟨rfl, trivial⟩ ?_
      refine hP.mono ?_
      rintro _ e108 M107 ⟨rfl, rfl, hP⟩
      refine im_bkN ?_
      exact im_vret (q := 31) D283_30 rfl hP
set_option maxRecDepth 20000 in
set_option maxHeartbeats 4000000 in
theorem b_contractOf_0 {g : im_g} {d : Nat} {e : im_E} {M : im_M} {K : im_K} {p0 : Int} (hP : (im_i64 p0) ∧ ((∀ x8 : Int, (((¬ p0 = 427021005669) ∧ (¬ p0 = 7364985) ∧ (¬ p0 = 26982) ∧ (¬ p0 = 2003330414) ∧ (¬ p0 = 7103860) ∧ (¬ p0 = 107148485161588) ∧ x8 = 0) ∨ ((¬ p0 = 427021005669) ∧ (¬ p0 = 7364985) ∧ (¬ p0 = 26982) ∧ (¬ p0 = 2003330414) ∧ (¬ p0 = 7103860) ∧ (p0 = 107148485161588) ∧ x8 = 7) ∨ ((¬ p0 = 427021005669) ∧ (¬ p0 = 7364985) ∧ (¬ p0 = 26982) ∧ (¬ p0 = 2003330414) ∧ (p0 = 7103860) ∧ x8 = 6) ∨ ((¬ p0 = 427021005669) ∧ (¬ p0 = 7364985) ∧ (¬ p0 = 26982) ∧ (p0 = 2003330414) ∧ x8 = 5) ∨ ((¬ p0 = 427021005669) ∧ (¬ p0 = 7364985) ∧ (p0 = 26982) ∧ x8 = 4) ∨ ((¬ p0 = 427021005669) ∧ (p0 = 7364985) ∧ x8 = 2) ∨ ((p0 = 427021005669) ∧ x8 = 1)) → K (.inl (some (vI x8))) e M))) : im_T g d 284 0 [some (vL p0), none] [] e M K := by
  refine im_ld (q := 1) (i := 0) D284_0 rfl rfl rfl ?_
  refine im_ldc2 (q := 4) (n := 427021005669) D284_1 rfl ?_
  obtain ⟨hg1, hP⟩ := hP
  have hJ9 := hP
  have kJ10 : ∀ x8 : Int, (((¬ p0 = 427021005669) ∧ (¬ p0 = 7364985) ∧ (¬ p0 = 26982) ∧ (¬ p0 = 2003330414) ∧ (¬ p0 = 7103860) ∧ (¬ p0 = 107148485161588) ∧ x8 = 0) ∨ ((¬ p0 = 427021005669) ∧ (¬ p0 = 7364985) ∧ (¬ p0 = 26982) ∧ (¬ p0 = 2003330414) ∧ (¬ p0 = 7103860) ∧ (p0 = 107148485161588) ∧ x8 = 7) ∨ ((¬ p0 = 427021005669) ∧ (¬ p0 = 7364985) ∧ (¬ p0 = 26982) ∧ (¬ p0 = 2003330414) ∧ (p0 = 7103860) ∧ x8 = 6) ∨ ((¬ p0 = 427021005669) ∧ (¬ p0 = 7364985) ∧ (¬ p0 = 26982) ∧ (p0 = 2003330414) ∧ x8 = 5) ∨ ((¬ p0 = 427021005669) ∧ (¬ p0 = 7364985) ∧ (p0 = 26982) ∧ x8 = 4) ∨ ((¬ p0 = 427021005669) ∧ (p0 = 7364985) ∧ x8 = 2) ∨ ((p0 = 427021005669) ∧ x8 = 1)) → im_T g d 284 75 [none, none] [vI x8] e M K := by
    intro x8 hx11
    have hP := hJ9 x8 hx11
    exact im_iret (q := 76) D284_75 rfl hP
  refine im_lif (q := 5) (q2 := 8) (t := 12) D284_4 D284_5 rfl hg1 (by decide) (fun hc2 => ?_) (fun hc2 => ?_)
  · refine im_ld (q := 13) (i := 0) D284_12 rfl rfl rfl ?_
    refine im_ldc2 (q := 16) (n := 7364985) D284_13 rfl ?_
    refine im_lif (q := 17) (q2 := 20) (t := 24) D284_16 D284_17 rfl hg1 (by decide) (fun hc3 => ?_) (fun hc3 => ?_)
    · refine im_ld (q := 25) (i := 0) D284_24 rfl rfl rfl ?_
      refine im_ldc2 (q := 28) (n := 26982) D284_25 rfl ?_
      refine im_lif (q := 29) (q2 := 32) (t := 36) D284_28 D284_29 rfl hg1 (by decide) (fun hc4 => ?_) (fun hc4 => ?_)
      · refine im_ld (q := 37) (i := 0) D284_36 rfl rfl rfl ?_
        refine im_ldc2 (q := 40) (n := 2003330414) D284_37 rfl ?_
        refine im_lif (q := 41) (q2 := 44) (t := 48) D284_40 D284_41 rfl hg1 (by decide) (fun hc5 => ?_) (fun hc5 => ?_)
        · refine im_ld (q := 49) (i := 0) D284_48 rfl rfl rfl ?_
          refine im_ldc2 (q := 52) (n := 7103860) D284_49 rfl ?_
          refine im_lif (q := 53) (q2 := 56) (t := 61) D284_52 D284_53 rfl hg1 (by decide) (fun hc6 => ?_) (fun hc6 => ?_)
          · refine im_ld (q := 62) (i := 0) D284_61 rfl rfl rfl ?_
            refine im_ldc2 (q := 65) (n := 107148485161588) D284_62 rfl ?_
            refine im_lif (q := 66) (q2 := 69) (t := 74) D284_65 D284_66 rfl hg1 (by decide) (fun hc7 => ?_) (fun hc7 => ?_)
            · refine im_iconst (q := 75) D284_74 ?_
              exact (kJ10 (0) (Or.inl ⟨hc2, hc3, hc4, hc5, hc6, hc7, rfl⟩)).wk trivial
            · refine im_bipush (q := 71) D284_69 rfl ?_
              refine im_goto (q := 74) (t := 75) D284_71 rfl ?_
              exact (kJ10 (7) (Or.inr (Or.inl ⟨hc2, hc3, hc4, hc5, hc6, (Decidable.not_not.mp hc7), rfl⟩))).wk trivial
          · refine im_bipush (q := 58) D284_56 rfl ?_
            refine im_goto (q := 61) (t := 75) D284_58 rfl ?_
            exact (kJ10 (6) (Or.inr (Or.inr (Or.inl ⟨hc2, hc3, hc4, hc5, (Decidable.not_not.mp hc6), rfl⟩)))).wk trivial
        · refine im_iconst (q := 45) D284_44 ?_
          refine im_goto (q := 48) (t := 75) D284_45 rfl ?_
          exact (kJ10 (5) (Or.inr (Or.inr (Or.inr (Or.inl ⟨hc2, hc3, hc4, (Decidable.not_not.mp hc5), rfl⟩))))).wk trivial
      · refine im_iconst (q := 33) D284_32 ?_
        refine im_goto (q := 36) (t := 75) D284_33 rfl ?_
        exact (kJ10 (4) (Or.inr (Or.inr (Or.inr (Or.inr (Or.inl ⟨hc2, hc3, (Decidable.not_not.mp hc4), rfl⟩)))))).wk trivial
    · refine im_iconst (q := 21) D284_20 ?_
      refine im_goto (q := 24) (t := 75) D284_21 rfl ?_
      exact (kJ10 (2) (Or.inr (Or.inr (Or.inr (Or.inr (Or.inr (Or.inl ⟨hc2, (Decidable.not_not.mp hc3), rfl⟩))))))).wk trivial
  · refine im_iconst (q := 9) D284_8 ?_
    refine im_goto (q := 12) (t := 75) D284_9 rfl ?_
    exact (kJ10 (1) (Or.inr (Or.inr (Or.inr (Or.inr (Or.inr (Or.inr ⟨(Decidable.not_not.mp hc2), rfl⟩))))))).wk trivial
set_option maxRecDepth 20000 in
set_option maxHeartbeats 4000000 in
theorem b_failToken_0 {g : im_g} {d : Nat} {e : im_E} {M : im_M} {K : im_K} (hd : 1 ≤ d) (hP : ((∀ x7 : Int, (((¬ (M 6952 15) = 9) ∧ (¬ (M 6952 15) = 10) ∧ (¬ (M 6952 15) = 0) ∧ x7 = 4) ∨ ((¬ (M 6952 15) = 9) ∧ (¬ (M 6952 15) = 10) ∧ ((M 6952 15) = 0) ∧ x7 = 3) ∨ ((¬ (M 6952 15) = 9) ∧ ((M 6952 15) = 10) ∧ x7 = 2) ∨ (((M 6952 15) = 9) ∧ x7 = 1)) → im_T g (d - 1) 286 0 [some (.ref 6952), some (vI x7)] [] e M (im_r0 (fun  e_ M11 => e = e_ ∧ K (.inl none) e M11))))) : im_T g d 285 0 [some (.ref 6952)] [] e M K := by
  refine im_ld (q := 1) (i := 0) D285_0 rfl rfl rfl ?_
  refine im_ld (q := 2) (i := 0) D285_1 rfl rfl rfl ?_
  refine im_rng (j := 15) sf_6952 (by decide) (by decide) (fun hr1 => ?_)
  refine im_gfI (q := 5) D285_2 (im_fl cn_285 fl_12_591) sf_6952 rfl rfl tI_12_15 rfl ?_
  refine im_bipush (q := 7) D285_5 rfl ?_
  have hJ8 := hP
  have kJ9 : ∀ x7 : Int, (((¬ (M 6952 15) = 9) ∧ (¬ (M 6952 15) = 10) ∧ (¬ (M 6952 15) = 0) ∧ x7 = 4) ∨ ((¬ (M 6952 15) = 9) ∧ (¬ (M 6952 15) = 10) ∧ ((M 6952 15) = 0) ∧ x7 = 3) ∨ ((¬ (M 6952 15) = 9) ∧ ((M 6952 15) = 10) ∧ x7 = 2) ∨ (((M 6952 15) = 9) ∧ x7 = 1)) → im_T g d 285 39 [none] [vI x7, .ref 6952] e M K := by
    intro x7 hx10
    have hP := hJ8 x7 hx10
    refine im_callV (q := 42) (kd := 1) (y := 286) (n := 1) (ci := 12) (a := 6952) (vs := [.ref 6952, vI x7]) (r := []) (L2 := [some (.ref 6952), some (vI x7)]) D285_39 (im_cal cn_285 cl_12_614) (Or.inl rfl) rfl sf_6952 rfl rfl rfl rfl hd ⟨rfl, rfl, trivial⟩ ?_
    refine hP.mono ?_
    rintro _ e12 M11 ⟨rfl, rfl, hP⟩
    refine im_bkN ?_
    exact im_vret (q := 43) D285_42 rfl hP
  refine im_icmp (q := 10) (t := 14) D285_7 rfl hr1 (by decide) (fun hc2 => ?_) (fun hc2 => ?_)
  · refine im_ld (q := 15) (i := 0) D285_14 rfl rfl rfl ?_
    refine im_gfI (q := 18) D285_15 (im_fl cn_285 fl_12_591) sf_6952 rfl rfl tI_12_15 rfl ?_
    refine im_bipush (q := 20) D285_18 rfl ?_
    refine im_icmp (q := 23) (t := 27) D285_20 rfl hr1 (by decide) (fun hc4 => ?_) (fun hc4 => ?_)
    · refine im_ld (q := 28) (i := 0) D285_27 rfl rfl rfl ?_
      refine im_gfI (q := 31) D285_28 (im_fl cn_285 fl_12_591) sf_6952 rfl rfl tI_12_15 rfl ?_
      refine im_ifc (q := 34) (t := 38) D285_31 rfl hr1 (fun hc6 => ?_) (fun hc6 => ?_)
      · refine im_iconst (q := 39) D285_38 ?_
        exact (kJ9 (4) (Or.inl ⟨hc2, hc4, hc6, rfl⟩)).wk trivial
      · refine im_iconst (q := 35) D285_34 ?_
        refine im_goto (q := 38) (t := 39) D285_35 rfl ?_
        exact (kJ9 (3) (Or.inr (Or.inl ⟨hc2, hc4, (Decidable.not_not.mp hc6), rfl⟩))).wk trivial
    · refine im_iconst (q := 24) D285_23 ?_
      refine im_goto (q := 27) (t := 39) D285_24 rfl ?_
      exact (kJ9 (2) (Or.inr (Or.inr (Or.inl ⟨hc2, (Decidable.not_not.mp hc4), rfl⟩)))).wk trivial
  · refine im_iconst (q := 11) D285_10 ?_
    refine im_goto (q := 14) (t := 39) D285_11 rfl ?_
    exact (kJ9 (1) (Or.inr (Or.inr (Or.inr ⟨(Decidable.not_not.mp hc2), rfl⟩)))).wk trivial
set_option maxRecDepth 20000 in
set_option maxHeartbeats 4000000 in
theorem b_fail_0 {g : im_g} {d : Nat} {e : im_E} {M : im_M} {K : im_K} {p1 : Int} (hP : ((¬ (M 6952 19) = 0 → K (.inl none) e M) ∧ ((M 6952 19) = 0 → (im_i32 p1) ∧ K (.inl none) e (im_u (im_u M 6952 19 p1) 6952 20 (M 6952 16))))) : im_T g d 286 0 [some (.ref 6952), some (vI p1)] [] e M K := by
  refine im_ld (q := 1) (i := 0) D286_0 rfl rfl rfl ?_
  refine im_rng (j := 19) sf_6952 (by decide) (by decide) (fun hr1 => ?_)
  refine im_gfI (q := 4) D286_1 (im_fl cn_286 fl_12_403) sf_6952 rfl rfl tI_12_19 rfl ?_
  refine im_ifc (q := 7) (t := 20) D286_4 rfl hr1 (fun hc2 => ?_) (fun hc2 => ?_)
  · replace hP := hP.1 hc2
    exact im_vret (q := 21) D286_20 rfl hP
  · replace hP := hP.2 (Decidable.not_not.mp hc2)
    refine im_ld (q := 8) (i := 0) D286_7 rfl rfl rfl ?_
    refine im_ld (q := 9) (i := 1) D286_8 rfl rfl rfl ?_
    obtain ⟨hg3, hP⟩ := hP
    refine im_pfI (q := 12) D286_9 (im_fl cn_286 fl_12_403) sf_6952 rfl rfl ti_12_19 hg3 ?_
    refine im_ld (q := 13) (i := 0) D286_12 rfl rfl rfl ?_
    refine im_ld (q := 14) (i := 0) D286_13 rfl rfl rfl ?_
    refine im_rng (j := 16) sf_6952 (by decide) (by decide) (fun hr4 => ?_)
    refine im_gfI (q := 17) D286_14 (im_fl cn_286 fl_12_585) sf_6952 rfl rfl tI_12_16 (im_rdk _ _ _ (by decide)) ?_
    refine im_pfI (q := 20) D286_17 (im_fl cn_286 fl_12_406) sf_6952 rfl rfl ti_12_20 (im_rgc hr4 (im_rdk _ _ _ (by decide))) ?_
    exact im_vret (q := 21) D286_20 rfl hP
set_option maxRecDepth 20000 in
set_option maxHeartbeats 4000000 in
theorem b_node_0 {g : im_g} {d : Nat} {e : im_E} {M : im_M} {K : im_K} {p1 p2 : Int} (hd : 1 ≤ d) (hP : (im_i32 p2) ∧ ((((p2 ≤ 100 → (im_i32 ((M 6952 39) - (M 6952 38))) ∧ ((¬ ((M 6952 39) - (M 6952 38)) = 1000 → (im_i32 ((M 6952 39) + 1)) ∧ (0 ≤ (M 6952 39) ∧ (M 6952 39) < 5100) ∧ (im_i32 p1) ∧ K (.inl (some (vI (M 6952 39)))) e (im_u (im_u (im_u (im_u (im_u (im_u (im_u (im_u (im_u (im_u (im_u M 6952 39 ((M 6952 39) + 1)) 6960 (M 6952 39) p1) 6961 (M 6952 39) 0) 6962 (M 6952 39) 0) 6963 (M 6952 39) 0) 6964 (M 6952 39) (-1)) 6965 (M 6952 39) (-1)) 6966 (M 6952 39) (-1)) 6967 (M 6952 39) (-1)) 6970 (M 6952 39) 0) 6972 (M 6952 39) 0)))))) ∧ ((((100 < p2)) ∨ ((p2 ≤ 100) ∧ (((M 6952 39) - (M 6952 38)) = 1000))) → im_T g (d - 1) 286 0 [some (.ref 6952), some (vI 7)] [] e M (im_r0 (fun  e_ M11 => e = e_ ∧ K (.inl (some (vI (-1)))) e M11))))) : im_T g d 287 0 [some (.ref 6952), some (vI p1), some (vI p2), none] [] e M K := by
  refine im_ld (q := 1) (i := 2) D287_0 rfl rfl rfl ?_
  refine im_bipush (q := 3) D287_1 rfl ?_
  obtain ⟨hg1, hP⟩ := hP
  obtain ⟨hP, hJ8⟩ := hP
  have kJ9 : (((100 < p2)) ∨ ((p2 ≤ 100) ∧ (((M 6952 39) - (M 6952 38)) = 1000))) → im_T g d 287 21 [some (.ref 6952), none, none, none] [] e M K := by
    intro  hx10
    have hP := hJ8  hx10
    refine im_ld (q := 22) (i := 0) D287_21 rfl rfl rfl ?_
    refine im_bipush (q := 24) D287_22 rfl ?_
    refine im_callV (q := 27) (kd := 1) (y := 286) (n := 1) (ci := 12) (a := 6952) (vs := [.ref 6952, vI 7]) (r := []) (L2 := [some (.ref 6952), some (vI 7)]) D287_24 (im_cal cn_287 cl_12_614) (Or.inl rfl) rfl sf_6952 rfl rfl rfl rfl hd ⟨rfl, rfl, trivial⟩ ?_
    refine hP.mono ?_
    rintro _ e12 M11 ⟨rfl, rfl, hP⟩
    refine im_bkN ?_
    refine im_iconst (q := 28) D287_27 ?_
    exact im_iret (q := 29) D287_28 rfl hP
  refine im_icmp (q := 6) (t := 21) D287_3 rfl hg1 (by decide) (fun hc2 => ?_) (fun hc2 => ?_)
  · exact (kJ9  (Or.inl hc2)).wk ⟨rfl, trivial⟩
  · replace hP := hP (Int.not_lt.mp hc2)
    refine im_ld (q := 7) (i := 0) D287_6 rfl rfl rfl ?_
    refine im_rng (j := 39) sf_6952 (by decide) (by decide) (fun hr3 => ?_)
    refine im_gfI (q := 10) D287_7 (im_fl cn_287 fl_12_629) sf_6952 rfl rfl tI_12_39 rfl ?_
    refine im_ld (q := 11) (i := 0) D287_10 rfl rfl rfl ?_
    refine im_rng (j := 38) sf_6952 (by decide) (by decide) (fun hr4 => ?_)
    refine im_gfI (q := 14) D287_11 (im_fl cn_287 fl_12_632) sf_6952 rfl rfl tI_12_38 rfl ?_
    refine im_isub (q := 15) D287_14 ?_
    refine im_sipush (q := 18) D287_15 rfl ?_
    obtain ⟨hg5, hP⟩ := hP
    refine im_icmp (q := 21) (t := 29) D287_18 rfl hg5 (by decide) (fun hc6 => ?_) (fun hc6 => ?_)
    · replace hP := hP hc6
      refine im_ld (q := 30) (i := 0) D287_29 rfl rfl rfl ?_
      refine im_gfI (q := 33) D287_30 (im_fl cn_287 fl_12_629) sf_6952 rfl rfl tI_12_39 rfl ?_
      refine im_st1 (q := 34) (i := 3) (L' := [some (.ref 6952), some (vI p1), some (vI p2), some (vI (M 6952 39))]) D287_33 (Or.inl ⟨_, rfl, rfl⟩) (Nat.le_of_ble_eq_true rfl) rfl ?_
      refine im_ld (q := 35) (i := 0) D287_34 rfl rfl rfl ?_
      refine im_dup (q := 36) D287_35 rfl ?_
      refine im_gfI (q := 39) D287_36 (im_fl cn_287 fl_12_629) sf_6952 rfl rfl tI_12_39 rfl ?_
      refine im_iconst (q := 40) D287_39 ?_
      refine im_iadd (q := 41) D287_40 ?_
      obtain ⟨hg14, hP⟩ := hP
      refine im_pfI (q := 44) D287_41 (im_fl cn_287 fl_12_629) sf_6952 rfl rfl ti_12_39 hg14 ?_
      refine im_ld (q := 45) (i := 0) D287_44 rfl rfl rfl ?_
      refine im_gfR (q := 48) (b := 6960) D287_45 (im_fl cn_287 fl_12_33) sf_6952 rfl rfl tR_12_21 rf_6952_21 ?_
      refine im_ld (q := 49) (i := 3) D287_48 rfl rfl rfl ?_
      refine im_ld (q := 50) (i := 1) D287_49 rfl rfl rfl ?_
      obtain ⟨hg15, hP⟩ := hP
      obtain ⟨hg16, hP⟩ := hP
      refine im_iast (q := 51) D287_50 sf_6960 hg15.1 hg15.2 (by decide) hg16 ?_
      refine im_ld (q := 52) (i := 0) D287_51 rfl rfl rfl ?_
      refine im_gfR (q := 55) (b := 6961) D287_52 (im_fl cn_287 fl_12_36) sf_6952 rfl rfl tR_12_22 rf_6952_22 ?_
      refine im_ld (q := 56) (i := 3) D287_55 rfl rfl rfl ?_
      refine im_lconst (q := 57) (z := 0) D287_56 rfl ?_
      refine im_last (q := 58) D287_57 sf_6961 hg15.1 hg15.2 (by decide) (by decide) ?_
      refine im_ld (q := 59) (i := 0) D287_58 rfl rfl rfl ?_
      refine im_gfR (q := 62) (b := 6962) D287_59 (im_fl cn_287 fl_12_39) sf_6952 rfl rfl tR_12_23 rf_6952_23 ?_
      refine im_ld (q := 63) (i := 3) D287_62 rfl rfl rfl ?_
      refine im_lconst (q := 64) (z := 0) D287_63 rfl ?_
      refine im_last (q := 65) D287_64 sf_6962 hg15.1 hg15.2 (by decide) (by decide) ?_
      refine im_ld (q := 66) (i := 0) D287_65 rfl rfl rfl ?_
      refine im_gfR (q := 69) (b := 6963) D287_66 (im_fl cn_287 fl_12_42) sf_6952 rfl rfl tR_12_24 rf_6952_24 ?_
      refine im_ld (q := 70) (i := 3) D287_69 rfl rfl rfl ?_
      refine im_lconst (q := 71) (z := 0) D287_70 rfl ?_
      refine im_last (q := 72) D287_71 sf_6963 hg15.1 hg15.2 (by decide) (by decide) ?_
      refine im_ld (q := 73) (i := 0) D287_72 rfl rfl rfl ?_
      refine im_gfR (q := 76) (b := 6964) D287_73 (im_fl cn_287 fl_12_45) sf_6952 rfl rfl tR_12_25 rf_6952_25 ?_
      refine im_ld (q := 77) (i := 3) D287_76 rfl rfl rfl ?_
      refine im_iconst (q := 78) D287_77 ?_
      refine im_iast (q := 79) D287_78 sf_6964 hg15.1 hg15.2 (by decide) (by decide) ?_
      refine im_ld (q := 80) (i := 0) D287_79 rfl rfl rfl ?_
      refine im_gfR (q := 83) (b := 6965) D287_80 (im_fl cn_287 fl_12_48) sf_6952 rfl rfl tR_12_26 rf_6952_26 ?_
      refine im_ld (q := 84) (i := 3) D287_83 rfl rfl rfl ?_
      refine im_iconst (q := 85) D287_84 ?_
      refine im_iast (q := 86) D287_85 sf_6965 hg15.1 hg15.2 (by decide) (by decide) ?_
      refine im_ld (q := 87) (i := 0) D287_86 rfl rfl rfl ?_
      refine im_gfR (q := 90) (b := 6966) D287_87 (im_fl cn_287 fl_12_51) sf_6952 rfl rfl tR_12_27 rf_6952_27 ?_
      refine im_ld (q := 91) (i := 3) D287_90 rfl rfl rfl ?_
      refine im_iconst (q := 92) D287_91 ?_
      refine im_iast (q := 93) D287_92 sf_6966 hg15.1 hg15.2 (by decide) (by decide) ?_
      refine im_ld (q := 94) (i := 0) D287_93 rfl rfl rfl ?_
      refine im_gfR (q := 97) (b := 6967) D287_94 (im_fl cn_287 fl_12_54) sf_6952 rfl rfl tR_12_28 rf_6952_28 ?_
      refine im_ld (q := 98) (i := 3) D287_97 rfl rfl rfl ?_
      refine im_iconst (q := 99) D287_98 ?_
      refine im_iast (q := 100) D287_99 sf_6967 hg15.1 hg15.2 (by decide) (by decide) ?_
      refine im_ld (q := 101) (i := 0) D287_100 rfl rfl rfl ?_
      refine im_gfR (q := 104) (b := 6970) D287_101 (im_fl cn_287 fl_12_63) sf_6952 rfl rfl tR_12_31 rf_6952_31 ?_
      refine im_ld (q := 105) (i := 3) D287_104 rfl rfl rfl ?_
      refine im_iconst (q := 106) D287_105 ?_
      refine im_zast (q := 107) D287_106 sf_6970 hg15.1 hg15.2 (by decide) (by decide) ?_
      refine im_ld (q := 108) (i := 0) D287_107 rfl rfl rfl ?_
      refine im_gfR (q := 111) (b := 6972) D287_108 (im_fl cn_287 fl_12_70) sf_6952 rfl rfl tR_12_33 rf_6952_33 ?_
      refine im_ld (q := 112) (i := 3) D287_111 rfl rfl rfl ?_
      refine im_iconst (q := 113) D287_112 ?_
      refine im_iast (q := 114) D287_113 sf_6972 hg15.1 hg15.2 (by decide) (by decide) ?_
      refine im_ld (q := 115) (i := 3) D287_114 rfl rfl rfl ?_
      exact im_iret (q := 116) D287_115 rfl hP
    · exact (kJ9  (Or.inr ⟨(Int.not_lt.mp hc2), (Decidable.not_not.mp hc6)⟩)).wk ⟨rfl, trivial⟩
set_option maxRecDepth 20000 in
set_option maxHeartbeats 4000000 in
theorem b_link_0 {g : im_g} {d : Nat} {e : im_E} {M : im_M} {K : im_K} {p1 p2 p3 : Int} (hP : (im_i32 p1) ∧ ((¬ p1 = (-1) → (im_i32 p2) ∧ ((¬ p2 = 1 → ((¬ p2 = 2 → (0 ≤ p1 ∧ p1 < 5100) ∧ (im_i32 p3) ∧ K (.inl none) e (im_u M 6966 p1 p3)) ∧ (p2 = 2 → (0 ≤ p1 ∧ p1 < 5100) ∧ (im_i32 p3) ∧ K (.inl none) e (im_u M 6965 p1 p3)))) ∧ (p2 = 1 → (0 ≤ p1 ∧ p1 < 5100) ∧ (im_i32 p3) ∧ K (.inl none) e (im_u M 6964 p1 p3)))) ∧ (p1 = (-1) → (im_i32 p3) ∧ K (.inl none) e (im_u M 6952 40 p3)))) : im_T g d 288 0 [some (.ref 6952), some (vI p1), some (vI p2), some (vI p3)] [] e M K := by
  refine im_ld (q := 1) (i := 1) D288_0 rfl rfl rfl ?_
  refine im_iconst (q := 2) D288_1 ?_
  obtain ⟨hg1, hP⟩ := hP
  refine im_icmp (q := 5) (t := 13) D288_2 rfl hg1 (by decide) (fun hc2 => ?_) (fun hc2 => ?_)
  · replace hP := hP.1 hc2
    refine im_ld (q := 14) (i := 2) D288_13 rfl rfl rfl ?_
    refine im_iconst (q := 15) D288_14 ?_
    obtain ⟨hg3, hP⟩ := hP
    refine im_icmp (q := 18) (t := 28) D288_15 rfl hg3 (by decide) (fun hc4 => ?_) (fun hc4 => ?_)
    · replace hP := hP.1 hc4
      refine im_ld (q := 29) (i := 2) D288_28 rfl rfl rfl ?_
      refine im_iconst (q := 30) D288_29 ?_
      refine im_icmp (q := 33) (t := 43) D288_30 rfl hg3 (by decide) (fun hc5 => ?_) (fun hc5 => ?_)
      · replace hP := hP.1 hc5
        refine im_ld (q := 44) (i := 0) D288_43 rfl rfl rfl ?_
        refine im_gfR (q := 47) (b := 6966) D288_44 (im_fl cn_288 fl_12_51) sf_6952 rfl rfl tR_12_27 rf_6952_27 ?_
        refine im_ld (q := 48) (i := 1) D288_47 rfl rfl rfl ?_
        refine im_ld (q := 49) (i := 3) D288_48 rfl rfl rfl ?_
        obtain ⟨hg6, hP⟩ := hP
        obtain ⟨hg7, hP⟩ := hP
        refine im_iast (q := 50) D288_49 sf_6966 hg6.1 hg6.2 (by decide) hg7 ?_
        exact im_vret (q := 51) D288_50 rfl hP
      · replace hP := hP.2 (Decidable.not_not.mp hc5)
        refine im_ld (q := 34) (i := 0) D288_33 rfl rfl rfl ?_
        refine im_gfR (q := 37) (b := 6965) D288_34 (im_fl cn_288 fl_12_48) sf_6952 rfl rfl tR_12_26 rf_6952_26 ?_
        refine im_ld (q := 38) (i := 1) D288_37 rfl rfl rfl ?_
        refine im_ld (q := 39) (i := 3) D288_38 rfl rfl rfl ?_
        obtain ⟨hg8, hP⟩ := hP
        obtain ⟨hg9, hP⟩ := hP
        refine im_iast (q := 40) D288_39 sf_6965 hg8.1 hg8.2 (by decide) hg9 ?_
        refine im_goto (q := 43) (t := 50) D288_40 rfl ?_
        exact im_vret (q := 51) D288_50 rfl hP
    · replace hP := hP.2 (Decidable.not_not.mp hc4)
      refine im_ld (q := 19) (i := 0) D288_18 rfl rfl rfl ?_
      refine im_gfR (q := 22) (b := 6964) D288_19 (im_fl cn_288 fl_12_45) sf_6952 rfl rfl tR_12_25 rf_6952_25 ?_
      refine im_ld (q := 23) (i := 1) D288_22 rfl rfl rfl ?_
      refine im_ld (q := 24) (i := 3) D288_23 rfl rfl rfl ?_
      obtain ⟨hg10, hP⟩ := hP
      obtain ⟨hg11, hP⟩ := hP
      refine im_iast (q := 25) D288_24 sf_6964 hg10.1 hg10.2 (by decide) hg11 ?_
      refine im_goto (q := 28) (t := 50) D288_25 rfl ?_
      exact im_vret (q := 51) D288_50 rfl hP
  · replace hP := hP.2 (Decidable.not_not.mp hc2)
    refine im_ld (q := 6) (i := 0) D288_5 rfl rfl rfl ?_
    refine im_ld (q := 7) (i := 3) D288_6 rfl rfl rfl ?_
    obtain ⟨hg12, hP⟩ := hP
    refine im_pfI (q := 10) D288_7 (im_fl cn_288 fl_12_626) sf_6952 rfl rfl ti_12_40 hg12 ?_
    refine im_goto (q := 13) (t := 50) D288_10 rfl ?_
    exact im_vret (q := 51) D288_50 rfl hP

/-! blocks of the class -/
theorem D19_0 {g : im_g} : im_D g 19 0 (.iload_n 1) 1 := im_D.of (by decide +kernel)
theorem D19_1 {g : im_g} : im_D g 19 1 (.ifCond .eq 13) 4 := im_D.of (by decide +kernel)
theorem D19_4 {g : im_g} : im_D g 19 4 (.aload_n 0) 5 := im_D.of (by decide +kernel)
theorem D19_5 {g : im_g} : im_D g 19 5 (.getfield 16) 8 := im_D.of (by decide +kernel)
theorem D19_8 {g : im_g} : im_D g 19 8 (.getfield 173) 11 := im_D.of (by decide +kernel)
theorem D19_11 {g : im_g} : im_D g 19 11 (.goto 10) 14 := im_D.of (by decide +kernel)
theorem D19_14 {g : im_g} : im_D g 19 14 (.aload_n 0) 15 := im_D.of (by decide +kernel)
theorem D19_15 {g : im_g} : im_D g 19 15 (.getfield 16) 18 := im_D.of (by decide +kernel)
theorem D19_18 {g : im_g} : im_D g 19 18 (.getfield 176) 21 := im_D.of (by decide +kernel)
theorem D19_21 {g : im_g} : im_D g 19 21 (.ireturn) 22 := im_D.of (by decide +kernel)
theorem D20_0 {g : im_g} : im_D g 20 0 (.aload_n 0) 1 := im_D.of (by decide +kernel)
theorem D20_1 {g : im_g} : im_D g 20 1 (.invokevirtual 414) 4 := im_D.of (by decide +kernel)
theorem D20_4 {g : im_g} : im_D g 20 4 (.aload_n 0) 5 := im_D.of (by decide +kernel)
theorem D20_5 {g : im_g} : im_D g 20 5 (.iconst 1) 6 := im_D.of (by decide +kernel)
theorem D20_6 {g : im_g} : im_D g 20 6 (.putfield 417) 9 := im_D.of (by decide +kernel)
theorem D20_9 {g : im_g} : im_D g 20 9 (.aload_n 0) 10 := im_D.of (by decide +kernel)
theorem D20_10 {g : im_g} : im_D g 20 10 (.getfield 113) 13 := im_D.of (by decide +kernel)
theorem D20_13 {g : im_g} : im_D g 20 13 (.invokevirtual 420) 16 := im_D.of (by decide +kernel)
theorem D20_16 {g : im_g} : im_D g 20 16 (.istore_n 1) 17 := im_D.of (by decide +kernel)
theorem D20_17 {g : im_g} : im_D g 20 17 (.iconst 0) 18 := im_D.of (by decide +kernel)
theorem D20_18 {g : im_g} : im_D g 20 18 (.istore_n 2) 19 := im_D.of (by decide +kernel)
theorem D20_19 {g : im_g} : im_D g 20 19 (.iload_n 2) 20 := im_D.of (by decide +kernel)
theorem D20_20 {g : im_g} : im_D g 20 20 (.sipush 16384) 23 := im_D.of (by decide +kernel)
theorem D20_23 {g : im_g} : im_D g 20 23 (.if_icmp .ge 224) 26 := im_D.of (by decide +kernel)
theorem D20_26 {g : im_g} : im_D g 20 26 (.iload_n 1) 27 := im_D.of (by decide +kernel)
theorem D20_27 {g : im_g} : im_D g 20 27 (.ifCond .le 220) 30 := im_D.of (by decide +kernel)
theorem D20_30 {g : im_g} : im_D g 20 30 (.aload_n 0) 31 := im_D.of (by decide +kernel)
theorem D20_31 {g : im_g} : im_D g 20 31 (.getfield 113) 34 := im_D.of (by decide +kernel)
theorem D20_34 {g : im_g} : im_D g 20 34 (.aload_n 0) 35 := im_D.of (by decide +kernel)
theorem D20_35 {g : im_g} : im_D g 20 35 (.getfield 9) 38 := im_D.of (by decide +kernel)
theorem D20_38 {g : im_g} : im_D g 20 38 (.invokevirtual 423) 41 := im_D.of (by decide +kernel)
theorem D20_41 {g : im_g} : im_D g 20 41 (.istore_n 3) 42 := im_D.of (by decide +kernel)
theorem D20_42 {g : im_g} : im_D g 20 42 (.aload_n 0) 43 := im_D.of (by decide +kernel)
theorem D20_43 {g : im_g} : im_D g 20 43 (.getfield 113) 46 := im_D.of (by decide +kernel)
theorem D20_46 {g : im_g} : im_D g 20 46 (.iconst 0) 47 := im_D.of (by decide +kernel)
theorem D20_47 {g : im_g} : im_D g 20 47 (.invokevirtual 427) 50 := im_D.of (by decide +kernel)
theorem D20_50 {g : im_g} : im_D g 20 50 (.lstore 4) 52 := im_D.of (by decide +kernel)
theorem D20_52 {g : im_g} : im_D g 20 52 (.aload_n 0) 53 := im_D.of (by decide +kernel)
theorem D20_53 {g : im_g} : im_D g 20 53 (.getfield 113) 56 := im_D.of (by decide +kernel)
theorem D20_56 {g : im_g} : im_D g 20 56 (.iconst 1) 57 := im_D.of (by decide +kernel)
theorem D20_57 {g : im_g} : im_D g 20 57 (.invokevirtual 427) 60 := im_D.of (by decide +kernel)
theorem D20_60 {g : im_g} : im_D g 20 60 (.lstore 6) 62 := im_D.of (by decide +kernel)
theorem D20_62 {g : im_g} : im_D g 20 62 (.aload_n 0) 63 := im_D.of (by decide +kernel)
theorem D20_63 {g : im_g} : im_D g 20 63 (.getfield 113) 66 := im_D.of (by decide +kernel)
theorem D20_66 {g : im_g} : im_D g 20 66 (.iconst 2) 67 := im_D.of (by decide +kernel)
theorem D20_67 {g : im_g} : im_D g 20 67 (.invokevirtual 427) 70 := im_D.of (by decide +kernel)
theorem D20_70 {g : im_g} : im_D g 20 70 (.lstore 8) 72 := im_D.of (by decide +kernel)
theorem D20_72 {g : im_g} : im_D g 20 72 (.aload_n 0) 73 := im_D.of (by decide +kernel)
theorem D20_73 {g : im_g} : im_D g 20 73 (.getfield 113) 76 := im_D.of (by decide +kernel)
theorem D20_76 {g : im_g} : im_D g 20 76 (.invokevirtual 430) 79 := im_D.of (by decide +kernel)
theorem D20_79 {g : im_g} : im_D g 20 79 (.tableswitch 132 1 7 #[41, 53, 64, 79, 90, 104, 120]) 80 := im_D.of (by decide +kernel)
theorem D20_120 {g : im_g} : im_D g 20 120 (.aload_n 0) 121 := im_D.of (by decide +kernel)
theorem D20_121 {g : im_g} : im_D g 20 121 (.lload 4) 123 := im_D.of (by decide +kernel)
theorem D20_123 {g : im_g} : im_D g 20 123 (.iload_n 3) 124 := im_D.of (by decide +kernel)
theorem D20_124 {g : im_g} : im_D g 20 124 (.invokevirtual 165) 127 := im_D.of (by decide +kernel)
theorem D20_127 {g : im_g} : im_D g 20 127 (.istore 10) 129 := im_D.of (by decide +kernel)
theorem D20_129 {g : im_g} : im_D g 20 129 (.goto 88) 132 := im_D.of (by decide +kernel)
theorem D20_132 {g : im_g} : im_D g 20 132 (.aload_n 0) 133 := im_D.of (by decide +kernel)
theorem D20_133 {g : im_g} : im_D g 20 133 (.lload 4) 135 := im_D.of (by decide +kernel)
theorem D20_135 {g : im_g} : im_D g 20 135 (.invokevirtual 179) 138 := im_D.of (by decide +kernel)
theorem D20_138 {g : im_g} : im_D g 20 138 (.istore 10) 140 := im_D.of (by decide +kernel)
theorem D20_140 {g : im_g} : im_D g 20 140 (.goto 77) 143 := im_D.of (by decide +kernel)
theorem D20_143 {g : im_g} : im_D g 20 143 (.aload_n 0) 144 := im_D.of (by decide +kernel)
theorem D20_144 {g : im_g} : im_D g 20 144 (.lload 4) 146 := im_D.of (by decide +kernel)
theorem D20_146 {g : im_g} : im_D g 20 146 (.lload 6) 148 := im_D.of (by decide +kernel)
theorem D20_148 {g : im_g} : im_D g 20 148 (.lload 8) 150 := im_D.of (by decide +kernel)
theorem D20_150 {g : im_g} : im_D g 20 150 (.invokevirtual 241) 153 := im_D.of (by decide +kernel)
theorem D20_153 {g : im_g} : im_D g 20 153 (.istore 10) 155 := im_D.of (by decide +kernel)
theorem D20_155 {g : im_g} : im_D g 20 155 (.goto 62) 158 := im_D.of (by decide +kernel)
theorem D20_158 {g : im_g} : im_D g 20 158 (.aload_n 0) 159 := im_D.of (by decide +kernel)
theorem D20_159 {g : im_g} : im_D g 20 159 (.lload 4) 161 := im_D.of (by decide +kernel)
theorem D20_161 {g : im_g} : im_D g 20 161 (.invokevirtual 245) 164 := im_D.of (by decide +kernel)
theorem D20_164 {g : im_g} : im_D g 20 164 (.istore 10) 166 := im_D.of (by decide +kernel)
theorem D20_166 {g : im_g} : im_D g 20 166 (.goto 51) 169 := im_D.of (by decide +kernel)
theorem D20_169 {g : im_g} : im_D g 20 169 (.aload_n 0) 170 := im_D.of (by decide +kernel)
theorem D20_170 {g : im_g} : im_D g 20 170 (.lload 4) 172 := im_D.of (by decide +kernel)
theorem D20_172 {g : im_g} : im_D g 20 172 (.lload 6) 174 := im_D.of (by decide +kernel)
theorem D20_174 {g : im_g} : im_D g 20 174 (.iload_n 3) 175 := im_D.of (by decide +kernel)
theorem D20_175 {g : im_g} : im_D g 20 175 (.invokevirtual 368) 178 := im_D.of (by decide +kernel)
theorem D20_178 {g : im_g} : im_D g 20 178 (.istore 10) 180 := im_D.of (by decide +kernel)
theorem D20_180 {g : im_g} : im_D g 20 180 (.goto 37) 183 := im_D.of (by decide +kernel)
theorem D20_183 {g : im_g} : im_D g 20 183 (.aload_n 0) 184 := im_D.of (by decide +kernel)
theorem D20_184 {g : im_g} : im_D g 20 184 (.lload 4) 186 := im_D.of (by decide +kernel)
theorem D20_186 {g : im_g} : im_D g 20 186 (.lload 6) 188 := im_D.of (by decide +kernel)
theorem D20_188 {g : im_g} : im_D g 20 188 (.lload 8) 190 := im_D.of (by decide +kernel)
theorem D20_190 {g : im_g} : im_D g 20 190 (.iload_n 3) 191 := im_D.of (by decide +kernel)
theorem D20_191 {g : im_g} : im_D g 20 191 (.invokevirtual 248) 194 := im_D.of (by decide +kernel)
theorem D20_194 {g : im_g} : im_D g 20 194 (.istore 10) 196 := im_D.of (by decide +kernel)
theorem D20_196 {g : im_g} : im_D g 20 196 (.goto 21) 199 := im_D.of (by decide +kernel)
theorem D20_199 {g : im_g} : im_D g 20 199 (.aload_n 0) 200 := im_D.of (by decide +kernel)
theorem D20_200 {g : im_g} : im_D g 20 200 (.lload 4) 202 := im_D.of (by decide +kernel)
theorem D20_202 {g : im_g} : im_D g 20 202 (.iload_n 3) 203 := im_D.of (by decide +kernel)
theorem D20_203 {g : im_g} : im_D g 20 203 (.invokevirtual 235) 206 := im_D.of (by decide +kernel)
theorem D20_206 {g : im_g} : im_D g 20 206 (.istore 10) 208 := im_D.of (by decide +kernel)
theorem D20_208 {g : im_g} : im_D g 20 208 (.goto 9) 211 := im_D.of (by decide +kernel)
theorem D20_211 {g : im_g} : im_D g 20 211 (.aload_n 0) 212 := im_D.of (by decide +kernel)
theorem D20_212 {g : im_g} : im_D g 20 212 (.invokevirtual 238) 215 := im_D.of (by decide +kernel)
theorem D20_215 {g : im_g} : im_D g 20 215 (.istore 10) 217 := im_D.of (by decide +kernel)
theorem D20_217 {g : im_g} : im_D g 20 217 (.iload 10) 219 := im_D.of (by decide +kernel)
theorem D20_219 {g : im_g} : im_D g 20 219 (.ifCond .ge 6) 222 := im_D.of (by decide +kernel)
theorem D20_222 {g : im_g} : im_D g 20 222 (.goto 25) 225 := im_D.of (by decide +kernel)
theorem D20_225 {g : im_g} : im_D g 20 225 (.aload_n 0) 226 := im_D.of (by decide +kernel)
theorem D20_226 {g : im_g} : im_D g 20 226 (.getfield 113) 229 := im_D.of (by decide +kernel)
theorem D20_229 {g : im_g} : im_D g 20 229 (.iload_n 1) 230 := im_D.of (by decide +kernel)
theorem D20_230 {g : im_g} : im_D g 20 230 (.invokevirtual 433) 233 := im_D.of (by decide +kernel)
theorem D20_233 {g : im_g} : im_D g 20 233 (.aload_n 0) 234 := im_D.of (by decide +kernel)
theorem D20_234 {g : im_g} : im_D g 20 234 (.getfield 113) 237 := im_D.of (by decide +kernel)
theorem D20_237 {g : im_g} : im_D g 20 237 (.invokevirtual 420) 240 := im_D.of (by decide +kernel)
theorem D20_240 {g : im_g} : im_D g 20 240 (.istore_n 1) 241 := im_D.of (by decide +kernel)
theorem D20_241 {g : im_g} : im_D g 20 241 (.iinc 2 1) 244 := im_D.of (by decide +kernel)
theorem D20_244 {g : im_g} : im_D g 20 244 (.goto (-225)) 247 := im_D.of (by decide +kernel)
theorem D20_247 {g : im_g} : im_D g 20 247 (.aload_n 0) 248 := im_D.of (by decide +kernel)
theorem D20_248 {g : im_g} : im_D g 20 248 (.iconst 0) 249 := im_D.of (by decide +kernel)
theorem D20_249 {g : im_g} : im_D g 20 249 (.putfield 417) 252 := im_D.of (by decide +kernel)
theorem D20_252 {g : im_g} : im_D g 20 252 (.aload_n 0) 253 := im_D.of (by decide +kernel)
theorem D20_253 {g : im_g} : im_D g 20 253 (.getfield 16) 256 := im_D.of (by decide +kernel)
theorem D20_256 {g : im_g} : im_D g 20 256 (.invokevirtual 436) 259 := im_D.of (by decide +kernel)
theorem D20_259 {g : im_g} : im_D g 20 259 (.aload_n 0) 260 := im_D.of (by decide +kernel)
theorem D20_260 {g : im_g} : im_D g 20 260 (.getfield 113) 263 := im_D.of (by decide +kernel)
theorem D20_263 {g : im_g} : im_D g 20 263 (.getfield 439) 266 := im_D.of (by decide +kernel)
theorem D20_266 {g : im_g} : im_D g 20 266 (.ireturn) 267 := im_D.of (by decide +kernel)
theorem D21_0 {g : im_g} : im_D g 21 0 (.aload_n 0) 1 := im_D.of (by decide +kernel)
theorem D21_1 {g : im_g} : im_D g 21 1 (.iconst 0) 2 := im_D.of (by decide +kernel)
theorem D21_2 {g : im_g} : im_D g 21 2 (.putfield 127) 5 := im_D.of (by decide +kernel)
theorem D21_5 {g : im_g} : im_D g 21 5 (.aload_n 0) 6 := im_D.of (by decide +kernel)
theorem D21_6 {g : im_g} : im_D g 21 6 (.getfield 29) 9 := im_D.of (by decide +kernel)
theorem D21_9 {g : im_g} : im_D g 21 9 (.invokevirtual 155) 12 := im_D.of (by decide +kernel)
theorem D21_12 {g : im_g} : im_D g 21 12 (.aload_n 0) 13 := im_D.of (by decide +kernel)
theorem D21_13 {g : im_g} : im_D g 21 13 (.getfield 36) 16 := im_D.of (by decide +kernel)
theorem D21_16 {g : im_g} : im_D g 21 16 (.invokevirtual 449) 19 := im_D.of (by decide +kernel)
theorem D21_19 {g : im_g} : im_D g 21 19 (.iconst 0) 20 := im_D.of (by decide +kernel)
theorem D21_20 {g : im_g} : im_D g 21 20 (.istore_n 1) 21 := im_D.of (by decide +kernel)
theorem D21_21 {g : im_g} : im_D g 21 21 (.iload_n 1) 22 := im_D.of (by decide +kernel)
theorem D21_22 {g : im_g} : im_D g 21 22 (.bipush 16) 24 := im_D.of (by decide +kernel)
theorem D21_24 {g : im_g} : im_D g 21 24 (.if_icmp .ge 26) 27 := im_D.of (by decide +kernel)
theorem D21_27 {g : im_g} : im_D g 21 27 (.aload_n 0) 28 := im_D.of (by decide +kernel)
theorem D21_28 {g : im_g} : im_D g 21 28 (.getfield 49) 31 := im_D.of (by decide +kernel)
theorem D21_31 {g : im_g} : im_D g 21 31 (.iload_n 1) 32 := im_D.of (by decide +kernel)
theorem D21_32 {g : im_g} : im_D g 21 32 (.iconst (-1)) 33 := im_D.of (by decide +kernel)
theorem D21_33 {g : im_g} : im_D g 21 33 (.iastore) 34 := im_D.of (by decide +kernel)
theorem D21_34 {g : im_g} : im_D g 21 34 (.aload_n 0) 35 := im_D.of (by decide +kernel)
theorem D21_35 {g : im_g} : im_D g 21 35 (.getfield 55) 38 := im_D.of (by decide +kernel)
theorem D21_38 {g : im_g} : im_D g 21 38 (.iload_n 1) 39 := im_D.of (by decide +kernel)
theorem D21_39 {g : im_g} : im_D g 21 39 (.aaload) 40 := im_D.of (by decide +kernel)
theorem D21_40 {g : im_g} : im_D g 21 40 (.iconst 0) 41 := im_D.of (by decide +kernel)
theorem D21_41 {g : im_g} : im_D g 21 41 (.putfield 290) 44 := im_D.of (by decide +kernel)
theorem D21_44 {g : im_g} : im_D g 21 44 (.iinc 1 1) 47 := im_D.of (by decide +kernel)
theorem D21_47 {g : im_g} : im_D g 21 47 (.goto (-26)) 50 := im_D.of (by decide +kernel)
theorem D21_50 {g : im_g} : im_D g 21 50 (.aload_n 0) 51 := im_D.of (by decide +kernel)
theorem D21_51 {g : im_g} : im_D g 21 51 (.getfield 64) 54 := im_D.of (by decide +kernel)
theorem D21_54 {g : im_g} : im_D g 21 54 (.iconst 0) 55 := im_D.of (by decide +kernel)
theorem D21_55 {g : im_g} : im_D g 21 55 (.putfield 271) 58 := im_D.of (by decide +kernel)
theorem D21_58 {g : im_g} : im_D g 21 58 (.aload_n 0) 59 := im_D.of (by decide +kernel)
theorem D21_59 {g : im_g} : im_D g 21 59 (.getfield 68) 62 := im_D.of (by decide +kernel)
theorem D21_62 {g : im_g} : im_D g 21 62 (.iconst 0) 63 := im_D.of (by decide +kernel)
theorem D21_63 {g : im_g} : im_D g 21 63 (.putfield 271) 66 := im_D.of (by decide +kernel)
theorem D21_66 {g : im_g} : im_D g 21 66 (.aload_n 0) 67 := im_D.of (by decide +kernel)
theorem D21_67 {g : im_g} : im_D g 21 67 (.getfield 71) 70 := im_D.of (by decide +kernel)
theorem D21_70 {g : im_g} : im_D g 21 70 (.iconst 0) 71 := im_D.of (by decide +kernel)
theorem D21_71 {g : im_g} : im_D g 21 71 (.putfield 271) 74 := im_D.of (by decide +kernel)
theorem D21_74 {g : im_g} : im_D g 21 74 (.aload_n 0) 75 := im_D.of (by decide +kernel)
theorem D21_75 {g : im_g} : im_D g 21 75 (.getfield 81) 78 := im_D.of (by decide +kernel)
theorem D21_78 {g : im_g} : im_D g 21 78 (.iconst 0) 79 := im_D.of (by decide +kernel)
theorem D21_79 {g : im_g} : im_D g 21 79 (.putfield 347) 82 := im_D.of (by decide +kernel)
theorem D21_82 {g : im_g} : im_D g 21 82 (.aload_n 0) 83 := im_D.of (by decide +kernel)
theorem D21_83 {g : im_g} : im_D g 21 83 (.getfield 84) 86 := im_D.of (by decide +kernel)
theorem D21_86 {g : im_g} : im_D g 21 86 (.iconst 0) 87 := im_D.of (by decide +kernel)
theorem D21_87 {g : im_g} : im_D g 21 87 (.putfield 347) 90 := im_D.of (by decide +kernel)
theorem D21_90 {g : im_g} : im_D g 21 90 (.aload_n 0) 91 := im_D.of (by decide +kernel)
theorem D21_91 {g : im_g} : im_D g 21 91 (.getfield 106) 94 := im_D.of (by decide +kernel)
theorem D21_94 {g : im_g} : im_D g 21 94 (.iconst 0) 95 := im_D.of (by decide +kernel)
theorem D21_95 {g : im_g} : im_D g 21 95 (.putfield 402) 98 := im_D.of (by decide +kernel)
theorem D21_98 {g : im_g} : im_D g 21 98 (.aload_n 0) 99 := im_D.of (by decide +kernel)
theorem D21_99 {g : im_g} : im_D g 21 99 (.getfield 113) 102 := im_D.of (by decide +kernel)
theorem D21_102 {g : im_g} : im_D g 21 102 (.invokevirtual 450) 105 := im_D.of (by decide +kernel)
theorem D21_105 {g : im_g} : im_D g 21 105 (.return_) 106 := im_D.of (by decide +kernel)
theorem D22_0 {g : im_g} : im_D g 22 0 (.aload_n 0) 1 := im_D.of (by decide +kernel)
theorem D22_1 {g : im_g} : im_D g 22 1 (.iconst 0) 2 := im_D.of (by decide +kernel)
theorem D22_2 {g : im_g} : im_D g 22 2 (.putfield 33) 5 := im_D.of (by decide +kernel)
theorem D22_5 {g : im_g} : im_D g 22 5 (.return_) 6 := im_D.of (by decide +kernel)
theorem D23_0 {g : im_g} : im_D g 23 0 (.aload_n 0) 1 := im_D.of (by decide +kernel)
theorem D23_1 {g : im_g} : im_D g 23 1 (.iconst 0) 2 := im_D.of (by decide +kernel)
theorem D23_2 {g : im_g} : im_D g 23 2 (.putfield 41) 5 := im_D.of (by decide +kernel)
theorem D23_5 {g : im_g} : im_D g 23 5 (.aload_n 0) 6 := im_D.of (by decide +kernel)
theorem D23_6 {g : im_g} : im_D g 23 6 (.iconst 0) 7 := im_D.of (by decide +kernel)
theorem D23_7 {g : im_g} : im_D g 23 7 (.putfield 45) 10 := im_D.of (by decide +kernel)
theorem D23_10 {g : im_g} : im_D g 23 10 (.return_) 11 := im_D.of (by decide +kernel)
theorem D24_0 {g : im_g} : im_D g 24 0 (.aload_n 0) 1 := im_D.of (by decide +kernel)
theorem D24_1 {g : im_g} : im_D g 24 1 (.iconst 0) 2 := im_D.of (by decide +kernel)
theorem D24_2 {g : im_g} : im_D g 24 2 (.putfield 19) 5 := im_D.of (by decide +kernel)
theorem D24_5 {g : im_g} : im_D g 24 5 (.aload_n 0) 6 := im_D.of (by decide +kernel)
theorem D24_6 {g : im_g} : im_D g 24 6 (.iconst 0) 7 := im_D.of (by decide +kernel)
theorem D24_7 {g : im_g} : im_D g 24 7 (.putfield 22) 10 := im_D.of (by decide +kernel)
theorem D24_10 {g : im_g} : im_D g 24 10 (.aload_n 0) 11 := im_D.of (by decide +kernel)
theorem D24_11 {g : im_g} : im_D g 24 11 (.iconst (-1)) 12 := im_D.of (by decide +kernel)
theorem D24_12 {g : im_g} : im_D g 24 12 (.putfield 15) 15 := im_D.of (by decide +kernel)
theorem D24_15 {g : im_g} : im_D g 24 15 (.aload_n 0) 16 := im_D.of (by decide +kernel)
theorem D24_16 {g : im_g} : im_D g 24 16 (.iconst 0) 17 := im_D.of (by decide +kernel)
theorem D24_17 {g : im_g} : im_D g 24 17 (.putfield 25) 20 := im_D.of (by decide +kernel)
theorem D24_20 {g : im_g} : im_D g 24 20 (.return_) 21 := im_D.of (by decide +kernel)
theorem D25_0 {g : im_g} : im_D g 25 0 (.aload_n 0) 1 := im_D.of (by decide +kernel)
theorem D25_1 {g : im_g} : im_D g 25 1 (.invokevirtual 66) 4 := im_D.of (by decide +kernel)
theorem D25_4 {g : im_g} : im_D g 25 4 (.istore_n 1) 5 := im_D.of (by decide +kernel)
theorem D25_5 {g : im_g} : im_D g 25 5 (.aload_n 0) 6 := im_D.of (by decide +kernel)
theorem D25_6 {g : im_g} : im_D g 25 6 (.invokevirtual 69) 9 := im_D.of (by decide +kernel)
theorem D25_9 {g : im_g} : im_D g 25 9 (.istore_n 2) 10 := im_D.of (by decide +kernel)
theorem D25_10 {g : im_g} : im_D g 25 10 (.iload_n 2) 11 := im_D.of (by decide +kernel)
theorem D25_11 {g : im_g} : im_D g 25 11 (.iconst 1) 12 := im_D.of (by decide +kernel)
theorem D25_12 {g : im_g} : im_D g 25 12 (.if_icmp .lt 21) 15 := im_D.of (by decide +kernel)
theorem D25_15 {g : im_g} : im_D g 25 15 (.iload_n 2) 16 := im_D.of (by decide +kernel)
theorem D25_16 {g : im_g} : im_D g 25 16 (.bipush 8) 18 := im_D.of (by decide +kernel)
theorem D25_18 {g : im_g} : im_D g 25 18 (.if_icmp .gt 15) 21 := im_D.of (by decide +kernel)
theorem D25_21 {g : im_g} : im_D g 25 21 (.aload_n 0) 22 := im_D.of (by decide +kernel)
theorem D25_22 {g : im_g} : im_D g 25 22 (.getfield 19) 25 := im_D.of (by decide +kernel)
theorem D25_25 {g : im_g} : im_D g 25 25 (.iload_n 1) 26 := im_D.of (by decide +kernel)
theorem D25_26 {g : im_g} : im_D g 25 26 (.iadd) 27 := im_D.of (by decide +kernel)
theorem D25_27 {g : im_g} : im_D g 25 27 (.sipush 16384) 30 := im_D.of (by decide +kernel)
theorem D25_30 {g : im_g} : im_D g 25 30 (.if_icmp .le 5) 33 := im_D.of (by decide +kernel)
theorem D25_33 {g : im_g} : im_D g 25 33 (.iconst 0) 34 := im_D.of (by decide +kernel)
theorem D25_34 {g : im_g} : im_D g 25 34 (.ireturn) 35 := im_D.of (by decide +kernel)
theorem D25_35 {g : im_g} : im_D g 25 35 (.iload_n 2) 36 := im_D.of (by decide +kernel)
theorem D25_36 {g : im_g} : im_D g 25 36 (.iconst 0) 37 := im_D.of (by decide +kernel)
theorem D25_37 {g : im_g} : im_D g 25 37 (.invokestatic 33) 40 := im_D.of (by decide +kernel)
theorem D25_40 {g : im_g} : im_D g 25 40 (.istore_n 3) 41 := im_D.of (by decide +kernel)
theorem D25_41 {g : im_g} : im_D g 25 41 (.iload_n 2) 42 := im_D.of (by decide +kernel)
theorem D25_42 {g : im_g} : im_D g 25 42 (.invokestatic 72) 45 := im_D.of (by decide +kernel)
theorem D25_45 {g : im_g} : im_D g 25 45 (.ifCond .eq 11) 48 := im_D.of (by decide +kernel)
theorem D25_48 {g : im_g} : im_D g 25 48 (.iload_n 1) 49 := im_D.of (by decide +kernel)
theorem D25_49 {g : im_g} : im_D g 25 49 (.iload_n 3) 50 := im_D.of (by decide +kernel)
theorem D25_50 {g : im_g} : im_D g 25 50 (.if_icmp .ge 13) 53 := im_D.of (by decide +kernel)
theorem D25_53 {g : im_g} : im_D g 25 53 (.goto 8) 56 := im_D.of (by decide +kernel)
theorem D25_56 {g : im_g} : im_D g 25 56 (.iload_n 1) 57 := im_D.of (by decide +kernel)
theorem D25_57 {g : im_g} : im_D g 25 57 (.iload_n 3) 58 := im_D.of (by decide +kernel)
theorem D25_58 {g : im_g} : im_D g 25 58 (.if_icmp .eq 5) 61 := im_D.of (by decide +kernel)
theorem D25_61 {g : im_g} : im_D g 25 61 (.iconst 0) 62 := im_D.of (by decide +kernel)
theorem D25_62 {g : im_g} : im_D g 25 62 (.ireturn) 63 := im_D.of (by decide +kernel)
theorem D25_63 {g : im_g} : im_D g 25 63 (.invokestatic 40) 66 := im_D.of (by decide +kernel)
theorem D25_66 {g : im_g} : im_D g 25 66 (.istore 4) 68 := im_D.of (by decide +kernel)
theorem D25_68 {g : im_g} : im_D g 25 68 (.aload_n 0) 69 := im_D.of (by decide +kernel)
theorem D25_69 {g : im_g} : im_D g 25 69 (.getfield 19) 72 := im_D.of (by decide +kernel)
theorem D25_72 {g : im_g} : im_D g 25 72 (.istore 5) 74 := im_D.of (by decide +kernel)
theorem D25_74 {g : im_g} : im_D g 25 74 (.iload 5) 76 := im_D.of (by decide +kernel)
theorem D25_76 {g : im_g} : im_D g 25 76 (.aload_n 0) 77 := im_D.of (by decide +kernel)
theorem D25_77 {g : im_g} : im_D g 25 77 (.getfield 19) 80 := im_D.of (by decide +kernel)
theorem D25_80 {g : im_g} : im_D g 25 80 (.iload_n 1) 81 := im_D.of (by decide +kernel)
theorem D25_81 {g : im_g} : im_D g 25 81 (.iadd) 82 := im_D.of (by decide +kernel)
theorem D25_82 {g : im_g} : im_D g 25 82 (.iconst 4) 83 := im_D.of (by decide +kernel)
theorem D25_83 {g : im_g} : im_D g 25 83 (.isub) 84 := im_D.of (by decide +kernel)
theorem D25_84 {g : im_g} : im_D g 25 84 (.if_icmp .ge 23) 87 := im_D.of (by decide +kernel)
theorem D25_87 {g : im_g} : im_D g 25 87 (.iload 4) 89 := im_D.of (by decide +kernel)
theorem D25_89 {g : im_g} : im_D g 25 89 (.aload_n 0) 90 := im_D.of (by decide +kernel)
theorem D25_90 {g : im_g} : im_D g 25 90 (.getfield 9) 93 := im_D.of (by decide +kernel)
theorem D25_93 {g : im_g} : im_D g 25 93 (.iload 5) 95 := im_D.of (by decide +kernel)
theorem D25_95 {g : im_g} : im_D g 25 95 (.baload) 96 := im_D.of (by decide +kernel)
theorem D25_96 {g : im_g} : im_D g 25 96 (.invokestatic 61) 99 := im_D.of (by decide +kernel)
theorem D25_99 {g : im_g} : im_D g 25 99 (.istore 4) 101 := im_D.of (by decide +kernel)
theorem D25_101 {g : im_g} : im_D g 25 101 (.iinc 5 1) 104 := im_D.of (by decide +kernel)
theorem D25_104 {g : im_g} : im_D g 25 104 (.goto (-30)) 107 := im_D.of (by decide +kernel)
theorem D25_107 {g : im_g} : im_D g 25 107 (.aload_n 0) 108 := im_D.of (by decide +kernel)
theorem D25_108 {g : im_g} : im_D g 25 108 (.aload_n 0) 109 := im_D.of (by decide +kernel)
theorem D25_109 {g : im_g} : im_D g 25 109 (.getfield 19) 112 := im_D.of (by decide +kernel)
theorem D25_112 {g : im_g} : im_D g 25 112 (.iload_n 1) 113 := im_D.of (by decide +kernel)
theorem D25_113 {g : im_g} : im_D g 25 113 (.iadd) 114 := im_D.of (by decide +kernel)
theorem D25_114 {g : im_g} : im_D g 25 114 (.iconst 4) 115 := im_D.of (by decide +kernel)
theorem D25_115 {g : im_g} : im_D g 25 115 (.isub) 116 := im_D.of (by decide +kernel)
theorem D25_116 {g : im_g} : im_D g 25 116 (.iconst 4) 117 := im_D.of (by decide +kernel)
theorem D25_117 {g : im_g} : im_D g 25 117 (.invokevirtual 76) 120 := im_D.of (by decide +kernel)
theorem D25_120 {g : im_g} : im_D g 25 120 (.lstore 5) 122 := im_D.of (by decide +kernel)
theorem D25_122 {g : im_g} : im_D g 25 122 (.lload 5) 124 := im_D.of (by decide +kernel)
theorem D25_124 {g : im_g} : im_D g 25 124 (.l2i) 125 := im_D.of (by decide +kernel)
theorem D25_125 {g : im_g} : im_D g 25 125 (.iload 4) 127 := im_D.of (by decide +kernel)
theorem D25_127 {g : im_g} : im_D g 25 127 (.aload_n 0) 128 := im_D.of (by decide +kernel)
theorem D25_128 {g : im_g} : im_D g 25 128 (.getfield 19) 131 := im_D.of (by decide +kernel)
theorem D25_131 {g : im_g} : im_D g 25 131 (.invokestatic 55) 134 := im_D.of (by decide +kernel)
theorem D25_134 {g : im_g} : im_D g 25 134 (.if_icmp .ne 7) 137 := im_D.of (by decide +kernel)
theorem D25_137 {g : im_g} : im_D g 25 137 (.iload_n 1) 138 := im_D.of (by decide +kernel)
theorem D25_138 {g : im_g} : im_D g 25 138 (.goto 4) 141 := im_D.of (by decide +kernel)
theorem D25_141 {g : im_g} : im_D g 25 141 (.iconst 0) 142 := im_D.of (by decide +kernel)
theorem D25_142 {g : im_g} : im_D g 25 142 (.ireturn) 143 := im_D.of (by decide +kernel)
theorem D26_0 {g : im_g} : im_D g 26 0 (.aload_n 0) 1 := im_D.of (by decide +kernel)
theorem D26_1 {g : im_g} : im_D g 26 1 (.getfield 19) 4 := im_D.of (by decide +kernel)
theorem D26_4 {g : im_g} : im_D g 26 4 (.iconst 1) 5 := im_D.of (by decide +kernel)
theorem D26_5 {g : im_g} : im_D g 26 5 (.iadd) 6 := im_D.of (by decide +kernel)
theorem D26_6 {g : im_g} : im_D g 26 6 (.sipush 16384) 9 := im_D.of (by decide +kernel)
theorem D26_9 {g : im_g} : im_D g 26 9 (.if_icmp .ge 38) 12 := im_D.of (by decide +kernel)
theorem D26_12 {g : im_g} : im_D g 26 12 (.aload_n 0) 13 := im_D.of (by decide +kernel)
theorem D26_13 {g : im_g} : im_D g 26 13 (.getfield 9) 16 := im_D.of (by decide +kernel)
theorem D26_16 {g : im_g} : im_D g 26 16 (.aload_n 0) 17 := im_D.of (by decide +kernel)
theorem D26_17 {g : im_g} : im_D g 26 17 (.getfield 19) 20 := im_D.of (by decide +kernel)
theorem D26_20 {g : im_g} : im_D g 26 20 (.baload) 21 := im_D.of (by decide +kernel)
theorem D26_21 {g : im_g} : im_D g 26 21 (.sipush 255) 24 := im_D.of (by decide +kernel)
theorem D26_24 {g : im_g} : im_D g 26 24 (.iand) 25 := im_D.of (by decide +kernel)
theorem D26_25 {g : im_g} : im_D g 26 25 (.bipush 8) 27 := im_D.of (by decide +kernel)
theorem D26_27 {g : im_g} : im_D g 26 27 (.ishl) 28 := im_D.of (by decide +kernel)
theorem D26_28 {g : im_g} : im_D g 26 28 (.aload_n 0) 29 := im_D.of (by decide +kernel)
theorem D26_29 {g : im_g} : im_D g 26 29 (.getfield 9) 32 := im_D.of (by decide +kernel)
theorem D26_32 {g : im_g} : im_D g 26 32 (.aload_n 0) 33 := im_D.of (by decide +kernel)
theorem D26_33 {g : im_g} : im_D g 26 33 (.getfield 19) 36 := im_D.of (by decide +kernel)
theorem D26_36 {g : im_g} : im_D g 26 36 (.iconst 1) 37 := im_D.of (by decide +kernel)
theorem D26_37 {g : im_g} : im_D g 26 37 (.iadd) 38 := im_D.of (by decide +kernel)
theorem D26_38 {g : im_g} : im_D g 26 38 (.baload) 39 := im_D.of (by decide +kernel)
theorem D26_39 {g : im_g} : im_D g 26 39 (.sipush 255) 42 := im_D.of (by decide +kernel)
theorem D26_42 {g : im_g} : im_D g 26 42 (.iand) 43 := im_D.of (by decide +kernel)
theorem D26_43 {g : im_g} : im_D g 26 43 (.ior) 44 := im_D.of (by decide +kernel)
theorem D26_44 {g : im_g} : im_D g 26 44 (.goto 4) 47 := im_D.of (by decide +kernel)
theorem D26_47 {g : im_g} : im_D g 26 47 (.iconst 0) 48 := im_D.of (by decide +kernel)
theorem D26_48 {g : im_g} : im_D g 26 48 (.ireturn) 49 := im_D.of (by decide +kernel)
theorem D27_0 {g : im_g} : im_D g 27 0 (.aload_n 0) 1 := im_D.of (by decide +kernel)
theorem D27_1 {g : im_g} : im_D g 27 1 (.getfield 19) 4 := im_D.of (by decide +kernel)
theorem D27_4 {g : im_g} : im_D g 27 4 (.iconst 2) 5 := im_D.of (by decide +kernel)
theorem D27_5 {g : im_g} : im_D g 27 5 (.iadd) 6 := im_D.of (by decide +kernel)
theorem D27_6 {g : im_g} : im_D g 27 6 (.sipush 16384) 9 := im_D.of (by decide +kernel)
theorem D27_9 {g : im_g} : im_D g 27 9 (.if_icmp .ge 21) 12 := im_D.of (by decide +kernel)
theorem D27_12 {g : im_g} : im_D g 27 12 (.aload_n 0) 13 := im_D.of (by decide +kernel)
theorem D27_13 {g : im_g} : im_D g 27 13 (.getfield 9) 16 := im_D.of (by decide +kernel)
theorem D27_16 {g : im_g} : im_D g 27 16 (.aload_n 0) 17 := im_D.of (by decide +kernel)
theorem D27_17 {g : im_g} : im_D g 27 17 (.getfield 19) 20 := im_D.of (by decide +kernel)
theorem D27_20 {g : im_g} : im_D g 27 20 (.iconst 2) 21 := im_D.of (by decide +kernel)
theorem D27_21 {g : im_g} : im_D g 27 21 (.iadd) 22 := im_D.of (by decide +kernel)
theorem D27_22 {g : im_g} : im_D g 27 22 (.baload) 23 := im_D.of (by decide +kernel)
theorem D27_23 {g : im_g} : im_D g 27 23 (.sipush 255) 26 := im_D.of (by decide +kernel)
theorem D27_26 {g : im_g} : im_D g 27 26 (.iand) 27 := im_D.of (by decide +kernel)
theorem D27_27 {g : im_g} : im_D g 27 27 (.goto 4) 30 := im_D.of (by decide +kernel)
theorem D27_30 {g : im_g} : im_D g 27 30 (.iconst 0) 31 := im_D.of (by decide +kernel)
theorem D27_31 {g : im_g} : im_D g 27 31 (.ireturn) 32 := im_D.of (by decide +kernel)
theorem D28_0 {g : im_g} : im_D g 28 0 (.bipush 7) 2 := im_D.of (by decide +kernel)
theorem D28_2 {g : im_g} : im_D g 28 2 (.bipush 8) 4 := im_D.of (by decide +kernel)
theorem D28_4 {g : im_g} : im_D g 28 4 (.getstatic 29) 7 := im_D.of (by decide +kernel)
theorem D28_7 {g : im_g} : im_D g 28 7 (.iload_n 0) 8 := im_D.of (by decide +kernel)
theorem D28_8 {g : im_g} : im_D g 28 8 (.iaload) 9 := im_D.of (by decide +kernel)
theorem D28_9 {g : im_g} : im_D g 28 9 (.imul) 10 := im_D.of (by decide +kernel)
theorem D28_10 {g : im_g} : im_D g 28 10 (.iadd) 11 := im_D.of (by decide +kernel)
theorem D28_11 {g : im_g} : im_D g 28 11 (.iload_n 1) 12 := im_D.of (by decide +kernel)
theorem D28_12 {g : im_g} : im_D g 28 12 (.iadd) 13 := im_D.of (by decide +kernel)
theorem D28_13 {g : im_g} : im_D g 28 13 (.ireturn) 14 := im_D.of (by decide +kernel)
theorem D29_0 {g : im_g} : im_D g 29 0 (.iload_n 0) 1 := im_D.of (by decide +kernel)
theorem D29_1 {g : im_g} : im_D g 29 1 (.iconst 1) 2 := im_D.of (by decide +kernel)
theorem D29_2 {g : im_g} : im_D g 29 2 (.if_icmp .eq 14) 5 := im_D.of (by decide +kernel)
theorem D29_5 {g : im_g} : im_D g 29 5 (.iload_n 0) 6 := im_D.of (by decide +kernel)
theorem D29_6 {g : im_g} : im_D g 29 6 (.iconst 5) 7 := im_D.of (by decide +kernel)
theorem D29_7 {g : im_g} : im_D g 29 7 (.if_icmp .lt 13) 10 := im_D.of (by decide +kernel)
theorem D29_10 {g : im_g} : im_D g 29 10 (.iload_n 0) 11 := im_D.of (by decide +kernel)
theorem D29_11 {g : im_g} : im_D g 29 11 (.bipush 7) 13 := im_D.of (by decide +kernel)
theorem D29_13 {g : im_g} : im_D g 29 13 (.if_icmp .gt 7) 16 := im_D.of (by decide +kernel)
theorem D29_16 {g : im_g} : im_D g 29 16 (.iconst 1) 17 := im_D.of (by decide +kernel)
theorem D29_17 {g : im_g} : im_D g 29 17 (.goto 4) 20 := im_D.of (by decide +kernel)
theorem D29_20 {g : im_g} : im_D g 29 20 (.iconst 0) 21 := im_D.of (by decide +kernel)
theorem D29_21 {g : im_g} : im_D g 29 21 (.ireturn) 22 := im_D.of (by decide +kernel)
theorem D30_0 {g : im_g} : im_D g 30 0 (.ldc 64) 2 := im_D.of (by decide +kernel)
theorem D30_2 {g : im_g} : im_D g 30 2 (.ireturn) 3 := im_D.of (by decide +kernel)
theorem D31_0 {g : im_g} : im_D g 31 0 (.iload_n 0) 1 := im_D.of (by decide +kernel)
theorem D31_1 {g : im_g} : im_D g 31 1 (.iload_n 1) 2 := im_D.of (by decide +kernel)
theorem D31_2 {g : im_g} : im_D g 31 2 (.sipush 255) 5 := im_D.of (by decide +kernel)
theorem D31_5 {g : im_g} : im_D g 31 5 (.iand) 6 := im_D.of (by decide +kernel)
theorem D31_6 {g : im_g} : im_D g 31 6 (.ixor) 7 := im_D.of (by decide +kernel)
theorem D31_7 {g : im_g} : im_D g 31 7 (.ldc 65) 9 := im_D.of (by decide +kernel)
theorem D31_9 {g : im_g} : im_D g 31 9 (.imul) 10 := im_D.of (by decide +kernel)
theorem D31_10 {g : im_g} : im_D g 31 10 (.ireturn) 11 := im_D.of (by decide +kernel)
theorem D32_0 {g : im_g} : im_D g 32 0 (.lconst 0) 1 := im_D.of (by decide +kernel)
theorem D32_1 {g : im_g} : im_D g 32 1 (.lstore_n 3) 2 := im_D.of (by decide +kernel)
theorem D32_2 {g : im_g} : im_D g 32 2 (.iload_n 1) 3 := im_D.of (by decide +kernel)
theorem D32_3 {g : im_g} : im_D g 32 3 (.istore 5) 5 := im_D.of (by decide +kernel)
theorem D32_5 {g : im_g} : im_D g 32 5 (.iload 5) 7 := im_D.of (by decide +kernel)
theorem D32_7 {g : im_g} : im_D g 32 7 (.iload_n 1) 8 := im_D.of (by decide +kernel)
theorem D32_8 {g : im_g} : im_D g 32 8 (.iload_n 2) 9 := im_D.of (by decide +kernel)
theorem D32_9 {g : im_g} : im_D g 32 9 (.iadd) 10 := im_D.of (by decide +kernel)
theorem D32_10 {g : im_g} : im_D g 32 10 (.if_icmp .ge 44) 13 := im_D.of (by decide +kernel)
theorem D32_13 {g : im_g} : im_D g 32 13 (.lload_n 3) 14 := im_D.of (by decide +kernel)
theorem D32_14 {g : im_g} : im_D g 32 14 (.bipush 8) 16 := im_D.of (by decide +kernel)
theorem D32_16 {g : im_g} : im_D g 32 16 (.lshl) 17 := im_D.of (by decide +kernel)
theorem D32_17 {g : im_g} : im_D g 32 17 (.iload 5) 19 := im_D.of (by decide +kernel)
theorem D32_19 {g : im_g} : im_D g 32 19 (.ifCond .lt 25) 22 := im_D.of (by decide +kernel)
theorem D32_22 {g : im_g} : im_D g 32 22 (.iload 5) 24 := im_D.of (by decide +kernel)
theorem D32_24 {g : im_g} : im_D g 32 24 (.sipush 16384) 27 := im_D.of (by decide +kernel)
theorem D32_27 {g : im_g} : im_D g 32 27 (.if_icmp .ge 17) 30 := im_D.of (by decide +kernel)
theorem D32_30 {g : im_g} : im_D g 32 30 (.aload_n 0) 31 := im_D.of (by decide +kernel)
theorem D32_31 {g : im_g} : im_D g 32 31 (.getfield 9) 34 := im_D.of (by decide +kernel)
theorem D32_34 {g : im_g} : im_D g 32 34 (.iload 5) 36 := im_D.of (by decide +kernel)
theorem D32_36 {g : im_g} : im_D g 32 36 (.baload) 37 := im_D.of (by decide +kernel)
theorem D32_37 {g : im_g} : im_D g 32 37 (.sipush 255) 40 := im_D.of (by decide +kernel)
theorem D32_40 {g : im_g} : im_D g 32 40 (.iand) 41 := im_D.of (by decide +kernel)
theorem D32_41 {g : im_g} : im_D g 32 41 (.goto 4) 44 := im_D.of (by decide +kernel)
theorem D32_44 {g : im_g} : im_D g 32 44 (.iconst 0) 45 := im_D.of (by decide +kernel)
theorem D32_45 {g : im_g} : im_D g 32 45 (.i2l) 46 := im_D.of (by decide +kernel)
theorem D32_46 {g : im_g} : im_D g 32 46 (.lor) 47 := im_D.of (by decide +kernel)
theorem D32_47 {g : im_g} : im_D g 32 47 (.lstore_n 3) 48 := im_D.of (by decide +kernel)
theorem D32_48 {g : im_g} : im_D g 32 48 (.iinc 5 1) 51 := im_D.of (by decide +kernel)
theorem D32_51 {g : im_g} : im_D g 32 51 (.goto (-46)) 54 := im_D.of (by decide +kernel)
theorem D32_54 {g : im_g} : im_D g 32 54 (.lload_n 3) 55 := im_D.of (by decide +kernel)
theorem D32_55 {g : im_g} : im_D g 32 55 (.lreturn) 56 := im_D.of (by decide +kernel)
theorem D33_0 {g : im_g} : im_D g 33 0 (.iload_n 0) 1 := im_D.of (by decide +kernel)
theorem D33_1 {g : im_g} : im_D g 33 1 (.istore_n 2) 2 := im_D.of (by decide +kernel)
theorem D33_2 {g : im_g} : im_D g 33 2 (.bipush 24) 4 := im_D.of (by decide +kernel)
theorem D33_4 {g : im_g} : im_D g 33 4 (.istore_n 3) 5 := im_D.of (by decide +kernel)
theorem D33_5 {g : im_g} : im_D g 33 5 (.iload_n 3) 6 := im_D.of (by decide +kernel)
theorem D33_6 {g : im_g} : im_D g 33 6 (.ifCond .lt 17) 9 := im_D.of (by decide +kernel)
theorem D33_9 {g : im_g} : im_D g 33 9 (.iload_n 2) 10 := im_D.of (by decide +kernel)
theorem D33_10 {g : im_g} : im_D g 33 10 (.iload_n 1) 11 := im_D.of (by decide +kernel)
theorem D33_11 {g : im_g} : im_D g 33 11 (.iload_n 3) 12 := im_D.of (by decide +kernel)
theorem D33_12 {g : im_g} : im_D g 33 12 (.iushr) 13 := im_D.of (by decide +kernel)
theorem D33_13 {g : im_g} : im_D g 33 13 (.invokestatic 61) 16 := im_D.of (by decide +kernel)
theorem D33_16 {g : im_g} : im_D g 33 16 (.istore_n 2) 17 := im_D.of (by decide +kernel)
theorem D33_17 {g : im_g} : im_D g 33 17 (.iinc 3 (-8)) 20 := im_D.of (by decide +kernel)
theorem D33_20 {g : im_g} : im_D g 33 20 (.goto (-15)) 23 := im_D.of (by decide +kernel)
theorem D33_23 {g : im_g} : im_D g 33 23 (.iload_n 2) 24 := im_D.of (by decide +kernel)
theorem D33_24 {g : im_g} : im_D g 33 24 (.ireturn) 25 := im_D.of (by decide +kernel)
theorem D34_0 {g : im_g} : im_D g 34 0 (.aload_n 0) 1 := im_D.of (by decide +kernel)
theorem D34_1 {g : im_g} : im_D g 34 1 (.getfield 19) 4 := im_D.of (by decide +kernel)
theorem D34_4 {g : im_g} : im_D g 34 4 (.iconst 3) 5 := im_D.of (by decide +kernel)
theorem D34_5 {g : im_g} : im_D g 34 5 (.iadd) 6 := im_D.of (by decide +kernel)
theorem D34_6 {g : im_g} : im_D g 34 6 (.bipush 8) 8 := im_D.of (by decide +kernel)
theorem D34_8 {g : im_g} : im_D g 34 8 (.getstatic 29) 11 := im_D.of (by decide +kernel)
theorem D34_11 {g : im_g} : im_D g 34 11 (.aload_n 0) 12 := im_D.of (by decide +kernel)
theorem D34_12 {g : im_g} : im_D g 34 12 (.invokevirtual 69) 15 := im_D.of (by decide +kernel)
theorem D34_15 {g : im_g} : im_D g 34 15 (.bipush 8) 17 := im_D.of (by decide +kernel)
theorem D34_17 {g : im_g} : im_D g 34 17 (.if_icmp .gt 10) 20 := im_D.of (by decide +kernel)
theorem D34_20 {g : im_g} : im_D g 34 20 (.aload_n 0) 21 := im_D.of (by decide +kernel)
theorem D34_21 {g : im_g} : im_D g 34 21 (.invokevirtual 69) 24 := im_D.of (by decide +kernel)
theorem D34_24 {g : im_g} : im_D g 34 24 (.goto 4) 27 := im_D.of (by decide +kernel)
theorem D34_27 {g : im_g} : im_D g 34 27 (.iconst 0) 28 := im_D.of (by decide +kernel)
theorem D34_28 {g : im_g} : im_D g 34 28 (.iaload) 29 := im_D.of (by decide +kernel)
theorem D34_29 {g : im_g} : im_D g 34 29 (.imul) 30 := im_D.of (by decide +kernel)
theorem D34_30 {g : im_g} : im_D g 34 30 (.iadd) 31 := im_D.of (by decide +kernel)
theorem D34_31 {g : im_g} : im_D g 34 31 (.istore_n 2) 32 := im_D.of (by decide +kernel)
theorem D34_32 {g : im_g} : im_D g 34 32 (.aload_n 0) 33 := im_D.of (by decide +kernel)
theorem D34_33 {g : im_g} : im_D g 34 33 (.getfield 19) 36 := im_D.of (by decide +kernel)
theorem D34_36 {g : im_g} : im_D g 34 36 (.aload_n 0) 37 := im_D.of (by decide +kernel)
theorem D34_37 {g : im_g} : im_D g 34 37 (.invokevirtual 66) 40 := im_D.of (by decide +kernel)
theorem D34_40 {g : im_g} : im_D g 34 40 (.iadd) 41 := im_D.of (by decide +kernel)
theorem D34_41 {g : im_g} : im_D g 34 41 (.iconst 4) 42 := im_D.of (by decide +kernel)
theorem D34_42 {g : im_g} : im_D g 34 42 (.isub) 43 := im_D.of (by decide +kernel)
theorem D34_43 {g : im_g} : im_D g 34 43 (.istore_n 3) 44 := im_D.of (by decide +kernel)
theorem D34_44 {g : im_g} : im_D g 34 44 (.iconst 0) 45 := im_D.of (by decide +kernel)
theorem D34_45 {g : im_g} : im_D g 34 45 (.istore 4) 47 := im_D.of (by decide +kernel)
theorem D34_47 {g : im_g} : im_D g 34 47 (.iload_n 2) 48 := im_D.of (by decide +kernel)
theorem D34_48 {g : im_g} : im_D g 34 48 (.istore 5) 50 := im_D.of (by decide +kernel)
theorem D34_50 {g : im_g} : im_D g 34 50 (.iload 5) 52 := im_D.of (by decide +kernel)
theorem D34_52 {g : im_g} : im_D g 34 52 (.iload_n 3) 53 := im_D.of (by decide +kernel)
theorem D34_53 {g : im_g} : im_D g 34 53 (.if_icmp .ge 38) 56 := im_D.of (by decide +kernel)
theorem D34_56 {g : im_g} : im_D g 34 56 (.iload 5) 58 := im_D.of (by decide +kernel)
theorem D34_58 {g : im_g} : im_D g 34 58 (.sipush 16384) 61 := im_D.of (by decide +kernel)
theorem D34_61 {g : im_g} : im_D g 34 61 (.if_icmp .ge 30) 64 := im_D.of (by decide +kernel)
theorem D34_64 {g : im_g} : im_D g 34 64 (.iload 4) 66 := im_D.of (by decide +kernel)
theorem D34_66 {g : im_g} : im_D g 34 66 (.aload_n 1) 67 := im_D.of (by decide +kernel)
theorem D34_67 {g : im_g} : im_D g 34 67 (.arraylength) 68 := im_D.of (by decide +kernel)
theorem D34_68 {g : im_g} : im_D g 34 68 (.if_icmp .ge 23) 71 := im_D.of (by decide +kernel)
theorem D34_71 {g : im_g} : im_D g 34 71 (.aload_n 1) 72 := im_D.of (by decide +kernel)
theorem D34_72 {g : im_g} : im_D g 34 72 (.iload 4) 74 := im_D.of (by decide +kernel)
theorem D34_74 {g : im_g} : im_D g 34 74 (.aload_n 0) 75 := im_D.of (by decide +kernel)
theorem D34_75 {g : im_g} : im_D g 34 75 (.getfield 9) 78 := im_D.of (by decide +kernel)
theorem D34_78 {g : im_g} : im_D g 34 78 (.iload 5) 80 := im_D.of (by decide +kernel)
theorem D34_80 {g : im_g} : im_D g 34 80 (.baload) 81 := im_D.of (by decide +kernel)
theorem D34_81 {g : im_g} : im_D g 34 81 (.bastore) 82 := im_D.of (by decide +kernel)
theorem D34_82 {g : im_g} : im_D g 34 82 (.iinc 4 1) 85 := im_D.of (by decide +kernel)
theorem D34_85 {g : im_g} : im_D g 34 85 (.iinc 5 1) 88 := im_D.of (by decide +kernel)
theorem D34_88 {g : im_g} : im_D g 34 88 (.goto (-38)) 91 := im_D.of (by decide +kernel)
theorem D34_91 {g : im_g} : im_D g 34 91 (.iload 4) 93 := im_D.of (by decide +kernel)
theorem D34_93 {g : im_g} : im_D g 34 93 (.ireturn) 94 := im_D.of (by decide +kernel)
theorem D35_0 {g : im_g} : im_D g 35 0 (.aload_n 0) 1 := im_D.of (by decide +kernel)
theorem D35_1 {g : im_g} : im_D g 35 1 (.aload_n 0) 2 := im_D.of (by decide +kernel)
theorem D35_2 {g : im_g} : im_D g 35 2 (.getfield 19) 5 := im_D.of (by decide +kernel)
theorem D35_5 {g : im_g} : im_D g 35 5 (.iconst 3) 6 := im_D.of (by decide +kernel)
theorem D35_6 {g : im_g} : im_D g 35 6 (.iadd) 7 := im_D.of (by decide +kernel)
theorem D35_7 {g : im_g} : im_D g 35 7 (.bipush 8) 9 := im_D.of (by decide +kernel)
theorem D35_9 {g : im_g} : im_D g 35 9 (.iload_n 1) 10 := im_D.of (by decide +kernel)
theorem D35_10 {g : im_g} : im_D g 35 10 (.imul) 11 := im_D.of (by decide +kernel)
theorem D35_11 {g : im_g} : im_D g 35 11 (.iadd) 12 := im_D.of (by decide +kernel)
theorem D35_12 {g : im_g} : im_D g 35 12 (.bipush 8) 14 := im_D.of (by decide +kernel)
theorem D35_14 {g : im_g} : im_D g 35 14 (.invokevirtual 76) 17 := im_D.of (by decide +kernel)
theorem D35_17 {g : im_g} : im_D g 35 17 (.lreturn) 18 := im_D.of (by decide +kernel)
theorem D36_0 {g : im_g} : im_D g 36 0 (.lload_n 1) 1 := im_D.of (by decide +kernel)
theorem D36_1 {g : im_g} : im_D g 36 1 (.lconst 0) 2 := im_D.of (by decide +kernel)
theorem D36_2 {g : im_g} : im_D g 36 2 (.lcmp) 3 := im_D.of (by decide +kernel)
theorem D36_3 {g : im_g} : im_D g 36 3 (.ifCond .lt 11) 6 := im_D.of (by decide +kernel)
theorem D36_6 {g : im_g} : im_D g 36 6 (.lload_n 1) 7 := im_D.of (by decide +kernel)
theorem D36_7 {g : im_g} : im_D g 36 7 (.ldc2_w 214) 10 := im_D.of (by decide +kernel)
theorem D36_10 {g : im_g} : im_D g 36 10 (.lcmp) 11 := im_D.of (by decide +kernel)
theorem D36_11 {g : im_g} : im_D g 36 11 (.ifCond .lt 6) 14 := im_D.of (by decide +kernel)
theorem D36_14 {g : im_g} : im_D g 36 14 (.bipush (-101)) 16 := im_D.of (by decide +kernel)
theorem D36_16 {g : im_g} : im_D g 36 16 (.ireturn) 17 := im_D.of (by decide +kernel)
theorem D36_17 {g : im_g} : im_D g 36 17 (.aload_n 0) 18 := im_D.of (by decide +kernel)
theorem D36_18 {g : im_g} : im_D g 36 18 (.getfield 49) 21 := im_D.of (by decide +kernel)
theorem D36_21 {g : im_g} : im_D g 36 21 (.lload_n 1) 22 := im_D.of (by decide +kernel)
theorem D36_22 {g : im_g} : im_D g 36 22 (.l2i) 23 := im_D.of (by decide +kernel)
theorem D36_23 {g : im_g} : im_D g 36 23 (.iaload) 24 := im_D.of (by decide +kernel)
theorem D36_24 {g : im_g} : im_D g 36 24 (.iconst (-1)) 25 := im_D.of (by decide +kernel)
theorem D36_25 {g : im_g} : im_D g 36 25 (.if_icmp .eq 6) 28 := im_D.of (by decide +kernel)
theorem D36_28 {g : im_g} : im_D g 36 28 (.bipush (-103)) 30 := im_D.of (by decide +kernel)
theorem D36_30 {g : im_g} : im_D g 36 30 (.ireturn) 31 := im_D.of (by decide +kernel)
theorem D36_31 {g : im_g} : im_D g 36 31 (.aload_n 0) 32 := im_D.of (by decide +kernel)
theorem D36_32 {g : im_g} : im_D g 36 32 (.getfield 16) 35 := im_D.of (by decide +kernel)
theorem D36_35 {g : im_g} : im_D g 36 35 (.aload_n 0) 36 := im_D.of (by decide +kernel)
theorem D36_36 {g : im_g} : im_D g 36 36 (.getfield 45) 39 := im_D.of (by decide +kernel)
theorem D36_39 {g : im_g} : im_D g 36 39 (.aload_n 0) 40 := im_D.of (by decide +kernel)
theorem D36_40 {g : im_g} : im_D g 36 40 (.getfield 9) 43 := im_D.of (by decide +kernel)
theorem D36_43 {g : im_g} : im_D g 36 43 (.iload_n 3) 44 := im_D.of (by decide +kernel)
theorem D36_44 {g : im_g} : im_D g 36 44 (.invokevirtual 216) 47 := im_D.of (by decide +kernel)
theorem D36_47 {g : im_g} : im_D g 36 47 (.invokevirtual 220) 50 := im_D.of (by decide +kernel)
theorem D36_50 {g : im_g} : im_D g 36 50 (.ifCond .eq 5) 53 := im_D.of (by decide +kernel)
theorem D36_53 {g : im_g} : im_D g 36 53 (.iconst (-1)) 54 := im_D.of (by decide +kernel)
theorem D36_54 {g : im_g} : im_D g 36 54 (.ireturn) 55 := im_D.of (by decide +kernel)
theorem D36_55 {g : im_g} : im_D g 36 55 (.aload_n 0) 56 := im_D.of (by decide +kernel)
theorem D36_56 {g : im_g} : im_D g 36 56 (.getfield 36) 59 := im_D.of (by decide +kernel)
theorem D36_59 {g : im_g} : im_D g 36 59 (.getfield 224) 62 := im_D.of (by decide +kernel)
theorem D36_62 {g : im_g} : im_D g 36 62 (.aload_n 0) 63 := im_D.of (by decide +kernel)
theorem D36_63 {g : im_g} : im_D g 36 63 (.getfield 45) 66 := im_D.of (by decide +kernel)
theorem D36_66 {g : im_g} : im_D g 36 66 (.getfield 225) 69 := im_D.of (by decide +kernel)
theorem D36_69 {g : im_g} : im_D g 36 69 (.iadd) 70 := im_D.of (by decide +kernel)
theorem D36_70 {g : im_g} : im_D g 36 70 (.sipush 4000) 73 := im_D.of (by decide +kernel)
theorem D36_73 {g : im_g} : im_D g 36 73 (.if_icmp .le 6) 76 := im_D.of (by decide +kernel)
theorem D36_76 {g : im_g} : im_D g 36 76 (.bipush (-9)) 78 := im_D.of (by decide +kernel)
theorem D36_78 {g : im_g} : im_D g 36 78 (.ireturn) 79 := im_D.of (by decide +kernel)
theorem D36_79 {g : im_g} : im_D g 36 79 (.aload_n 0) 80 := im_D.of (by decide +kernel)
theorem D36_80 {g : im_g} : im_D g 36 80 (.iconst 1) 81 := im_D.of (by decide +kernel)
theorem D36_81 {g : im_g} : im_D g 36 81 (.lload_n 1) 82 := im_D.of (by decide +kernel)
theorem D36_82 {g : im_g} : im_D g 36 82 (.lconst 0) 83 := im_D.of (by decide +kernel)
theorem D36_83 {g : im_g} : im_D g 36 83 (.lconst 0) 84 := im_D.of (by decide +kernel)
theorem D36_84 {g : im_g} : im_D g 36 84 (.iload_n 3) 85 := im_D.of (by decide +kernel)
theorem D36_85 {g : im_g} : im_D g 36 85 (.invokevirtual 228) 88 := im_D.of (by decide +kernel)
theorem D36_88 {g : im_g} : im_D g 36 88 (.istore 4) 90 := im_D.of (by decide +kernel)
theorem D36_90 {g : im_g} : im_D g 36 90 (.iload 4) 92 := im_D.of (by decide +kernel)
theorem D36_92 {g : im_g} : im_D g 36 92 (.ifCond .eq 6) 95 := im_D.of (by decide +kernel)
theorem D36_95 {g : im_g} : im_D g 36 95 (.iload 4) 97 := im_D.of (by decide +kernel)
theorem D36_97 {g : im_g} : im_D g 36 97 (.ireturn) 98 := im_D.of (by decide +kernel)
theorem D36_98 {g : im_g} : im_D g 36 98 (.aload_n 0) 99 := im_D.of (by decide +kernel)
theorem D36_99 {g : im_g} : im_D g 36 99 (.getfield 49) 102 := im_D.of (by decide +kernel)
theorem D36_102 {g : im_g} : im_D g 36 102 (.lload_n 1) 103 := im_D.of (by decide +kernel)
theorem D36_103 {g : im_g} : im_D g 36 103 (.l2i) 104 := im_D.of (by decide +kernel)
theorem D36_104 {g : im_g} : im_D g 36 104 (.aload_n 0) 105 := im_D.of (by decide +kernel)
theorem D36_105 {g : im_g} : im_D g 36 105 (.getfield 36) 108 := im_D.of (by decide +kernel)
theorem D36_108 {g : im_g} : im_D g 36 108 (.getfield 224) 111 := im_D.of (by decide +kernel)
theorem D36_111 {g : im_g} : im_D g 36 111 (.iastore) 112 := im_D.of (by decide +kernel)
theorem D36_112 {g : im_g} : im_D g 36 112 (.aload_n 0) 113 := im_D.of (by decide +kernel)
theorem D36_113 {g : im_g} : im_D g 36 113 (.getfield 45) 116 := im_D.of (by decide +kernel)
theorem D36_116 {g : im_g} : im_D g 36 116 (.invokevirtual 232) 119 := im_D.of (by decide +kernel)
theorem D36_119 {g : im_g} : im_D g 36 119 (.aload_n 0) 120 := im_D.of (by decide +kernel)
theorem D36_120 {g : im_g} : im_D g 36 120 (.getfield 45) 123 := im_D.of (by decide +kernel)
theorem D36_123 {g : im_g} : im_D g 36 123 (.getfield 225) 126 := im_D.of (by decide +kernel)
theorem D36_126 {g : im_g} : im_D g 36 126 (.ireturn) 127 := im_D.of (by decide +kernel)
set_option maxRecDepth 20000 in
set_option maxHeartbeats 4000000 in
theorem k_P_fault_0 {g : im_g} {d : Nat} {e : im_E} {M : im_M} {K : im_K} {p1 : Int} (hP : (im_i32 p1) ∧ ((∀ x5 : Int, (((p1 = 0) ∧ x5 = (M 2 8)) ∨ ((¬ p1 = 0) ∧ x5 = (M 2 9))) → K (.inl (some (vI x5))) e M))) : im_T g d 19 0 [some (.ref 0), some (vI p1)] [] e M K := by
  refine im_ld (q := 1) (i := 1) D19_0 rfl rfl rfl ?_
  obtain ⟨hg1, hP⟩ := hP
  have hJ6 := hP
  have kJ7 : ∀ x5 : Int, (((p1 = 0) ∧ x5 = (M 2 8)) ∨ ((¬ p1 = 0) ∧ x5 = (M 2 9))) → im_T g d 19 21 [none, none] [vI x5] e M K := by
    intro x5 hx8
    have hP := hJ6 x5 hx8
    exact im_iret (q := 22) D19_21 rfl hP
  refine im_ifc (q := 4) (t := 14) D19_1 rfl hg1 (fun hc2 => ?_) (fun hc2 => ?_)
  · refine im_ld (q := 15) (i := 0) D19_14 rfl rfl rfl ?_
    refine im_gfR (q := 18) (b := 2) D19_15 (im_fl cn_19 fl_11_16) sf_0 rfl rfl tR_11_2 rfl ?_
    refine im_rng (j := 8) sf_2 (by decide) (by decide) (fun hr3 => ?_)
    refine im_gfI (q := 21) D19_18 (im_fl cn_19 fl_11_176) sf_2 rfl rfl tI_6_8 rfl ?_
    exact (kJ7 ((M 2 8)) (Or.inl ⟨hc2, rfl⟩)).wk trivial
  · refine im_ld (q := 5) (i := 0) D19_4 rfl rfl rfl ?_
    refine im_gfR (q := 8) (b := 2) D19_5 (im_fl cn_19 fl_11_16) sf_0 rfl rfl tR_11_2 rfl ?_
    refine im_rng (j := 9) sf_2 (by decide) (by decide) (fun hr4 => ?_)
    refine im_gfI (q := 11) D19_8 (im_fl cn_19 fl_11_173) sf_2 rfl rfl tI_6_9 rfl ?_
    refine im_goto (q := 14) (t := 21) D19_11 rfl ?_
    exact (kJ7 ((M 2 9)) (Or.inr ⟨hc2, rfl⟩)).wk trivial
set_option maxRecDepth 20000 in
set_option maxHeartbeats 4000000 in
theorem k_P_recover_0 {g : im_g} {d : Nat} {e : im_E} {M : im_M} {K : im_K} (hd : 1 ≤ d) (hP : im_T g (d - 1) 21 0 [some (.ref 0), none] [] e M (im_r0 (fun  e_ M1 => e = e_ ∧ im_T g (d - 1) 25 0 [some (.ref 2068), none, none, none, none, none, none] [] e (im_u M1 0 19 1) (im_ri (fun x3 e_ M2 => e = e_ ∧ im_T g d 20 19 [some (.ref 0), some (vI x3), some (vI 0), none, none, none, none, none, none, none, none] [] e M2 K))))) : im_T g d 20 0 [some (.ref 0), none, none, none, none, none, none, none, none, none, none] [] e M K := by
  refine im_ld (q := 1) (i := 0) D20_0 rfl rfl rfl ?_
  refine im_callV (q := 4) (kd := 1) (y := 21) (n := 0) (ci := 11) (a := 0) (vs := [.ref 0]) (r := []) (L2 := [some (.ref 0), none]) D20_1 (im_cal cn_20 cl_11_414) (Or.inl rfl) rfl sf_0 rfl rfl rfl rfl hd ⟨rfl, trivial⟩ ?_
  refine hP.mono ?_
  rintro _ e5 M1 ⟨rfl, rfl, hP⟩
  refine im_bkN ?_
  refine im_ld (q := 5) (i := 0) D20_4 rfl rfl rfl ?_
  refine im_iconst (q := 6) D20_5 ?_
  refine im_pfZ (q := 9) D20_6 (im_fl cn_20 fl_11_417) sf_0 rfl rfl tz_11_19 (by decide) ?_
  refine im_ld (q := 10) (i := 0) D20_9 rfl rfl rfl ?_
  refine im_gfR (q := 13) (b := 2068) D20_10 (im_fl cn_20 fl_11_113) sf_0 rfl rfl tR_11_17 rfl ?_
  refine im_callV (q := 16) (kd := 1) (y := 25) (n := 0) (ci := 1) (a := 2068) (vs := [.ref 2068]) (r := []) (L2 := [some (.ref 2068), none, none, none, none, none, none]) D20_13 (im_cal cn_20 cl_11_420) (Or.inl rfl) rfl sf_2068 rfl rfl rfl rfl hd ⟨rfl, trivial⟩ ?_
  refine hP.mono ?_
  rintro _ e4 M2 ⟨x3, rfl, rfl, hP⟩
  refine im_bkS ?_
  refine im_st1 (q := 17) (i := 1) (L' := [some (.ref 0), some (vI x3), none, none, none, none, none, none, none, none, none]) D20_16 (Or.inl ⟨_, rfl, rfl⟩) (Nat.le_of_ble_eq_true rfl) rfl ?_
  refine im_iconst (q := 18) D20_17 ?_
  refine im_st1 (q := 19) (i := 2) (L' := [some (.ref 0), some (vI x3), some (vI 0), none, none, none, none, none, none, none, none]) D20_18 (Or.inl ⟨_, rfl, rfl⟩) (Nat.le_of_ble_eq_true rfl) rfl ?_
  exact hP.wk ⟨rfl, rfl, rfl, trivial⟩
set_option maxRecDepth 20000 in
set_option maxHeartbeats 4000000 in
theorem k_P_recover_19 {g : im_g} {d : Nat} {e : im_E} {M : im_M} {K : im_K} {p1 p2 : Int} (hd : 1 ≤ d) (hP : (im_i32 p2) ∧ ((((p2 < 16384 → (im_i32 p1) ∧ ((0 < p1 → im_T g (d - 1) 34 0 [some (.ref 2068), some (.ref 1), none, none, none, none] [] e M (im_ri (fun x12 e_ M11 => e = e_ ∧ im_T g (d - 1) 35 0 [some (.ref 2068), some (vI 0)] [] e M11 (im_rl (fun x14 e_ M13 => e = e_ ∧ im_T g (d - 1) 35 0 [some (.ref 2068), some (vI 1)] [] e M13 (im_rl (fun x16 e_ M15 => e = e_ ∧ im_T g (d - 1) 35 0 [some (.ref 2068), some (vI 2)] [] e M15 (im_rl (fun x18 e_ M17 => e = e_ ∧ im_T g (d - 1) 27 0 [some (.ref 2068)] [] e M17 (im_ri (fun x20 e_ M19 => e = e_ ∧ (im_i32 x20) ∧ ((x20 = 1 → im_T g (d - 1) 36 0 [some (.ref 0), some (vL x14), none, some (vI x12), none] [] e M19 (im_ri (fun x23 e_ M22 => e = e_ ∧ (im_i32 x23) ∧ ((0 ≤ x23 → im_T g (d - 1) 82 0 [some (.ref 2068), some (vI p1)] [] e M22 (im_r0 (fun  e_ M26 => e = e_ ∧ im_T g (d - 1) 25 0 [some (.ref 2068), none, none, none, none, none, none] [] e M26 (im_ri (fun x28 e_ M27 => e = e_ ∧ im_T g d 20 19 [some (.ref 0), some (vI x28), some (vI (p2 + 1)), none, none, none, none, none, none, none, none] [] e M27 K))))) ∧ (x23 < 0 → im_T g (d - 1) 149 0 [some (.ref 2)] [] e (im_u M22 0 19 0) (im_r0 (fun  e_ M31 => e = e_ ∧ K (.inl (some (vI (M31 2068 2)))) e M31))))))) ∧ (x20 = 2 → im_T g (d - 1) 84 0 [some (.ref 0), some (vL x14), none, none] [] e M19 (im_ri (fun x37 e_ M36 => e = e_ ∧ (im_i32 x37) ∧ ((0 ≤ x37 → im_T g (d - 1) 82 0 [some (.ref 2068), some (vI p1)] [] e M36 (im_r0 (fun  e_ M40 => e = e_ ∧ im_T g (d - 1) 25 0 [some (.ref 2068), none, none, none, none, none, none] [] e M40 (im_ri (fun x42 e_ M41 => e = e_ ∧ im_T g d 20 19 [some (.ref 0), some (vI x42), some (vI (p2 + 1)), none, none, none, none, none, none, none, none] [] e M41 K))))) ∧ (x37 < 0 → im_T g (d - 1) 149 0 [some (.ref 2)] [] e (im_u M36 0 19 0) (im_r0 (fun  e_ M45 => e = e_ ∧ K (.inl (some (vI (M45 2068 2)))) e M45))))))) ∧ (x20 = 3 → im_T g (d - 1) 85 0 [some (.ref 0), some (vL x14), none, some (vL x16), none, some (vL x18), none, none, none, none] [] e M19 (im_ri (fun x51 e_ M50 => e = e_ ∧ (im_i32 x51) ∧ ((0 ≤ x51 → im_T g (d - 1) 82 0 [some (.ref 2068), some (vI p1)] [] e M50 (im_r0 (fun  e_ M54 => e = e_ ∧ im_T g (d - 1) 25 0 [some (.ref 2068), none, none, none, none, none, none] [] e M54 (im_ri (fun x56 e_ M55 => e = e_ ∧ im_T g d 20 19 [some (.ref 0), some (vI x56), some (vI (p2 + 1)), none, none, none, none, none, none, none, none] [] e M55 K))))) ∧ (x51 < 0 → im_T g (d - 1) 149 0 [some (.ref 2)] [] e (im_u M50 0 19 0) (im_r0 (fun  e_ M59 => e = e_ ∧ K (.inl (some (vI (M59 2068 2)))) e M59))))))) ∧ (x20 = 4 → im_T g (d - 1) 92 0 [some (.ref 0), some (vL x14), none, none, none] [] e M19 (im_ri (fun x65 e_ M64 => e = e_ ∧ (im_i32 x65) ∧ ((0 ≤ x65 → im_T g (d - 1) 82 0 [some (.ref 2068), some (vI p1)] [] e M64 (im_r0 (fun  e_ M68 => e = e_ ∧ im_T g (d - 1) 25 0 [some (.ref 2068), none, none, none, none, none, none] [] e M68 (im_ri (fun x70 e_ M69 => e = e_ ∧ im_T g d 20 19 [some (.ref 0), some (vI x70), some (vI (p2 + 1)), none, none, none, none, none, none, none, none] [] e M69 K))))) ∧ (x65 < 0 → im_T g (d - 1) 149 0 [some (.ref 2)] [] e (im_u M64 0 19 0) (im_r0 (fun  e_ M73 => e = e_ ∧ K (.inl (some (vI (M73 2068 2)))) e M73))))))) ∧ (x20 = 5 → im_T g (d - 1) 94 0 [some (.ref 0), some (vL x14), none, some (vL x16), none, some (vI x12), none, none, none] [] e M19 (im_ri (fun x79 e_ M78 => e = e_ ∧ (im_i32 x79) ∧ ((0 ≤ x79 → im_T g (d - 1) 82 0 [some (.ref 2068), some (vI p1)] [] e M78 (im_r0 (fun  e_ M82 => e = e_ ∧ im_T g (d - 1) 25 0 [some (.ref 2068), none, none, none, none, none, none] [] e M82 (im_ri (fun x84 e_ M83 => e = e_ ∧ im_T g d 20 19 [some (.ref 0), some (vI x84), some (vI (p2 + 1)), none, none, none, none, none, none, none, none] [] e M83 K))))) ∧ (x79 < 0 → im_T g (d - 1) 149 0 [some (.ref 2)] [] e (im_u M78 0 19 0) (im_r0 (fun  e_ M87 => e = e_ ∧ K (.inl (some (vI (M87 2068 2)))) e M87))))))) ∧ (x20 = 6 → im_T g (d - 1) 102 0 [some (.ref 0), some (vL x14), none, some (vL x16), none, some (vL x18), none, some (vI x12), none, none] [] e M19 (im_ri (fun x93 e_ M92 => e = e_ ∧ (im_i32 x93) ∧ ((0 ≤ x93 → im_T g (d - 1) 82 0 [some (.ref 2068), some (vI p1)] [] e M92 (im_r0 (fun  e_ M96 => e = e_ ∧ im_T g (d - 1) 25 0 [some (.ref 2068), none, none, none, none, none, none] [] e M96 (im_ri (fun x98 e_ M97 => e = e_ ∧ im_T g d 20 19 [some (.ref 0), some (vI x98), some (vI (p2 + 1)), none, none, none, none, none, none, none, none] [] e M97 K))))) ∧ (x93 < 0 → im_T g (d - 1) 149 0 [some (.ref 2)] [] e (im_u M92 0 19 0) (im_r0 (fun  e_ M101 => e = e_ ∧ K (.inl (some (vI (M101 2068 2)))) e M101))))))) ∧ (x20 = 7 → im_T g (d - 1) 147 0 [some (.ref 0), some (vL x14), none, some (vI x12), none] [] e M19 (im_ri (fun x107 e_ M106 => e = e_ ∧ (im_i32 x107) ∧ ((0 ≤ x107 → im_T g (d - 1) 82 0 [some (.ref 2068), some (vI p1)] [] e M106 (im_r0 (fun  e_ M110 => e = e_ ∧ im_T g (d - 1) 25 0 [some (.ref 2068), none, none, none, none, none, none] [] e M110 (im_ri (fun x112 e_ M111 => e = e_ ∧ im_T g d 20 19 [some (.ref 0), some (vI x112), some (vI (p2 + 1)), none, none, none, none, none, none, none, none] [] e M111 K))))) ∧ (x107 < 0 → im_T g (d - 1) 149 0 [some (.ref 2)] [] e (im_u M106 0 19 0) (im_r0 (fun  e_ M115 => e = e_ ∧ K (.inl (some (vI (M115 2068 2)))) e M115))))))) ∧ (x20 < 1 ∨ 7 < x20 → im_T g (d - 1) 148 0 [some (.ref 0), none, none] [] e M19 (im_ri (fun x121 e_ M120 => e = e_ ∧ (im_i32 x121) ∧ ((0 ≤ x121 → im_T g (d - 1) 82 0 [some (.ref 2068), some (vI p1)] [] e M120 (im_r0 (fun  e_ M124 => e = e_ ∧ im_T g (d - 1) 25 0 [some (.ref 2068), none, none, none, none, none, none] [] e M124 (im_ri (fun x126 e_ M125 => e = e_ ∧ im_T g d 20 19 [some (.ref 0), some (vI x126), some (vI (p2 + 1)), none, none, none, none, none, none, none, none] [] e M125 K))))) ∧ (x121 < 0 → im_T g (d - 1) 149 0 [some (.ref 2)] [] e (im_u M120 0 19 0) (im_r0 (fun  e_ M129 => e = e_ ∧ K (.inl (some (vI (M129 2068 2)))) e M129))))))))))))))))))))))) ∧ ((((16384 ≤ p2)) ∨ ((p2 < 16384) ∧ (p1 ≤ 0))) → im_T g (d - 1) 149 0 [some (.ref 2)] [] e (im_u M 0 19 0) (im_r0 (fun  e_ M8 => e = e_ ∧ K (.inl (some (vI (M8 2068 2)))) e M8))))) : im_T g d 20 19 [some (.ref 0), some (vI p1), some (vI p2), none, none, none, none, none, none, none, none] [] e M K := by
  refine im_ld (q := 20) (i := 2) D20_19 rfl rfl rfl ?_
  refine im_sipush (q := 23) D20_20 rfl ?_
  obtain ⟨hg1, hP⟩ := hP
  obtain ⟨hP, hJ5⟩ := hP
  have kJ6 : (((16384 ≤ p2)) ∨ ((p2 < 16384) ∧ (p1 ≤ 0))) → im_T g d 20 247 [some (.ref 0), none, none, none, none, none, none, none, none, none, none] [] e M K := by
    intro  hx7
    have hP := hJ5  hx7
    refine im_ld (q := 248) (i := 0) D20_247 rfl rfl rfl ?_
    refine im_iconst (q := 249) D20_248 ?_
    refine im_pfZ (q := 252) D20_249 (im_fl cn_20 fl_11_417) sf_0 rfl rfl tz_11_19 (by decide) ?_
    refine im_ld (q := 253) (i := 0) D20_252 rfl rfl rfl ?_
    refine im_gfR (q := 256) (b := 2) D20_253 (im_fl cn_20 fl_11_16) sf_0 rfl rfl tR_11_2 rfl ?_
    refine im_callV (q := 259) (kd := 1) (y := 149) (n := 0) (ci := 6) (a := 2) (vs := [.ref 2]) (r := []) (L2 := [some (.ref 2)]) D20_256 (im_cal cn_20 cl_11_436) (Or.inl rfl) rfl sf_2 rfl rfl rfl rfl hd ⟨rfl, trivial⟩ ?_
    refine hP.mono ?_
    rintro _ e10 M8 ⟨rfl, rfl, hP⟩
    refine im_bkN ?_
    refine im_ld (q := 260) (i := 0) D20_259 rfl rfl rfl ?_
    refine im_gfR (q := 263) (b := 2068) D20_260 (im_fl cn_20 fl_11_113) sf_0 rfl rfl tR_11_17 rfl ?_
    refine im_rng (j := 2) sf_2068 (by decide) (by decide) (fun hr9 => ?_)
    refine im_gfI (q := 266) D20_263 (im_fl cn_20 fl_11_439) sf_2068 rfl rfl tI_1_2 rfl ?_
    exact im_iret (q := 267) D20_266 rfl hP
  refine im_icmp (q := 26) (t := 247) D20_23 rfl hg1 (by decide) (fun hc2 => ?_) (fun hc2 => ?_)
  · exact (kJ6  (Or.inl hc2)).wk ⟨rfl, trivial⟩
  · replace hP := hP (Int.not_le.mp hc2)
    refine im_ld (q := 27) (i := 1) D20_26 rfl rfl rfl ?_
    obtain ⟨hg3, hP⟩ := hP
    refine im_ifc (q := 30) (t := 247) D20_27 rfl hg3 (fun hc4 => ?_) (fun hc4 => ?_)
    · exact (kJ6  (Or.inr ⟨(Int.not_le.mp hc2), hc4⟩)).wk ⟨rfl, trivial⟩
    · replace hP := hP (Int.not_le.mp hc4)
      refine im_ld (q := 31) (i := 0) D20_30 rfl rfl rfl ?_
      refine im_gfR (q := 34) (b := 2068) D20_31 (im_fl cn_20 fl_11_113) sf_0 rfl rfl tR_11_17 rfl ?_
      refine im_ld (q := 35) (i := 0) D20_34 rfl rfl rfl ?_
      refine im_gfR (q := 38) (b := 1) D20_35 (im_fl cn_20 fl_11_9) sf_0 rfl rfl tR_11_0 rfl ?_
      refine im_callV (q := 41) (kd := 1) (y := 34) (n := 1) (ci := 1) (a := 2068) (vs := [.ref 2068, .ref 1]) (r := []) (L2 := [some (.ref 2068), some (.ref 1), none, none, none, none]) D20_38 (im_cal cn_20 cl_11_423) (Or.inl rfl) rfl sf_2068 rfl rfl rfl rfl hd ⟨rfl, rfl, trivial⟩ ?_
      refine hP.mono ?_
      rintro _ e138 M11 ⟨x12, rfl, rfl, hP⟩
      refine im_bkS ?_
      refine im_st1 (q := 42) (i := 3) (L' := [some (.ref 0), some (vI p1), some (vI p2), some (vI x12), none, none, none, none, none, none, none]) D20_41 (Or.inl ⟨_, rfl, rfl⟩) (Nat.le_of_ble_eq_true rfl) rfl ?_
      refine im_ld (q := 43) (i := 0) D20_42 rfl rfl rfl ?_
      refine im_gfR (q := 46) (b := 2068) D20_43 (im_fl cn_20 fl_11_113) sf_0 rfl rfl tR_11_17 rfl ?_
      refine im_iconst (q := 47) D20_46 ?_
      refine im_callV (q := 50) (kd := 1) (y := 35) (n := 1) (ci := 1) (a := 2068) (vs := [.ref 2068, vI 0]) (r := []) (L2 := [some (.ref 2068), some (vI 0)]) D20_47 (im_cal cn_20 cl_11_427) (Or.inl rfl) rfl sf_2068 rfl rfl rfl rfl hd ⟨rfl, rfl, trivial⟩ ?_
      refine hP.mono ?_
      rintro _ e137 M13 ⟨x14, rfl, rfl, hP⟩
      refine im_bkS ?_
      refine im_st2 (q := 52) (i := 4) (L' := [some (.ref 0), some (vI p1), some (vI p2), some (vI x12), some (vL x14), none, none, none, none, none, none]) D20_50 (Or.inr rfl) (Nat.le_of_ble_eq_true rfl) rfl ?_
      refine im_ld (q := 53) (i := 0) D20_52 rfl rfl rfl ?_
      refine im_gfR (q := 56) (b := 2068) D20_53 (im_fl cn_20 fl_11_113) sf_0 rfl rfl tR_11_17 rfl ?_
      refine im_iconst (q := 57) D20_56 ?_
      refine im_callV (q := 60) (kd := 1) (y := 35) (n := 1) (ci := 1) (a := 2068) (vs := [.ref 2068, vI 1]) (r := []) (L2 := [some (.ref 2068), some (vI 1)]) D20_57 (im_cal cn_20 cl_11_427) (Or.inl rfl) rfl sf_2068 rfl rfl rfl rfl hd ⟨rfl, rfl, trivial⟩ ?_
      refine hP.mono ?_
      rintro _ e136 M15 ⟨x16, rfl, rfl, hP⟩
      refine im_bkS ?_
      refine im_st2 (q := 62) (i := 6) (L' := [some (.ref 0), some (vI p1), some (vI p2), some (vI x12), some (vL x14), none, some (vL x16), none, none, none, none]) D20_60 (Or.inr rfl) (Nat.le_of_ble_eq_true rfl) rfl ?_
      refine im_ld (q := 63) (i := 0) D20_62 rfl rfl rfl ?_
      refine im_gfR (q := 66) (b := 2068) D20_63 (im_fl cn_20 fl_11_113) sf_0 rfl rfl tR_11_17 rfl ?_
      refine im_iconst (q := 67) D20_66 ?_
      refine im_callV (q := 70) (kd := 1) (y := 35) (n := 1) (ci := 1) (a := 2068) (vs := [.ref 2068, vI 2]) (r := []) (L2 := [some (.ref 2068), some (vI 2)]) D20_67 (im_cal cn_20 cl_11_427) (Or.inl rfl) rfl sf_2068 rfl rfl rfl rfl hd ⟨rfl, rfl, trivial⟩ ?_
      refine hP.mono ?_
      rintro _ e135 M17 ⟨x18, rfl, rfl, hP⟩
      refine im_bkS ?_
      refine im_st2 (q := 72) (i := 8) (L' := [some (.ref 0), some (vI p1), some (vI p2), some (vI x12), some (vL x14), none, some (vL x16), none, some (vL x18), none, none]) D20_70 (Or.inr rfl) (Nat.le_of_ble_eq_true rfl) rfl ?_
      refine im_ld (q := 73) (i := 0) D20_72 rfl rfl rfl ?_
      refine im_gfR (q := 76) (b := 2068) D20_73 (im_fl cn_20 fl_11_113) sf_0 rfl rfl tR_11_17 rfl ?_
      refine im_callV (q := 79) (kd := 1) (y := 27) (n := 0) (ci := 1) (a := 2068) (vs := [.ref 2068]) (r := []) (L2 := [some (.ref 2068)]) D20_76 (im_cal cn_20 cl_11_430) (Or.inl rfl) rfl sf_2068 rfl rfl rfl rfl hd ⟨rfl, trivial⟩ ?_
      refine hP.mono ?_
      rintro _ e134 M19 ⟨x20, rfl, rfl, hP⟩
      refine im_bkS ?_
      obtain ⟨hg21, hP⟩ := hP
      by_cases hc35 : x20 = 1
      · refine im_tsw (q := 80) (t := 120) D20_79 hg21 (fun _ => by rcases hc35 with hc35 <;> (rw [hc35]; rfl)) (by rcases hc35 with hc35 <;> (rw [hc35]; rfl)) ?_
        replace hP := hP.1 hc35
        refine im_ld (q := 121) (i := 0) D20_120 rfl rfl rfl ?_
        refine im_ld (q := 123) (i := 4) D20_121 rfl rfl rfl ?_
        refine im_ld (q := 124) (i := 3) D20_123 rfl rfl rfl ?_
        refine im_callV (q := 127) (kd := 1) (y := 36) (n := 2) (ci := 11) (a := 0) (vs := [.ref 0, vL x14, vI x12]) (r := []) (L2 := [some (.ref 0), some (vL x14), none, some (vI x12), none]) D20_124 (im_cal cn_20 cl_11_165) (Or.inl rfl) rfl sf_0 rfl rfl rfl rfl hd ⟨rfl, rfl, rfl, trivial⟩ ?_
        refine hP.mono ?_
        rintro _ e34 M22 ⟨x23, rfl, rfl, hP⟩
        refine im_bkS ?_
        refine im_st1 (q := 129) (i := 10) (L' := [some (.ref 0), some (vI p1), some (vI p2), some (vI x12), some (vL x14), none, some (vL x16), none, some (vL x18), none, some (vI x23)]) D20_127 (Or.inr rfl) (Nat.le_of_ble_eq_true rfl) rfl ?_
        refine im_goto (q := 132) (t := 217) D20_129 rfl ?_
        refine im_ld (q := 219) (i := 10) D20_217 rfl rfl rfl ?_
        obtain ⟨hg24, hP⟩ := hP
        refine im_ifc (q := 222) (t := 225) D20_219 rfl hg24 (fun hc25 => ?_) (fun hc25 => ?_)
        · replace hP := hP.1 hc25
          refine im_ld (q := 226) (i := 0) D20_225 rfl rfl rfl ?_
          refine im_gfR (q := 229) (b := 2068) D20_226 (im_fl cn_20 fl_11_113) sf_0 rfl rfl tR_11_17 rfl ?_
          refine im_ld (q := 230) (i := 1) D20_229 rfl rfl rfl ?_
          refine im_callV (q := 233) (kd := 1) (y := 82) (n := 1) (ci := 1) (a := 2068) (vs := [.ref 2068, vI p1]) (r := []) (L2 := [some (.ref 2068), some (vI p1)]) D20_230 (im_cal cn_20 cl_11_433) (Or.inl rfl) rfl sf_2068 rfl rfl rfl rfl hd ⟨rfl, rfl, trivial⟩ ?_
          refine hP.mono ?_
          rintro _ e30 M26 ⟨rfl, rfl, hP⟩
          refine im_bkN ?_
          refine im_ld (q := 234) (i := 0) D20_233 rfl rfl rfl ?_
          refine im_gfR (q := 237) (b := 2068) D20_234 (im_fl cn_20 fl_11_113) sf_0 rfl rfl tR_11_17 rfl ?_
          refine im_callV (q := 240) (kd := 1) (y := 25) (n := 0) (ci := 1) (a := 2068) (vs := [.ref 2068]) (r := []) (L2 := [some (.ref 2068), none, none, none, none, none, none]) D20_237 (im_cal cn_20 cl_11_420) (Or.inl rfl) rfl sf_2068 rfl rfl rfl rfl hd ⟨rfl, trivial⟩ ?_
          refine hP.mono ?_
          rintro _ e29 M27 ⟨x28, rfl, rfl, hP⟩
          refine im_bkS ?_
          refine im_st1 (q := 241) (i := 1) (L' := [some (.ref 0), some (vI x28), some (vI p2), some (vI x12), some (vL x14), none, some (vL x16), none, some (vL x18), none, some (vI x23)]) D20_240 (Or.inl ⟨_, rfl, rfl⟩) (Nat.le_of_ble_eq_true rfl) rfl ?_
          refine im_iinc (q := 244) (i := 2) (L' := [some (.ref 0), some (vI x28), some (vI (p2 + 1)), some (vI x12), some (vL x14), none, some (vL x16), none, some (vL x18), none, some (vI x23)]) D20_241 rfl (Nat.le_of_ble_eq_true rfl) rfl ?_
          refine im_goto (q := 247) (t := 19) D20_244 rfl ?_
          exact hP.wk ⟨rfl, rfl, rfl, trivial⟩
        · replace hP := hP.2 (Int.not_le.mp hc25)
          refine im_goto (q := 225) (t := 247) D20_222 rfl ?_
          refine im_ld (q := 248) (i := 0) D20_247 rfl rfl rfl ?_
          refine im_iconst (q := 249) D20_248 ?_
          refine im_pfZ (q := 252) D20_249 (im_fl cn_20 fl_11_417) sf_0 rfl rfl tz_11_19 (by decide) ?_
          refine im_ld (q := 253) (i := 0) D20_252 rfl rfl rfl ?_
          refine im_gfR (q := 256) (b := 2) D20_253 (im_fl cn_20 fl_11_16) sf_0 rfl rfl tR_11_2 rfl ?_
          refine im_callV (q := 259) (kd := 1) (y := 149) (n := 0) (ci := 6) (a := 2) (vs := [.ref 2]) (r := []) (L2 := [some (.ref 2)]) D20_256 (im_cal cn_20 cl_11_436) (Or.inl rfl) rfl sf_2 rfl rfl rfl rfl hd ⟨rfl, trivial⟩ ?_
          refine hP.mono ?_
          rintro _ e33 M31 ⟨rfl, rfl, hP⟩
          refine im_bkN ?_
          refine im_ld (q := 260) (i := 0) D20_259 rfl rfl rfl ?_
          refine im_gfR (q := 263) (b := 2068) D20_260 (im_fl cn_20 fl_11_113) sf_0 rfl rfl tR_11_17 rfl ?_
          refine im_rng (j := 2) sf_2068 (by decide) (by decide) (fun hr32 => ?_)
          refine im_gfI (q := 266) D20_263 (im_fl cn_20 fl_11_439) sf_2068 rfl rfl tI_1_2 rfl ?_
          exact im_iret (q := 267) D20_266 rfl hP
      by_cases hc49 : x20 = 2
      · refine im_tsw (q := 80) (t := 132) D20_79 hg21 (fun _ => by rcases hc49 with hc49 <;> (rw [hc49]; rfl)) (by rcases hc49 with hc49 <;> (rw [hc49]; rfl)) ?_
        replace hP := hP.2.1 hc49
        refine im_ld (q := 133) (i := 0) D20_132 rfl rfl rfl ?_
        refine im_ld (q := 135) (i := 4) D20_133 rfl rfl rfl ?_
        refine im_callV (q := 138) (kd := 1) (y := 84) (n := 1) (ci := 11) (a := 0) (vs := [.ref 0, vL x14]) (r := []) (L2 := [some (.ref 0), some (vL x14), none, none]) D20_135 (im_cal cn_20 cl_11_179) (Or.inl rfl) rfl sf_0 rfl rfl rfl rfl hd ⟨rfl, rfl, trivial⟩ ?_
        refine hP.mono ?_
        rintro _ e48 M36 ⟨x37, rfl, rfl, hP⟩
        refine im_bkS ?_
        refine im_st1 (q := 140) (i := 10) (L' := [some (.ref 0), some (vI p1), some (vI p2), some (vI x12), some (vL x14), none, some (vL x16), none, some (vL x18), none, some (vI x37)]) D20_138 (Or.inr rfl) (Nat.le_of_ble_eq_true rfl) rfl ?_
        refine im_goto (q := 143) (t := 217) D20_140 rfl ?_
        refine im_ld (q := 219) (i := 10) D20_217 rfl rfl rfl ?_
        obtain ⟨hg38, hP⟩ := hP
        refine im_ifc (q := 222) (t := 225) D20_219 rfl hg38 (fun hc39 => ?_) (fun hc39 => ?_)
        · replace hP := hP.1 hc39
          refine im_ld (q := 226) (i := 0) D20_225 rfl rfl rfl ?_
          refine im_gfR (q := 229) (b := 2068) D20_226 (im_fl cn_20 fl_11_113) sf_0 rfl rfl tR_11_17 rfl ?_
          refine im_ld (q := 230) (i := 1) D20_229 rfl rfl rfl ?_
          refine im_callV (q := 233) (kd := 1) (y := 82) (n := 1) (ci := 1) (a := 2068) (vs := [.ref 2068, vI p1]) (r := []) (L2 := [some (.ref 2068), some (vI p1)]) D20_230 (im_cal cn_20 cl_11_433) (Or.inl rfl) rfl sf_2068 rfl rfl rfl rfl hd ⟨rfl, rfl, trivial⟩ ?_
          refine hP.mono ?_
          rintro _ e44 M40 ⟨rfl, rfl, hP⟩
          refine im_bkN ?_
          refine im_ld (q := 234) (i := 0) D20_233 rfl rfl rfl ?_
          refine im_gfR (q := 237) (b := 2068) D20_234 (im_fl cn_20 fl_11_113) sf_0 rfl rfl tR_11_17 rfl ?_
          refine im_callV (q := 240) (kd := 1) (y := 25) (n := 0) (ci := 1) (a := 2068) (vs := [.ref 2068]) (r := []) (L2 := [some (.ref 2068), none, none, none, none, none, none]) D20_237 (im_cal cn_20 cl_11_420) (Or.inl rfl) rfl sf_2068 rfl rfl rfl rfl hd ⟨rfl, trivial⟩ ?_
          refine hP.mono ?_
          rintro _ e43 M41 ⟨x42, rfl, rfl, hP⟩
          refine im_bkS ?_
          refine im_st1 (q := 241) (i := 1) (L' := [some (.ref 0), some (vI x42), some (vI p2), some (vI x12), some (vL x14), none, some (vL x16), none, some (vL x18), none, some (vI x37)]) D20_240 (Or.inl ⟨_, rfl, rfl⟩) (Nat.le_of_ble_eq_true rfl) rfl ?_
          refine im_iinc (q := 244) (i := 2) (L' := [some (.ref 0), some (vI x42), some (vI (p2 + 1)), some (vI x12), some (vL x14), none, some (vL x16), none, some (vL x18), none, some (vI x37)]) D20_241 rfl (Nat.le_of_ble_eq_true rfl) rfl ?_
          refine im_goto (q := 247) (t := 19) D20_244 rfl ?_
          exact hP.wk ⟨rfl, rfl, rfl, trivial⟩
        · replace hP := hP.2 (Int.not_le.mp hc39)
          refine im_goto (q := 225) (t := 247) D20_222 rfl ?_
          refine im_ld (q := 248) (i := 0) D20_247 rfl rfl rfl ?_
          refine im_iconst (q := 249) D20_248 ?_
          refine im_pfZ (q := 252) D20_249 (im_fl cn_20 fl_11_417) sf_0 rfl rfl tz_11_19 (by decide) ?_
          refine im_ld (q := 253) (i := 0) D20_252 rfl rfl rfl ?_
          refine im_gfR (q := 256) (b := 2) D20_253 (im_fl cn_20 fl_11_16) sf_0 rfl rfl tR_11_2 rfl ?_
          refine im_callV (q := 259) (kd := 1) (y := 149) (n := 0) (ci := 6) (a := 2) (vs := [.ref 2]) (r := []) (L2 := [some (.ref 2)]) D20_256 (im_cal cn_20 cl_11_436) (Or.inl rfl) rfl sf_2 rfl rfl rfl rfl hd ⟨rfl, trivial⟩ ?_
          refine hP.mono ?_
          rintro _ e47 M45 ⟨rfl, rfl, hP⟩
          refine im_bkN ?_
          refine im_ld (q := 260) (i := 0) D20_259 rfl rfl rfl ?_
          refine im_gfR (q := 263) (b := 2068) D20_260 (im_fl cn_20 fl_11_113) sf_0 rfl rfl tR_11_17 rfl ?_
          refine im_rng (j := 2) sf_2068 (by decide) (by decide) (fun hr46 => ?_)
          refine im_gfI (q := 266) D20_263 (im_fl cn_20 fl_11_439) sf_2068 rfl rfl tI_1_2 rfl ?_
          exact im_iret (q := 267) D20_266 rfl hP
      by_cases hc63 : x20 = 3
      · refine im_tsw (q := 80) (t := 143) D20_79 hg21 (fun _ => by rcases hc63 with hc63 <;> (rw [hc63]; rfl)) (by rcases hc63 with hc63 <;> (rw [hc63]; rfl)) ?_
        replace hP := hP.2.2.1 hc63
        refine im_ld (q := 144) (i := 0) D20_143 rfl rfl rfl ?_
        refine im_ld (q := 146) (i := 4) D20_144 rfl rfl rfl ?_
        refine im_ld (q := 148) (i := 6) D20_146 rfl rfl rfl ?_
        refine im_ld (q := 150) (i := 8) D20_148 rfl rfl rfl ?_
        refine im_callV (q := 153) (kd := 1) (y := 85) (n := 3) (ci := 11) (a := 0) (vs := [.ref 0, vL x14, vL x16, vL x18]) (r := []) (L2 := [some (.ref 0), some (vL x14), none, some (vL x16), none, some (vL x18), none, none, none, none]) D20_150 (im_cal cn_20 cl_11_241) (Or.inl rfl) rfl sf_0 rfl rfl rfl rfl hd ⟨rfl, rfl, rfl, rfl, trivial⟩ ?_
        refine hP.mono ?_
        rintro _ e62 M50 ⟨x51, rfl, rfl, hP⟩
        refine im_bkS ?_
        refine im_st1 (q := 155) (i := 10) (L' := [some (.ref 0), some (vI p1), some (vI p2), some (vI x12), some (vL x14), none, some (vL x16), none, some (vL x18), none, some (vI x51)]) D20_153 (Or.inr rfl) (Nat.le_of_ble_eq_true rfl) rfl ?_
        refine im_goto (q := 158) (t := 217) D20_155 rfl ?_
        refine im_ld (q := 219) (i := 10) D20_217 rfl rfl rfl ?_
        obtain ⟨hg52, hP⟩ := hP
        refine im_ifc (q := 222) (t := 225) D20_219 rfl hg52 (fun hc53 => ?_) (fun hc53 => ?_)
        · replace hP := hP.1 hc53
          refine im_ld (q := 226) (i := 0) D20_225 rfl rfl rfl ?_
          refine im_gfR (q := 229) (b := 2068) D20_226 (im_fl cn_20 fl_11_113) sf_0 rfl rfl tR_11_17 rfl ?_
          refine im_ld (q := 230) (i := 1) D20_229 rfl rfl rfl ?_
          refine im_callV (q := 233) (kd := 1) (y := 82) (n := 1) (ci := 1) (a := 2068) (vs := [.ref 2068, vI p1]) (r := []) (L2 := [some (.ref 2068), some (vI p1)]) D20_230 (im_cal cn_20 cl_11_433) (Or.inl rfl) rfl sf_2068 rfl rfl rfl rfl hd ⟨rfl, rfl, trivial⟩ ?_
          refine hP.mono ?_
          rintro _ e58 M54 ⟨rfl, rfl, hP⟩
          refine im_bkN ?_
          refine im_ld (q := 234) (i := 0) D20_233 rfl rfl rfl ?_
          refine im_gfR (q := 237) (b := 2068) D20_234 (im_fl cn_20 fl_11_113) sf_0 rfl rfl tR_11_17 rfl ?_
          refine im_callV (q := 240) (kd := 1) (y := 25) (n := 0) (ci := 1) (a := 2068) (vs := [.ref 2068]) (r := []) (L2 := [some (.ref 2068), none, none, none, none, none, none]) D20_237 (im_cal cn_20 cl_11_420) (Or.inl rfl) rfl sf_2068 rfl rfl rfl rfl hd ⟨rfl, trivial⟩ ?_
          refine hP.mono ?_
          rintro _ e57 M55 ⟨x56, rfl, rfl, hP⟩
          refine im_bkS ?_
          refine im_st1 (q := 241) (i := 1) (L' := [some (.ref 0), some (vI x56), some (vI p2), some (vI x12), some (vL x14), none, some (vL x16), none, some (vL x18), none, some (vI x51)]) D20_240 (Or.inl ⟨_, rfl, rfl⟩) (Nat.le_of_ble_eq_true rfl) rfl ?_
          refine im_iinc (q := 244) (i := 2) (L' := [some (.ref 0), some (vI x56), some (vI (p2 + 1)), some (vI x12), some (vL x14), none, some (vL x16), none, some (vL x18), none, some (vI x51)]) D20_241 rfl (Nat.le_of_ble_eq_true rfl) rfl ?_
          refine im_goto (q := 247) (t := 19) D20_244 rfl ?_
          exact hP.wk ⟨rfl, rfl, rfl, trivial⟩
        · replace hP := hP.2 (Int.not_le.mp hc53)
          refine im_goto (q := 225) (t := 247) D20_222 rfl ?_
          refine im_ld (q := 248) (i := 0) D20_247 rfl rfl rfl ?_
          refine im_iconst (q := 249) D20_248 ?_
          refine im_pfZ (q := 252) D20_249 (im_fl cn_20 fl_11_417) sf_0 rfl rfl tz_11_19 (by decide) ?_
          refine im_ld (q := 253) (i := 0) D20_252 rfl rfl rfl ?_
          refine im_gfR (q := 256) (b := 2) D20_253 (im_fl cn_20 fl_11_16) sf_0 rfl rfl tR_11_2 rfl ?_
          refine im_callV (q := 259) (kd := 1) (y := 149) (n := 0) (ci := 6) (a := 2) (vs := [.ref 2]) (r := []) (L2 := [some (.ref 2)]) D20_256 (im_cal cn_20 cl_11_436) (Or.inl rfl) rfl sf_2 rfl rfl rfl rfl hd ⟨rfl, trivial⟩ ?_
          refine hP.mono ?_
          rintro _ e61 M59 ⟨rfl, rfl, hP⟩
          refine im_bkN ?_
          refine im_ld (q := 260) (i := 0) D20_259 rfl rfl rfl ?_
          refine im_gfR (q := 263) (b := 2068) D20_260 (im_fl cn_20 fl_11_113) sf_0 rfl rfl tR_11_17 rfl ?_
          refine im_rng (j := 2) sf_2068 (by decide) (by decide) (fun hr60 => ?_)
          refine im_gfI (q := 266) D20_263 (im_fl cn_20 fl_11_439) sf_2068 rfl rfl tI_1_2 rfl ?_
          exact im_iret (q := 267) D20_266 rfl hP
      by_cases hc77 : x20 = 4
      · refine im_tsw (q := 80) (t := 158) D20_79 hg21 (fun _ => by rcases hc77 with hc77 <;> (rw [hc77]; rfl)) (by rcases hc77 with hc77 <;> (rw [hc77]; rfl)) ?_
        replace hP := hP.2.2.2.1 hc77
        refine im_ld (q := 159) (i := 0) D20_158 rfl rfl rfl ?_
        refine im_ld (q := 161) (i := 4) D20_159 rfl rfl rfl ?_
        refine im_callV (q := 164) (kd := 1) (y := 92) (n := 1) (ci := 11) (a := 0) (vs := [.ref 0, vL x14]) (r := []) (L2 := [some (.ref 0), some (vL x14), none, none, none]) D20_161 (im_cal cn_20 cl_11_245) (Or.inl rfl) rfl sf_0 rfl rfl rfl rfl hd ⟨rfl, rfl, trivial⟩ ?_
        refine hP.mono ?_
        rintro _ e76 M64 ⟨x65, rfl, rfl, hP⟩
        refine im_bkS ?_
        refine im_st1 (q := 166) (i := 10) (L' := [some (.ref 0), some (vI p1), some (vI p2), some (vI x12), some (vL x14), none, some (vL x16), none, some (vL x18), none, some (vI x65)]) D20_164 (Or.inr rfl) (Nat.le_of_ble_eq_true rfl) rfl ?_
        refine im_goto (q := 169) (t := 217) D20_166 rfl ?_
        refine im_ld (q := 219) (i := 10) D20_217 rfl rfl rfl ?_
        obtain ⟨hg66, hP⟩ := hP
        refine im_ifc (q := 222) (t := 225) D20_219 rfl hg66 (fun hc67 => ?_) (fun hc67 => ?_)
        · replace hP := hP.1 hc67
          refine im_ld (q := 226) (i := 0) D20_225 rfl rfl rfl ?_
          refine im_gfR (q := 229) (b := 2068) D20_226 (im_fl cn_20 fl_11_113) sf_0 rfl rfl tR_11_17 rfl ?_
          refine im_ld (q := 230) (i := 1) D20_229 rfl rfl rfl ?_
          refine im_callV (q := 233) (kd := 1) (y := 82) (n := 1) (ci := 1) (a := 2068) (vs := [.ref 2068, vI p1]) (r := []) (L2 := [some (.ref 2068), some (vI p1)]) D20_230 (im_cal cn_20 cl_11_433) (Or.inl rfl) rfl sf_2068 rfl rfl rfl rfl hd ⟨rfl, rfl, trivial⟩ ?_
          refine hP.mono ?_
          rintro _ e72 M68 ⟨rfl, rfl, hP⟩
          refine im_bkN ?_
          refine im_ld (q := 234) (i := 0) D20_233 rfl rfl rfl ?_
          refine im_gfR (q := 237) (b := 2068) D20_234 (im_fl cn_20 fl_11_113) sf_0 rfl rfl tR_11_17 rfl ?_
          refine im_callV (q := 240) (kd := 1) (y := 25) (n := 0) (ci := 1) (a := 2068) (vs := [.ref 2068]) (r := []) (L2 := [some (.ref 2068), none, none, none, none, none, none]) D20_237 (im_cal cn_20 cl_11_420) (Or.inl rfl) rfl sf_2068 rfl rfl rfl rfl hd ⟨rfl, trivial⟩ ?_
          refine hP.mono ?_
          rintro _ e71 M69 ⟨x70, rfl, rfl, hP⟩
          refine im_bkS ?_
          refine im_st1 (q := 241) (i := 1) (L' := [some (.ref 0), some (vI x70), some (vI p2), some (vI x12), some (vL x14), none, some (vL x16), none, some (vL x18), none, some (vI x65)]) D20_240 (Or.inl ⟨_, rfl, rfl⟩) (Nat.le_of_ble_eq_true rfl) rfl ?_
          refine im_iinc (q := 244) (i := 2) (L' := [some (.ref 0), some (vI x70), some (vI (p2 + 1)), some (vI x12), some (vL x14), none, some (vL x16), none, some (vL x18), none, some (vI x65)]) D20_241 rfl (Nat.le_of_ble_eq_true rfl) rfl ?_
          refine im_goto (q := 247) (t := 19) D20_244 rfl ?_
          exact hP.wk ⟨rfl, rfl, rfl, trivial⟩
        · replace hP := hP.2 (Int.not_le.mp hc67)
          refine im_goto (q := 225) (t := 247) D20_222 rfl ?_
          refine im_ld (q := 248) (i := 0) D20_247 rfl rfl rfl ?_
          refine im_iconst (q := 249) D20_248 ?_
          refine im_pfZ (q := 252) D20_249 (im_fl cn_20 fl_11_417) sf_0 rfl rfl tz_11_19 (by decide) ?_
          refine im_ld (q := 253) (i := 0) D20_252 rfl rfl rfl ?_
          refine im_gfR (q := 256) (b := 2) D20_253 (im_fl cn_20 fl_11_16) sf_0 rfl rfl tR_11_2 rfl ?_
          refine im_callV (q := 259) (kd := 1) (y := 149) (n := 0) (ci := 6) (a := 2) (vs := [.ref 2]) (r := []) (L2 := [some (.ref 2)]) D20_256 (im_cal cn_20 cl_11_436) (Or.inl rfl) rfl sf_2 rfl rfl rfl rfl hd ⟨rfl, trivial⟩ ?_
          refine hP.mono ?_
          rintro _ e75 M73 ⟨rfl, rfl, hP⟩
          refine im_bkN ?_
          refine im_ld (q := 260) (i := 0) D20_259 rfl rfl rfl ?_
          refine im_gfR (q := 263) (b := 2068) D20_260 (im_fl cn_20 fl_11_113) sf_0 rfl rfl tR_11_17 rfl ?_
          refine im_rng (j := 2) sf_2068 (by decide) (by decide) (fun hr74 => ?_)
          refine im_gfI (q := 266) D20_263 (im_fl cn_20 fl_11_439) sf_2068 rfl rfl tI_1_2 rfl ?_
          exact im_iret (q := 267) D20_266 rfl hP
      by_cases hc91 : x20 = 5
      · refine im_tsw (q := 80) (t := 169) D20_79 hg21 (fun _ => by rcases hc91 with hc91 <;> (rw [hc91]; rfl)) (by rcases hc91 with hc91 <;> (rw [hc91]; rfl)) ?_
        replace hP := hP.2.2.2.2.1 hc91
        refine im_ld (q := 170) (i := 0) D20_169 rfl rfl rfl ?_
        refine im_ld (q := 172) (i := 4) D20_170 rfl rfl rfl ?_
        refine im_ld (q := 174) (i := 6) D20_172 rfl rfl rfl ?_
        refine im_ld (q := 175) (i := 3) D20_174 rfl rfl rfl ?_
        refine im_callV (q := 178) (kd := 1) (y := 94) (n := 3) (ci := 11) (a := 0) (vs := [.ref 0, vL x14, vL x16, vI x12]) (r := []) (L2 := [some (.ref 0), some (vL x14), none, some (vL x16), none, some (vI x12), none, none, none]) D20_175 (im_cal cn_20 cl_11_368) (Or.inl rfl) rfl sf_0 rfl rfl rfl rfl hd ⟨rfl, rfl, rfl, rfl, trivial⟩ ?_
        refine hP.mono ?_
        rintro _ e90 M78 ⟨x79, rfl, rfl, hP⟩
        refine im_bkS ?_
        refine im_st1 (q := 180) (i := 10) (L' := [some (.ref 0), some (vI p1), some (vI p2), some (vI x12), some (vL x14), none, some (vL x16), none, some (vL x18), none, some (vI x79)]) D20_178 (Or.inr rfl) (Nat.le_of_ble_eq_true rfl) rfl ?_
        refine im_goto (q := 183) (t := 217) D20_180 rfl ?_
        refine im_ld (q := 219) (i := 10) D20_217 rfl rfl rfl ?_
        obtain ⟨hg80, hP⟩ := hP
        refine im_ifc (q := 222) (t := 225) D20_219 rfl hg80 (fun hc81 => ?_) (fun hc81 => ?_)
        · replace hP := hP.1 hc81
          refine im_ld (q := 226) (i := 0) D20_225 rfl rfl rfl ?_
          refine im_gfR (q := 229) (b := 2068) D20_226 (im_fl cn_20 fl_11_113) sf_0 rfl rfl tR_11_17 rfl ?_
          refine im_ld (q := 230) (i := 1) D20_229 rfl rfl rfl ?_
          refine im_callV (q := 233) (kd := 1) (y := 82) (n := 1) (ci := 1) (a := 2068) (vs := [.ref 2068, vI p1]) (r := []) (L2 := [some (.ref 2068), some (vI p1)]) D20_230 (im_cal cn_20 cl_11_433) (Or.inl rfl) rfl sf_2068 rfl rfl rfl rfl hd ⟨rfl, rfl, trivial⟩ ?_
          refine hP.mono ?_
          rintro _ e86 M82 ⟨rfl, rfl, hP⟩
          refine im_bkN ?_
          refine im_ld (q := 234) (i := 0) D20_233 rfl rfl rfl ?_
          refine im_gfR (q := 237) (b := 2068) D20_234 (im_fl cn_20 fl_11_113) sf_0 rfl rfl tR_11_17 rfl ?_
          refine im_callV (q := 240) (kd := 1) (y := 25) (n := 0) (ci := 1) (a := 2068) (vs := [.ref 2068]) (r := []) (L2 := [some (.ref 2068), none, none, none, none, none, none]) D20_237 (im_cal cn_20 cl_11_420) (Or.inl rfl) rfl sf_2068 rfl rfl rfl rfl hd ⟨rfl, trivial⟩ ?_
          refine hP.mono ?_
          rintro _ e85 M83 ⟨x84, rfl, rfl, hP⟩
          refine im_bkS ?_
          refine im_st1 (q := 241) (i := 1) (L' := [some (.ref 0), some (vI x84), some (vI p2), some (vI x12), some (vL x14), none, some (vL x16), none, some (vL x18), none, some (vI x79)]) D20_240 (Or.inl ⟨_, rfl, rfl⟩) (Nat.le_of_ble_eq_true rfl) rfl ?_
          refine im_iinc (q := 244) (i := 2) (L' := [some (.ref 0), some (vI x84), some (vI (p2 + 1)), some (vI x12), some (vL x14), none, some (vL x16), none, some (vL x18), none, some (vI x79)]) D20_241 rfl (Nat.le_of_ble_eq_true rfl) rfl ?_
          refine im_goto (q := 247) (t := 19) D20_244 rfl ?_
          exact hP.wk ⟨rfl, rfl, rfl, trivial⟩
        · replace hP := hP.2 (Int.not_le.mp hc81)
          refine im_goto (q := 225) (t := 247) D20_222 rfl ?_
          refine im_ld (q := 248) (i := 0) D20_247 rfl rfl rfl ?_
          refine im_iconst (q := 249) D20_248 ?_
          refine im_pfZ (q := 252) D20_249 (im_fl cn_20 fl_11_417) sf_0 rfl rfl tz_11_19 (by decide) ?_
          refine im_ld (q := 253) (i := 0) D20_252 rfl rfl rfl ?_
          refine im_gfR (q := 256) (b := 2) D20_253 (im_fl cn_20 fl_11_16) sf_0 rfl rfl tR_11_2 rfl ?_
          refine im_callV (q := 259) (kd := 1) (y := 149) (n := 0) (ci := 6) (a := 2) (vs := [.ref 2]) (r := []) (L2 := [some (.ref 2)]) D20_256 (im_cal cn_20 cl_11_436) (Or.inl rfl) rfl sf_2 rfl rfl rfl rfl hd ⟨rfl, trivial⟩ ?_
          refine hP.mono ?_
          rintro _ e89 M87 ⟨rfl, rfl, hP⟩
          refine im_bkN ?_
          refine im_ld (q := 260) (i := 0) D20_259 rfl rfl rfl ?_
          refine im_gfR (q := 263) (b := 2068) D20_260 (im_fl cn_20 fl_11_113) sf_0 rfl rfl tR_11_17 rfl ?_
          refine im_rng (j := 2) sf_2068 (by decide) (by decide) (fun hr88 => ?_)
          refine im_gfI (q := 266) D20_263 (im_fl cn_20 fl_11_439) sf_2068 rfl rfl tI_1_2 rfl ?_
          exact im_iret (q := 267) D20_266 rfl hP
      by_cases hc105 : x20 = 6
      · refine im_tsw (q := 80) (t := 183) D20_79 hg21 (fun _ => by rcases hc105 with hc105 <;> (rw [hc105]; rfl)) (by rcases hc105 with hc105 <;> (rw [hc105]; rfl)) ?_
        replace hP := hP.2.2.2.2.2.1 hc105
        refine im_ld (q := 184) (i := 0) D20_183 rfl rfl rfl ?_
        refine im_ld (q := 186) (i := 4) D20_184 rfl rfl rfl ?_
        refine im_ld (q := 188) (i := 6) D20_186 rfl rfl rfl ?_
        refine im_ld (q := 190) (i := 8) D20_188 rfl rfl rfl ?_
        refine im_ld (q := 191) (i := 3) D20_190 rfl rfl rfl ?_
        refine im_callV (q := 194) (kd := 1) (y := 102) (n := 4) (ci := 11) (a := 0) (vs := [.ref 0, vL x14, vL x16, vL x18, vI x12]) (r := []) (L2 := [some (.ref 0), some (vL x14), none, some (vL x16), none, some (vL x18), none, some (vI x12), none, none]) D20_191 (im_cal cn_20 cl_11_248) (Or.inl rfl) rfl sf_0 rfl rfl rfl rfl hd ⟨rfl, rfl, rfl, rfl, rfl, trivial⟩ ?_
        refine hP.mono ?_
        rintro _ e104 M92 ⟨x93, rfl, rfl, hP⟩
        refine im_bkS ?_
        refine im_st1 (q := 196) (i := 10) (L' := [some (.ref 0), some (vI p1), some (vI p2), some (vI x12), some (vL x14), none, some (vL x16), none, some (vL x18), none, some (vI x93)]) D20_194 (Or.inr rfl) (Nat.le_of_ble_eq_true rfl) rfl ?_
        refine im_goto (q := 199) (t := 217) D20_196 rfl ?_
        refine im_ld (q := 219) (i := 10) D20_217 rfl rfl rfl ?_
        obtain ⟨hg94, hP⟩ := hP
        refine im_ifc (q := 222) (t := 225) D20_219 rfl hg94 (fun hc95 => ?_) (fun hc95 => ?_)
        · replace hP := hP.1 hc95
          refine im_ld (q := 226) (i := 0) D20_225 rfl rfl rfl ?_
          refine im_gfR (q := 229) (b := 2068) D20_226 (im_fl cn_20 fl_11_113) sf_0 rfl rfl tR_11_17 rfl ?_
          refine im_ld (q := 230) (i := 1) D20_229 rfl rfl rfl ?_
          refine im_callV (q := 233) (kd := 1) (y := 82) (n := 1) (ci := 1) (a := 2068) (vs := [.ref 2068, vI p1]) (r := []) (L2 := [some (.ref 2068), some (vI p1)]) D20_230 (im_cal cn_20 cl_11_433) (Or.inl rfl) rfl sf_2068 rfl rfl rfl rfl hd ⟨rfl, rfl, trivial⟩ ?_
          refine hP.mono ?_
          rintro _ e100 M96 ⟨rfl, rfl, hP⟩
          refine im_bkN ?_
          refine im_ld (q := 234) (i := 0) D20_233 rfl rfl rfl ?_
          refine im_gfR (q := 237) (b := 2068) D20_234 (im_fl cn_20 fl_11_113) sf_0 rfl rfl tR_11_17 rfl ?_
          refine im_callV (q := 240) (kd := 1) (y := 25) (n := 0) (ci := 1) (a := 2068) (vs := [.ref 2068]) (r := []) (L2 := [some (.ref 2068), none, none, none, none, none, none]) D20_237 (im_cal cn_20 cl_11_420) (Or.inl rfl) rfl sf_2068 rfl rfl rfl rfl hd ⟨rfl, trivial⟩ ?_
          refine hP.mono ?_
          rintro _ e99 M97 ⟨x98, rfl, rfl, hP⟩
          refine im_bkS ?_
          refine im_st1 (q := 241) (i := 1) (L' := [some (.ref 0), some (vI x98), some (vI p2), some (vI x12), some (vL x14), none, some (vL x16), none, some (vL x18), none, some (vI x93)]) D20_240 (Or.inl ⟨_, rfl, rfl⟩) (Nat.le_of_ble_eq_true rfl) rfl ?_
          refine im_iinc (q := 244) (i := 2) (L' := [some (.ref 0), some (vI x98), some (vI (p2 + 1)), some (vI x12), some (vL x14), none, some (vL x16), none, some (vL x18), none, some (vI x93)]) D20_241 rfl (Nat.le_of_ble_eq_true rfl) rfl ?_
          refine im_goto (q := 247) (t := 19) D20_244 rfl ?_
          exact hP.wk ⟨rfl, rfl, rfl, trivial⟩
        · replace hP := hP.2 (Int.not_le.mp hc95)
          refine im_goto (q := 225) (t := 247) D20_222 rfl ?_
          refine im_ld (q := 248) (i := 0) D20_247 rfl rfl rfl ?_
          refine im_iconst (q := 249) D20_248 ?_
          refine im_pfZ (q := 252) D20_249 (im_fl cn_20 fl_11_417) sf_0 rfl rfl tz_11_19 (by decide) ?_
          refine im_ld (q := 253) (i := 0) D20_252 rfl rfl rfl ?_
          refine im_gfR (q := 256) (b := 2) D20_253 (im_fl cn_20 fl_11_16) sf_0 rfl rfl tR_11_2 rfl ?_
          refine im_callV (q := 259) (kd := 1) (y := 149) (n := 0) (ci := 6) (a := 2) (vs := [.ref 2]) (r := []) (L2 := [some (.ref 2)]) D20_256 (im_cal cn_20 cl_11_436) (Or.inl rfl) rfl sf_2 rfl rfl rfl rfl hd ⟨rfl, trivial⟩ ?_
          refine hP.mono ?_
          rintro _ e103 M101 ⟨rfl, rfl, hP⟩
          refine im_bkN ?_
          refine im_ld (q := 260) (i := 0) D20_259 rfl rfl rfl ?_
          refine im_gfR (q := 263) (b := 2068) D20_260 (im_fl cn_20 fl_11_113) sf_0 rfl rfl tR_11_17 rfl ?_
          refine im_rng (j := 2) sf_2068 (by decide) (by decide) (fun hr102 => ?_)
          refine im_gfI (q := 266) D20_263 (im_fl cn_20 fl_11_439) sf_2068 rfl rfl tI_1_2 rfl ?_
          exact im_iret (q := 267) D20_266 rfl hP
      by_cases hc119 : x20 = 7
      · refine im_tsw (q := 80) (t := 199) D20_79 hg21 (fun _ => by rcases hc119 with hc119 <;> (rw [hc119]; rfl)) (by rcases hc119 with hc119 <;> (rw [hc119]; rfl)) ?_
        replace hP := hP.2.2.2.2.2.2.1 hc119
        refine im_ld (q := 200) (i := 0) D20_199 rfl rfl rfl ?_
        refine im_ld (q := 202) (i := 4) D20_200 rfl rfl rfl ?_
        refine im_ld (q := 203) (i := 3) D20_202 rfl rfl rfl ?_
        refine im_callV (q := 206) (kd := 1) (y := 147) (n := 2) (ci := 11) (a := 0) (vs := [.ref 0, vL x14, vI x12]) (r := []) (L2 := [some (.ref 0), some (vL x14), none, some (vI x12), none]) D20_203 (im_cal cn_20 cl_11_235) (Or.inl rfl) rfl sf_0 rfl rfl rfl rfl hd ⟨rfl, rfl, rfl, trivial⟩ ?_
        refine hP.mono ?_
        rintro _ e118 M106 ⟨x107, rfl, rfl, hP⟩
        refine im_bkS ?_
        refine im_st1 (q := 208) (i := 10) (L' := [some (.ref 0), some (vI p1), some (vI p2), some (vI x12), some (vL x14), none, some (vL x16), none, some (vL x18), none, some (vI x107)]) D20_206 (Or.inr rfl) (Nat.le_of_ble_eq_true rfl) rfl ?_
        refine im_goto (q := 211) (t := 217) D20_208 rfl ?_
        refine im_ld (q := 219) (i := 10) D20_217 rfl rfl rfl ?_
        obtain ⟨hg108, hP⟩ := hP
        refine im_ifc (q := 222) (t := 225) D20_219 rfl hg108 (fun hc109 => ?_) (fun hc109 => ?_)
        · replace hP := hP.1 hc109
          refine im_ld (q := 226) (i := 0) D20_225 rfl rfl rfl ?_
          refine im_gfR (q := 229) (b := 2068) D20_226 (im_fl cn_20 fl_11_113) sf_0 rfl rfl tR_11_17 rfl ?_
          refine im_ld (q := 230) (i := 1) D20_229 rfl rfl rfl ?_
          refine im_callV (q := 233) (kd := 1) (y := 82) (n := 1) (ci := 1) (a := 2068) (vs := [.ref 2068, vI p1]) (r := []) (L2 := [some (.ref 2068), some (vI p1)]) D20_230 (im_cal cn_20 cl_11_433) (Or.inl rfl) rfl sf_2068 rfl rfl rfl rfl hd ⟨rfl, rfl, trivial⟩ ?_
          refine hP.mono ?_
          rintro _ e114 M110 ⟨rfl, rfl, hP⟩
          refine im_bkN ?_
          refine im_ld (q := 234) (i := 0) D20_233 rfl rfl rfl ?_
          refine im_gfR (q := 237) (b := 2068) D20_234 (im_fl cn_20 fl_11_113) sf_0 rfl rfl tR_11_17 rfl ?_
          refine im_callV (q := 240) (kd := 1) (y := 25) (n := 0) (ci := 1) (a := 2068) (vs := [.ref 2068]) (r := []) (L2 := [some (.ref 2068), none, none, none, none, none, none]) D20_237 (im_cal cn_20 cl_11_420) (Or.inl rfl) rfl sf_2068 rfl rfl rfl rfl hd ⟨rfl, trivial⟩ ?_
          refine hP.mono ?_
          rintro _ e113 M111 ⟨x112, rfl, rfl, hP⟩
          refine im_bkS ?_
          refine im_st1 (q := 241) (i := 1) (L' := [some (.ref 0), some (vI x112), some (vI p2), some (vI x12), some (vL x14), none, some (vL x16), none, some (vL x18), none, some (vI x107)]) D20_240 (Or.inl ⟨_, rfl, rfl⟩) (Nat.le_of_ble_eq_true rfl) rfl ?_
          refine im_iinc (q := 244) (i := 2) (L' := [some (.ref 0), some (vI x112), some (vI (p2 + 1)), some (vI x12), some (vL x14), none, some (vL x16), none, some (vL x18), none, some (vI x107)]) D20_241 rfl (Nat.le_of_ble_eq_true rfl) rfl ?_
          refine im_goto (q := 247) (t := 19) D20_244 rfl ?_
          exact hP.wk ⟨rfl, rfl, rfl, trivial⟩
        · replace hP := hP.2 (Int.not_le.mp hc109)
          refine im_goto (q := 225) (t := 247) D20_222 rfl ?_
          refine im_ld (q := 248) (i := 0) D20_247 rfl rfl rfl ?_
          refine im_iconst (q := 249) D20_248 ?_
          refine im_pfZ (q := 252) D20_249 (im_fl cn_20 fl_11_417) sf_0 rfl rfl tz_11_19 (by decide) ?_
          refine im_ld (q := 253) (i := 0) D20_252 rfl rfl rfl ?_
          refine im_gfR (q := 256) (b := 2) D20_253 (im_fl cn_20 fl_11_16) sf_0 rfl rfl tR_11_2 rfl ?_
          refine im_callV (q := 259) (kd := 1) (y := 149) (n := 0) (ci := 6) (a := 2) (vs := [.ref 2]) (r := []) (L2 := [some (.ref 2)]) D20_256 (im_cal cn_20 cl_11_436) (Or.inl rfl) rfl sf_2 rfl rfl rfl rfl hd ⟨rfl, trivial⟩ ?_
          refine hP.mono ?_
          rintro _ e117 M115 ⟨rfl, rfl, hP⟩
          refine im_bkN ?_
          refine im_ld (q := 260) (i := 0) D20_259 rfl rfl rfl ?_
          refine im_gfR (q := 263) (b := 2068) D20_260 (im_fl cn_20 fl_11_113) sf_0 rfl rfl tR_11_17 rfl ?_
          refine im_rng (j := 2) sf_2068 (by decide) (by decide) (fun hr116 => ?_)
          refine im_gfI (q := 266) D20_263 (im_fl cn_20 fl_11_439) sf_2068 rfl rfl tI_1_2 rfl ?_
          exact im_iret (q := 267) D20_266 rfl hP
      have hd133 : x20 < 1 ∨ 7 < x20 := by clear hP; omega
      refine im_tsw (q := 80) (t := 211) D20_79 hg21 (fun z9 => absurd hd133 z9) (by rw [if_pos hd133]; rfl) ?_
      replace hP := hP.2.2.2.2.2.2.2 hd133
      refine im_ld (q := 212) (i := 0) D20_211 rfl rfl rfl ?_
      refine im_callV (q := 215) (kd := 1) (y := 148) (n := 0) (ci := 11) (a := 0) (vs := [.ref 0]) (r := []) (L2 := [some (.ref 0), none, none]) D20_212 (im_cal cn_20 cl_11_238) (Or.inl rfl) rfl sf_0 rfl rfl rfl rfl hd ⟨rfl, trivial⟩ ?_
      refine hP.mono ?_
      rintro _ e132 M120 ⟨x121, rfl, rfl, hP⟩
      refine im_bkS ?_
      refine im_st1 (q := 217) (i := 10) (L' := [some (.ref 0), some (vI p1), some (vI p2), some (vI x12), some (vL x14), none, some (vL x16), none, some (vL x18), none, some (vI x121)]) D20_215 (Or.inr rfl) (Nat.le_of_ble_eq_true rfl) rfl ?_
      refine im_ld (q := 219) (i := 10) D20_217 rfl rfl rfl ?_
      obtain ⟨hg122, hP⟩ := hP
      refine im_ifc (q := 222) (t := 225) D20_219 rfl hg122 (fun hc123 => ?_) (fun hc123 => ?_)
      · replace hP := hP.1 hc123
        refine im_ld (q := 226) (i := 0) D20_225 rfl rfl rfl ?_
        refine im_gfR (q := 229) (b := 2068) D20_226 (im_fl cn_20 fl_11_113) sf_0 rfl rfl tR_11_17 rfl ?_
        refine im_ld (q := 230) (i := 1) D20_229 rfl rfl rfl ?_
        refine im_callV (q := 233) (kd := 1) (y := 82) (n := 1) (ci := 1) (a := 2068) (vs := [.ref 2068, vI p1]) (r := []) (L2 := [some (.ref 2068), some (vI p1)]) D20_230 (im_cal cn_20 cl_11_433) (Or.inl rfl) rfl sf_2068 rfl rfl rfl rfl hd ⟨rfl, rfl, trivial⟩ ?_
        refine hP.mono ?_
        rintro _ e128 M124 ⟨rfl, rfl, hP⟩
        refine im_bkN ?_
        refine im_ld (q := 234) (i := 0) D20_233 rfl rfl rfl ?_
        refine im_gfR (q := 237) (b := 2068) D20_234 (im_fl cn_20 fl_11_113) sf_0 rfl rfl tR_11_17 rfl ?_
        refine im_callV (q := 240) (kd := 1) (y := 25) (n := 0) (ci := 1) (a := 2068) (vs := [.ref 2068]) (r := []) (L2 := [some (.ref 2068), none, none, none, none, none, none]) D20_237 (im_cal cn_20 cl_11_420) (Or.inl rfl) rfl sf_2068 rfl rfl rfl rfl hd ⟨rfl, trivial⟩ ?_
        refine hP.mono ?_
        rintro _ e127 M125 ⟨x126, rfl, rfl, hP⟩
        refine im_bkS ?_
        refine im_st1 (q := 241) (i := 1) (L' := [some (.ref 0), some (vI x126), some (vI p2), some (vI x12), some (vL x14), none, some (vL x16), none, some (vL x18), none, some (vI x121)]) D20_240 (Or.inl ⟨_, rfl, rfl⟩) (Nat.le_of_ble_eq_true rfl) rfl ?_
        refine im_iinc (q := 244) (i := 2) (L' := [some (.ref 0), some (vI x126), some (vI (p2 + 1)), some (vI x12), some (vL x14), none, some (vL x16), none, some (vL x18), none, some (vI x121)]) D20_241 rfl (Nat.le_of_ble_eq_true rfl) rfl ?_
        refine im_goto (q := 247) (t := 19) D20_244 rfl ?_
        exact hP.wk ⟨rfl, rfl, rfl, trivial⟩
      · replace hP := hP.2 (Int.not_le.mp hc123)
        refine im_goto (q := 225) (t := 247) D20_222 rfl ?_
        refine im_ld (q := 248) (i := 0) D20_247 rfl rfl rfl ?_
        refine im_iconst (q := 249) D20_248 ?_
        refine im_pfZ (q := 252) D20_249 (im_fl cn_20 fl_11_417) sf_0 rfl rfl tz_11_19 (by decide) ?_
        refine im_ld (q := 253) (i := 0) D20_252 rfl rfl rfl ?_
        refine im_gfR (q := 256) (b := 2) D20_253 (im_fl cn_20 fl_11_16) sf_0 rfl rfl tR_11_2 rfl ?_
        refine im_callV (q := 259) (kd := 1) (y := 149) (n := 0) (ci := 6) (a := 2) (vs := [.ref 2]) (r := []) (L2 := [some (.ref 2)]) D20_256 (im_cal cn_20 cl_11_436) (Or.inl rfl) rfl sf_2 rfl rfl rfl rfl hd ⟨rfl, trivial⟩ ?_
        refine hP.mono ?_
        rintro _ e131 M129 ⟨rfl, rfl, hP⟩
        refine im_bkN ?_
        refine im_ld (q := 260) (i := 0) D20_259 rfl rfl rfl ?_
        refine im_gfR (q := 263) (b := 2068) D20_260 (im_fl cn_20 fl_11_113) sf_0 rfl rfl tR_11_17 rfl ?_
        refine im_rng (j := 2) sf_2068 (by decide) (by decide) (fun hr130 => ?_)
        refine im_gfI (q := 266) D20_263 (im_fl cn_20 fl_11_439) sf_2068 rfl rfl tI_1_2 rfl ?_
        exact im_iret (q := 267) D20_266 rfl hP
set_option maxRecDepth 20000 in
set_option maxHeartbeats 4000000 in
theorem k_P_takeAllAway_0 {g : im_g} {d : Nat} {e : im_E} {M : im_M} {K : im_K} (hd : 1 ≤ d) (hP : im_T g (d - 1) 22 0 [some (.ref 7)] [] e (im_u M 0 1 0) (im_r0 (fun  e_ M1 => e = e_ ∧ im_T g (d - 1) 23 0 [some (.ref 13)] [] e M1 (im_r0 (fun  e_ M2 => e = e_ ∧ im_T g d 21 21 [some (.ref 0), some (vI 0)] [] e M2 K))))) : im_T g d 21 0 [some (.ref 0), none] [] e M K := by
  refine im_ld (q := 1) (i := 0) D21_0 rfl rfl rfl ?_
  refine im_iconst (q := 2) D21_1 ?_
  refine im_pfI (q := 5) D21_2 (im_fl cn_21 fl_11_127) sf_0 rfl rfl ti_11_1 (by decide) ?_
  refine im_ld (q := 6) (i := 0) D21_5 rfl rfl rfl ?_
  refine im_gfR (q := 9) (b := 7) D21_6 (im_fl cn_21 fl_11_29) sf_0 rfl rfl tR_11_3 rfl ?_
  refine im_callV (q := 12) (kd := 1) (y := 22) (n := 0) (ci := 10) (a := 7) (vs := [.ref 7]) (r := []) (L2 := [some (.ref 7)]) D21_9 (im_cal cn_21 cl_11_155) (Or.inl rfl) rfl sf_7 rfl rfl rfl rfl hd ⟨rfl, trivial⟩ ?_
  refine hP.mono ?_
  rintro _ e4 M1 ⟨rfl, rfl, hP⟩
  refine im_bkN ?_
  refine im_ld (q := 13) (i := 0) D21_12 rfl rfl rfl ?_
  refine im_gfR (q := 16) (b := 13) D21_13 (im_fl cn_21 fl_11_36) sf_0 rfl rfl tR_11_4 rfl ?_
  refine im_callV (q := 19) (kd := 1) (y := 23) (n := 0) (ci := 5) (a := 13) (vs := [.ref 13]) (r := []) (L2 := [some (.ref 13)]) D21_16 (im_cal cn_21 cl_11_449) (Or.inl rfl) rfl sf_13 rfl rfl rfl rfl hd ⟨rfl, trivial⟩ ?_
  refine hP.mono ?_
  rintro _ e3 M2 ⟨rfl, rfl, hP⟩
  refine im_bkN ?_
  refine im_iconst (q := 20) D21_19 ?_
  refine im_st1 (q := 21) (i := 1) (L' := [some (.ref 0), some (vI 0)]) D21_20 (Or.inl ⟨_, rfl, rfl⟩) (Nat.le_of_ble_eq_true rfl) rfl ?_
  exact hP.wk ⟨rfl, rfl, trivial⟩
set_option maxRecDepth 20000 in
set_option maxHeartbeats 4000000 in
theorem k_P_takeAllAway_21 {g : im_g} {d : Nat} {e : im_E} {M : im_M} {K : im_K} {p1 : Int} (hd : 1 ≤ d) (hP : (im_i32 p1) ∧ ((16 ≤ p1 → im_T g (d - 1) 24 0 [some (.ref 2068)] [] e (im_u (im_u (im_u (im_u (im_u (im_u M 30 4 0) 76 4 0) 202 4 0) 414 5 0) 540 5 0) 1793 9 0) (im_r0 (fun  e_ M3 => e = e_ ∧ K (.inl none) e M3))) ∧ (p1 < 16 → (0 ≤ p1 ∧ p1 < 16) ∧ ∃ b6 : Nat, ((M 29 p1) = (b6 : Int)) ∧ (im_state e b6) ∧ im_T g d 21 21 [some (.ref 0), some (vI (p1 + 1))] [] e (im_u (im_u M 28 p1 (-1)) b6 6 0) K))) : im_T g d 21 21 [some (.ref 0), some (vI p1)] [] e M K := by
  refine im_ld (q := 22) (i := 1) D21_21 rfl rfl rfl ?_
  refine im_bipush (q := 24) D21_22 rfl ?_
  obtain ⟨hg1, hP⟩ := hP
  refine im_icmp (q := 27) (t := 50) D21_24 rfl hg1 (by decide) (fun hc2 => ?_) (fun hc2 => ?_)
  · replace hP := hP.1 hc2
    refine im_ld (q := 51) (i := 0) D21_50 rfl rfl rfl ?_
    refine im_gfR (q := 54) (b := 30) D21_51 (im_fl cn_21 fl_11_64) sf_0 rfl rfl tR_11_8 rfl ?_
    refine im_iconst (q := 55) D21_54 ?_
    refine im_pfI (q := 58) D21_55 (im_fl cn_21 fl_11_271) sf_30 rfl rfl ti_0_4 (by decide) ?_
    refine im_ld (q := 59) (i := 0) D21_58 rfl rfl rfl ?_
    refine im_gfR (q := 62) (b := 76) D21_59 (im_fl cn_21 fl_11_68) sf_0 rfl rfl tR_11_9 rfl ?_
    refine im_iconst (q := 63) D21_62 ?_
    refine im_pfI (q := 66) D21_63 (im_fl cn_21 fl_11_271) sf_76 rfl rfl ti_0_4 (by decide) ?_
    refine im_ld (q := 67) (i := 0) D21_66 rfl rfl rfl ?_
    refine im_gfR (q := 70) (b := 202) D21_67 (im_fl cn_21 fl_11_71) sf_0 rfl rfl tR_11_10 rfl ?_
    refine im_iconst (q := 71) D21_70 ?_
    refine im_pfI (q := 74) D21_71 (im_fl cn_21 fl_11_271) sf_202 rfl rfl ti_0_4 (by decide) ?_
    refine im_ld (q := 75) (i := 0) D21_74 rfl rfl rfl ?_
    refine im_gfR (q := 78) (b := 414) D21_75 (im_fl cn_21 fl_11_81) sf_0 rfl rfl tR_11_12 rfl ?_
    refine im_iconst (q := 79) D21_78 ?_
    refine im_pfI (q := 82) D21_79 (im_fl cn_21 fl_11_347) sf_414 rfl rfl ti_7_5 (by decide) ?_
    refine im_ld (q := 83) (i := 0) D21_82 rfl rfl rfl ?_
    refine im_gfR (q := 86) (b := 540) D21_83 (im_fl cn_21 fl_11_84) sf_0 rfl rfl tR_11_13 rfl ?_
    refine im_iconst (q := 87) D21_86 ?_
    refine im_pfI (q := 90) D21_87 (im_fl cn_21 fl_11_347) sf_540 rfl rfl ti_7_5 (by decide) ?_
    refine im_ld (q := 91) (i := 0) D21_90 rfl rfl rfl ?_
    refine im_gfR (q := 94) (b := 1793) D21_91 (im_fl cn_21 fl_11_106) sf_0 rfl rfl tR_11_16 rfl ?_
    refine im_iconst (q := 95) D21_94 ?_
    refine im_pfI (q := 98) D21_95 (im_fl cn_21 fl_11_402) sf_1793 rfl rfl ti_8_9 (by decide) ?_
    refine im_ld (q := 99) (i := 0) D21_98 rfl rfl rfl ?_
    refine im_gfR (q := 102) (b := 2068) D21_99 (im_fl cn_21 fl_11_113) sf_0 rfl rfl tR_11_17 rfl ?_
    refine im_callV (q := 105) (kd := 1) (y := 24) (n := 0) (ci := 1) (a := 2068) (vs := [.ref 2068]) (r := []) (L2 := [some (.ref 2068)]) D21_102 (im_cal cn_21 cl_11_450) (Or.inl rfl) rfl sf_2068 rfl rfl rfl rfl hd ⟨rfl, trivial⟩ ?_
    refine hP.mono ?_
    rintro _ e4 M3 ⟨rfl, rfl, hP⟩
    refine im_bkN ?_
    exact im_vret (q := 106) D21_105 rfl hP
  · replace hP := hP.2 (Int.not_le.mp hc2)
    refine im_ld (q := 28) (i := 0) D21_27 rfl rfl rfl ?_
    refine im_gfR (q := 31) (b := 28) D21_28 (im_fl cn_21 fl_11_49) sf_0 rfl rfl tR_11_6 rfl ?_
    refine im_ld (q := 32) (i := 1) D21_31 rfl rfl rfl ?_
    refine im_iconst (q := 33) D21_32 ?_
    obtain ⟨hg5, hP⟩ := hP
    refine im_iast (q := 34) D21_33 sf_28 hg5.1 hg5.2 (by decide) (by decide) ?_
    refine im_ld (q := 35) (i := 0) D21_34 rfl rfl rfl ?_
    refine im_gfR (q := 38) (b := 29) D21_35 (im_fl cn_21 fl_11_55) sf_0 rfl rfl tR_11_7 rfl ?_
    refine im_ld (q := 39) (i := 1) D21_38 rfl rfl rfl ?_
    obtain ⟨b6, hb7, hP⟩ := hP
    obtain ⟨hb8, hP⟩ := hP
    refine im_aald (q := 40) D21_39 sf_29 (Or.inr rfl) hg5.1 hg5.2 (by decide) (((im_rdn _ _ _ _ (by decide))).trans hb7) ?_
    refine im_iconst (q := 41) D21_40 ?_
    refine im_pfZ (q := 44) D21_41 (im_fl cn_21 fl_11_290) hb8.1 rfl rfl tz_9_6 (by decide) ?_
    refine im_iinc (q := 47) (i := 1) (L' := [some (.ref 0), some (vI (p1 + 1))]) D21_44 rfl (Nat.le_of_ble_eq_true rfl) rfl ?_
    refine im_goto (q := 50) (t := 21) D21_47 rfl ?_
    exact hP.wk ⟨rfl, rfl, trivial⟩
set_option maxRecDepth 20000 in
set_option maxHeartbeats 4000000 in
theorem k_Writer_clear_0 {g : im_g} {d : Nat} {e : im_E} {M : im_M} {K : im_K} (hP : K (.inl none) e (im_u M 7 1 0)) : im_T g d 22 0 [some (.ref 7)] [] e M K := by
  refine im_ld (q := 1) (i := 0) D22_0 rfl rfl rfl ?_
  refine im_iconst (q := 2) D22_1 ?_
  refine im_pfI (q := 5) D22_2 (im_fl cn_22 fl_10_33) sf_7 rfl rfl ti_10_1 (by decide) ?_
  exact im_vret (q := 6) D22_5 rfl hP
set_option maxRecDepth 20000 in
set_option maxHeartbeats 4000000 in
theorem k_Pool_clear_0 {g : im_g} {d : Nat} {e : im_E} {M : im_M} {K : im_K} (hP : K (.inl none) e (im_u (im_u M 13 8 0) 13 10 0)) : im_T g d 23 0 [some (.ref 13)] [] e M K := by
  refine im_ld (q := 1) (i := 0) D23_0 rfl rfl rfl ?_
  refine im_iconst (q := 2) D23_1 ?_
  refine im_pfI (q := 5) D23_2 (im_fl cn_23 fl_5_41) sf_13 rfl rfl ti_5_8 (by decide) ?_
  refine im_ld (q := 6) (i := 0) D23_5 rfl rfl rfl ?_
  refine im_iconst (q := 7) D23_6 ?_
  refine im_pfI (q := 10) D23_7 (im_fl cn_23 fl_5_45) sf_13 rfl rfl ti_5_10 (by decide) ?_
  exact im_vret (q := 11) D23_10 rfl hP
set_option maxRecDepth 20000 in
set_option maxHeartbeats 4000000 in
theorem k_Journal_rewind_0 {g : im_g} {d : Nat} {e : im_E} {M : im_M} {K : im_K} (hP : K (.inl none) e (im_u (im_u (im_u (im_u M 2068 1 0) 2068 2 0) 2068 3 (-1)) 2068 4 0)) : im_T g d 24 0 [some (.ref 2068)] [] e M K := by
  refine im_ld (q := 1) (i := 0) D24_0 rfl rfl rfl ?_
  refine im_iconst (q := 2) D24_1 ?_
  refine im_pfI (q := 5) D24_2 (im_fl cn_24 fl_1_19) sf_2068 rfl rfl ti_1_1 (by decide) ?_
  refine im_ld (q := 6) (i := 0) D24_5 rfl rfl rfl ?_
  refine im_iconst (q := 7) D24_6 ?_
  refine im_pfI (q := 10) D24_7 (im_fl cn_24 fl_1_22) sf_2068 rfl rfl ti_1_2 (by decide) ?_
  refine im_ld (q := 11) (i := 0) D24_10 rfl rfl rfl ?_
  refine im_iconst (q := 12) D24_11 ?_
  refine im_pfI (q := 15) D24_12 (im_fl cn_24 fl_1_15) sf_2068 rfl rfl ti_1_3 (by decide) ?_
  refine im_ld (q := 16) (i := 0) D24_15 rfl rfl rfl ?_
  refine im_iconst (q := 17) D24_16 ?_
  refine im_pfZ (q := 20) D24_17 (im_fl cn_24 fl_1_25) sf_2068 rfl rfl tz_1_4 (by decide) ?_
  exact im_vret (q := 21) D24_20 rfl hP
set_option maxRecDepth 20000 in
set_option maxHeartbeats 4000000 in
theorem k_Journal_soundLength_0 {g : im_g} {d : Nat} {e : im_E} {M : im_M} {K : im_K} (hd : 1 ≤ d) (hP : im_T g (d - 1) 26 0 [some (.ref 2068)] [] e M (im_ri (fun x2 e_ M1 => e = e_ ∧ im_T g (d - 1) 27 0 [some (.ref 2068)] [] e M1 (im_ri (fun x4 e_ M3 => e = e_ ∧ (im_i32 x4) ∧ ((((1 ≤ x4 → ((x4 ≤ 8 → (im_i32 ((M3 2068 1) + x2)) ∧ ((((M3 2068 1) + x2) ≤ 16384 → im_T g (d - 1) 28 0 [some (vI x4), some (vI 0)] [] e M3 (im_ri (fun x15 e_ M14 => e = e_ ∧ im_T g (d - 1) 29 0 [some (vI x4)] [] e M14 (im_ri (fun x17 e_ M16 => e = e_ ∧ (im_i32 x17) ∧ ((((x17 = 0 → (im_i32 x2) ∧ (im_i32 x15)) ∧ (¬ x17 = 0 → (im_i32 x2) ∧ (im_i32 x15)))) ∧ ((((x17 = 0) ∧ (¬ x2 = x15)) ∨ ((¬ x17 = 0) ∧ (x2 < x15))) → K (.inl (some (vI 0))) e M16) ∧ ((((x17 = 0) ∧ (x2 = x15)) ∨ ((¬ x17 = 0) ∧ (x15 ≤ x2))) → im_T g (d - 1) 30 0 [] [] e M16 (im_ri (fun x33 e_ M32 => e = e_ ∧ im_T g d 25 74 [some (.ref 2068), some (vI x2), none, none, some (vI x33), some (vI (M32 2068 1)), none] [] e M32 K))))))))))))))) ∧ ((((x4 < 1)) ∨ ((1 ≤ x4) ∧ (8 < x4)) ∨ ((1 ≤ x4) ∧ (x4 ≤ 8) ∧ (16384 < ((M3 2068 1) + x2)))) → K (.inl (some (vI 0))) e M3))))))) : im_T g d 25 0 [some (.ref 2068), none, none, none, none, none, none] [] e M K := by
  refine im_ld (q := 1) (i := 0) D25_0 rfl rfl rfl ?_
  refine im_callV (q := 4) (kd := 1) (y := 26) (n := 0) (ci := 1) (a := 2068) (vs := [.ref 2068]) (r := []) (L2 := [some (.ref 2068)]) D25_1 (im_cal cn_25 cl_1_66) (Or.inl rfl) rfl sf_2068 rfl rfl rfl rfl hd ⟨rfl, trivial⟩ ?_
  refine hP.mono ?_
  rintro _ e39 M1 ⟨x2, rfl, rfl, hP⟩
  refine im_bkS ?_
  refine im_st1 (q := 5) (i := 1) (L' := [some (.ref 2068), some (vI x2), none, none, none, none, none]) D25_4 (Or.inl ⟨_, rfl, rfl⟩) (Nat.le_of_ble_eq_true rfl) rfl ?_
  refine im_ld (q := 6) (i := 0) D25_5 rfl rfl rfl ?_
  refine im_callV (q := 9) (kd := 1) (y := 27) (n := 0) (ci := 1) (a := 2068) (vs := [.ref 2068]) (r := []) (L2 := [some (.ref 2068)]) D25_6 (im_cal cn_25 cl_1_69) (Or.inl rfl) rfl sf_2068 rfl rfl rfl rfl hd ⟨rfl, trivial⟩ ?_
  refine hP.mono ?_
  rintro _ e38 M3 ⟨x4, rfl, rfl, hP⟩
  refine im_bkS ?_
  refine im_st1 (q := 10) (i := 2) (L' := [some (.ref 2068), some (vI x2), some (vI x4), none, none, none, none]) D25_9 (Or.inl ⟨_, rfl, rfl⟩) (Nat.le_of_ble_eq_true rfl) rfl ?_
  refine im_ld (q := 11) (i := 2) D25_10 rfl rfl rfl ?_
  refine im_iconst (q := 12) D25_11 ?_
  obtain ⟨hg5, hP⟩ := hP
  obtain ⟨hP, hJ11⟩ := hP
  have kJ12 : (((x4 < 1)) ∨ ((1 ≤ x4) ∧ (8 < x4)) ∨ ((1 ≤ x4) ∧ (x4 ≤ 8) ∧ (16384 < ((M3 2068 1) + x2)))) → im_T g d 25 33 [none, none, none, none, none, none, none] [] e M3 K := by
    intro  hx13
    have hP := hJ11  hx13
    refine im_iconst (q := 34) D25_33 ?_
    exact im_iret (q := 35) D25_34 rfl hP
  refine im_icmp (q := 15) (t := 33) D25_12 rfl hg5 (by decide) (fun hc6 => ?_) (fun hc6 => ?_)
  · exact (kJ12  (Or.inl hc6)).wk trivial
  · replace hP := hP (Int.not_lt.mp hc6)
    refine im_ld (q := 16) (i := 2) D25_15 rfl rfl rfl ?_
    refine im_bipush (q := 18) D25_16 rfl ?_
    refine im_icmp (q := 21) (t := 33) D25_18 rfl hg5 (by decide) (fun hc7 => ?_) (fun hc7 => ?_)
    · exact (kJ12  (Or.inr (Or.inl ⟨(Int.not_lt.mp hc6), hc7⟩))).wk trivial
    · replace hP := hP (Int.not_lt.mp hc7)
      refine im_ld (q := 22) (i := 0) D25_21 rfl rfl rfl ?_
      refine im_rng (j := 1) sf_2068 (by decide) (by decide) (fun hr8 => ?_)
      refine im_gfI (q := 25) D25_22 (im_fl cn_25 fl_1_19) sf_2068 rfl rfl tI_1_1 rfl ?_
      refine im_ld (q := 26) (i := 1) D25_25 rfl rfl rfl ?_
      refine im_iadd (q := 27) D25_26 ?_
      refine im_sipush (q := 30) D25_27 rfl ?_
      obtain ⟨hg9, hP⟩ := hP
      refine im_icmp (q := 33) (t := 35) D25_30 rfl hg9 (by decide) (fun hc10 => ?_) (fun hc10 => ?_)
      · replace hP := hP hc10
        refine im_ld (q := 36) (i := 2) D25_35 rfl rfl rfl ?_
        refine im_iconst (q := 37) D25_36 ?_
        refine im_callS (q := 40) (kd := 0) (y := 28) (n := 2) (z := 1) (vs := [vI x4, vI 0]) (r := []) (L2 := [some (vI x4), some (vI 0)]) D25_37 rfl (im_cal cn_25 cl_1_33) (Or.inl rfl) rfl rfl rfl rfl rfl hd ⟨rfl, rfl, trivial⟩ ?_
        refine hP.mono ?_
        rintro _ e37 M14 ⟨x15, rfl, rfl, hP⟩
        refine im_bkS ?_
        refine im_st1 (q := 41) (i := 3) (L' := [some (.ref 2068), some (vI x2), some (vI x4), some (vI x15), none, none, none]) D25_40 (Or.inl ⟨_, rfl, rfl⟩) (Nat.le_of_ble_eq_true rfl) rfl ?_
        refine im_ld (q := 42) (i := 2) D25_41 rfl rfl rfl ?_
        refine im_callS (q := 45) (kd := 0) (y := 29) (n := 1) (z := 1) (vs := [vI x4]) (r := []) (L2 := [some (vI x4)]) D25_42 rfl (im_cal cn_25 cl_1_72) (Or.inl rfl) rfl rfl rfl rfl rfl hd ⟨rfl, trivial⟩ ?_
        refine hP.mono ?_
        rintro _ e36 M16 ⟨x17, rfl, rfl, hP⟩
        refine im_bkS ?_
        obtain ⟨hg18, hP⟩ := hP
        obtain ⟨hP, hJ26, hJ29⟩ := hP
        have kJ27 : (((x17 = 0) ∧ (¬ x2 = x15)) ∨ ((¬ x17 = 0) ∧ (x2 < x15))) → im_T g d 25 61 [none, none, none, none, none, none, none] [] e M16 K := by
          intro  hx28
          have hP := hJ26  hx28
          refine im_iconst (q := 62) D25_61 ?_
          exact im_iret (q := 63) D25_62 rfl hP
        have kJ30 : (((x17 = 0) ∧ (x2 = x15)) ∨ ((¬ x17 = 0) ∧ (x15 ≤ x2))) → im_T g d 25 63 [some (.ref 2068), some (vI x2), none, none, none, none, none] [] e M16 K := by
          intro  hx31
          have hP := hJ29  hx31
          refine im_callS (q := 66) (kd := 0) (y := 30) (n := 0) (z := 1) (vs := []) (r := []) (L2 := []) D25_63 rfl (im_cal cn_25 cl_1_40) (Or.inl rfl) rfl rfl rfl rfl rfl hd trivial ?_
          refine hP.mono ?_
          rintro _ e35 M32 ⟨x33, rfl, rfl, hP⟩
          refine im_bkS ?_
          refine im_st1 (q := 68) (i := 4) (L' := [some (.ref 2068), some (vI x2), none, none, some (vI x33), none, none]) D25_66 (Or.inr rfl) (Nat.le_of_ble_eq_true rfl) rfl ?_
          refine im_ld (q := 69) (i := 0) D25_68 rfl rfl rfl ?_
          refine im_rng (j := 1) sf_2068 (by decide) (by decide) (fun hr34 => ?_)
          refine im_gfI (q := 72) D25_69 (im_fl cn_25 fl_1_19) sf_2068 rfl rfl tI_1_1 rfl ?_
          refine im_st1 (q := 74) (i := 5) (L' := [some (.ref 2068), some (vI x2), none, none, some (vI x33), some (vI (M32 2068 1)), none]) D25_72 (Or.inr rfl) (Nat.le_of_ble_eq_true rfl) rfl ?_
          exact hP.wk ⟨rfl, rfl, rfl, rfl, trivial⟩
        refine im_ifc (q := 48) (t := 56) D25_45 rfl hg18 (fun hc19 => ?_) (fun hc19 => ?_)
        · replace hP := hP.1 hc19
          refine im_ld (q := 57) (i := 1) D25_56 rfl rfl rfl ?_
          refine im_ld (q := 58) (i := 3) D25_57 rfl rfl rfl ?_
          obtain ⟨hg20, hP⟩ := hP
          have hg21 := hP
          refine im_icmp (q := 61) (t := 63) D25_58 rfl hg20 hg21 (fun hc22 => ?_) (fun hc22 => ?_)
          · exact (kJ30  (Or.inl ⟨hc19, hc22⟩)).wk ⟨rfl, rfl, trivial⟩
          · exact (kJ27  (Or.inl ⟨hc19, hc22⟩)).wk trivial
        · replace hP := hP.2 hc19
          refine im_ld (q := 49) (i := 1) D25_48 rfl rfl rfl ?_
          refine im_ld (q := 50) (i := 3) D25_49 rfl rfl rfl ?_
          obtain ⟨hg23, hP⟩ := hP
          have hg24 := hP
          refine im_icmp (q := 53) (t := 63) D25_50 rfl hg23 hg24 (fun hc25 => ?_) (fun hc25 => ?_)
          · exact (kJ30  (Or.inr ⟨hc19, hc25⟩)).wk ⟨rfl, rfl, trivial⟩
          · refine im_goto (q := 56) (t := 61) D25_53 rfl ?_
            exact (kJ27  (Or.inr ⟨hc19, (Int.not_le.mp hc25)⟩)).wk trivial
      · exact (kJ12  (Or.inr (Or.inr ⟨(Int.not_lt.mp hc6), (Int.not_lt.mp hc7), (Int.not_le.mp hc10)⟩))).wk trivial
set_option maxRecDepth 20000 in
set_option maxHeartbeats 4000000 in
theorem k_Journal_soundLength_74 {g : im_g} {d : Nat} {e : im_E} {M : im_M} {K : im_K} {p1 p4 p5 : Int} (hd : 1 ≤ d) (hP : (im_i32 p5) ∧ (im_i32 (((M 2068 1) + p1) - 4)) ∧ (((((M 2068 1) + p1) - 4) ≤ p5 → im_T g (d - 1) 32 0 [some (.ref 2068), some (vI (((M 2068 1) + p1) - 4)), some (vI 4), none, none, none] [] e M (im_rl (fun x9 e_ M8 => e = e_ ∧ im_T g (d - 1) 33 0 [some (vI p4), some (vI (M8 2068 1)), none, none] [] e M8 (im_ri (fun x12 e_ M11 => e = e_ ∧ (im_i32 x9) ∧ (im_i32 x12) ∧ ((∀ x16 : Int, (((¬ x9 = x12) ∧ x16 = 0) ∨ ((x9 = x12) ∧ x16 = p1)) → K (.inl (some (vI x16))) e M11))))))) ∧ (p5 < (((M 2068 1) + p1) - 4) → (0 ≤ p5 ∧ p5 < 16384) ∧ im_T g (d - 1) 31 0 [some (vI p4), some (vI (M 2069 p5))] [] e M (im_ri (fun x23 e_ M22 => e = e_ ∧ im_T g d 25 74 [some (.ref 2068), some (vI p1), none, none, some (vI x23), some (vI (p5 + 1)), none] [] e M22 K))))) : im_T g d 25 74 [some (.ref 2068), some (vI p1), none, none, some (vI p4), some (vI p5), none] [] e M K := by
  refine im_ld (q := 76) (i := 5) D25_74 rfl rfl rfl ?_
  refine im_ld (q := 77) (i := 0) D25_76 rfl rfl rfl ?_
  refine im_rng (j := 1) sf_2068 (by decide) (by decide) (fun hr1 => ?_)
  refine im_gfI (q := 80) D25_77 (im_fl cn_25 fl_1_19) sf_2068 rfl rfl tI_1_1 rfl ?_
  refine im_ld (q := 81) (i := 1) D25_80 rfl rfl rfl ?_
  refine im_iadd (q := 82) D25_81 ?_
  refine im_iconst (q := 83) D25_82 ?_
  refine im_isub (q := 84) D25_83 ?_
  obtain ⟨hg2, hP⟩ := hP
  obtain ⟨hg3, hP⟩ := hP
  refine im_icmp (q := 87) (t := 107) D25_84 rfl hg2 hg3 (fun hc4 => ?_) (fun hc4 => ?_)
  · replace hP := hP.1 hc4
    refine im_ld (q := 108) (i := 0) D25_107 rfl rfl rfl ?_
    refine im_ld (q := 109) (i := 0) D25_108 rfl rfl rfl ?_
    refine im_gfI (q := 112) D25_109 (im_fl cn_25 fl_1_19) sf_2068 rfl rfl tI_1_1 rfl ?_
    refine im_ld (q := 113) (i := 1) D25_112 rfl rfl rfl ?_
    refine im_iadd (q := 114) D25_113 ?_
    refine im_iconst (q := 115) D25_114 ?_
    refine im_isub (q := 116) D25_115 ?_
    refine im_iconst (q := 117) D25_116 ?_
    refine im_callV (q := 120) (kd := 1) (y := 32) (n := 2) (ci := 1) (a := 2068) (vs := [.ref 2068, vI (((M 2068 1) + p1) - 4), vI 4]) (r := []) (L2 := [some (.ref 2068), some (vI (((M 2068 1) + p1) - 4)), some (vI 4), none, none, none]) D25_117 (im_cal cn_25 cl_1_76) (Or.inl rfl) rfl sf_2068 rfl rfl rfl rfl hd ⟨rfl, rfl, rfl, trivial⟩ ?_
    refine hP.mono ?_
    rintro _ e21 M8 ⟨x9, rfl, rfl, hP⟩
    refine im_bkS ?_
    refine im_st2 (q := 122) (i := 5) (L' := [some (.ref 2068), some (vI p1), none, none, some (vI p4), some (vL x9), none]) D25_120 (Or.inr rfl) (Nat.le_of_ble_eq_true rfl) rfl ?_
    refine im_ld (q := 124) (i := 5) D25_122 rfl rfl rfl ?_
    refine im_l2i (q := 125) D25_124 ?_
    refine im_ld (q := 127) (i := 4) D25_125 rfl rfl rfl ?_
    refine im_ld (q := 128) (i := 0) D25_127 rfl rfl rfl ?_
    refine im_rng (j := 1) sf_2068 (by decide) (by decide) (fun hr10 => ?_)
    refine im_gfI (q := 131) D25_128 (im_fl cn_25 fl_1_19) sf_2068 rfl rfl tI_1_1 rfl ?_
    refine im_callS (q := 134) (kd := 0) (y := 33) (n := 2) (z := 1) (vs := [vI p4, vI (M8 2068 1)]) (r := [vI x9]) (L2 := [some (vI p4), some (vI (M8 2068 1)), none, none]) D25_131 rfl (im_cal cn_25 cl_1_55) (Or.inl rfl) rfl rfl rfl rfl rfl hd ⟨rfl, rfl, trivial⟩ ?_
    refine hP.mono ?_
    rintro _ e20 M11 ⟨x12, rfl, rfl, hP⟩
    refine im_bkS ?_
    obtain ⟨hg13, hP⟩ := hP
    obtain ⟨hg14, hP⟩ := hP
    have hJ17 := hP
    have kJ18 : ∀ x16 : Int, (((¬ x9 = x12) ∧ x16 = 0) ∨ ((x9 = x12) ∧ x16 = p1)) → im_T g d 25 142 [none, none, none, none, none, none, none] [vI x16] e M11 K := by
      intro x16 hx19
      have hP := hJ17 x16 hx19
      exact im_iret (q := 143) D25_142 rfl hP
    refine im_icmp (q := 137) (t := 141) D25_134 rfl hg13 hg14 (fun hc15 => ?_) (fun hc15 => ?_)
    · refine im_iconst (q := 142) D25_141 ?_
      exact (kJ18 (0) (Or.inl ⟨hc15, rfl⟩)).wk trivial
    · refine im_ld (q := 138) (i := 1) D25_137 rfl rfl rfl ?_
      refine im_goto (q := 141) (t := 142) D25_138 rfl ?_
      exact (kJ18 (p1) (Or.inr ⟨(Decidable.not_not.mp hc15), rfl⟩)).wk trivial
  · replace hP := hP.2 (Int.not_le.mp hc4)
    refine im_ld (q := 89) (i := 4) D25_87 rfl rfl rfl ?_
    refine im_ld (q := 90) (i := 0) D25_89 rfl rfl rfl ?_
    refine im_gfR (q := 93) (b := 2069) D25_90 (im_fl cn_25 fl_1_9) sf_2068 rfl rfl tR_1_0 rfl ?_
    refine im_ld (q := 95) (i := 5) D25_93 rfl rfl rfl ?_
    obtain ⟨hg6, hP⟩ := hP
    refine im_rng (j := p5) sf_2069 hg6.1 hg6.2 (fun hr7 => ?_)
    refine im_bald (q := 96) D25_95 sf_2069 (Or.inl rfl) hg6.1 hg6.2 (by decide) rfl ?_
    refine im_callS (q := 99) (kd := 0) (y := 31) (n := 2) (z := 1) (vs := [vI p4, vI (M 2069 p5)]) (r := []) (L2 := [some (vI p4), some (vI (M 2069 p5))]) D25_96 rfl (im_cal cn_25 cl_1_61) (Or.inl rfl) rfl rfl rfl rfl rfl hd ⟨rfl, rfl, trivial⟩ ?_
    refine hP.mono ?_
    rintro _ e24 M22 ⟨x23, rfl, rfl, hP⟩
    refine im_bkS ?_
    refine im_st1 (q := 101) (i := 4) (L' := [some (.ref 2068), some (vI p1), none, none, some (vI x23), some (vI p5), none]) D25_99 (Or.inr rfl) (Nat.le_of_ble_eq_true rfl) rfl ?_
    refine im_iinc (q := 104) (i := 5) (L' := [some (.ref 2068), some (vI p1), none, none, some (vI x23), some (vI (p5 + 1)), none]) D25_101 rfl (Nat.le_of_ble_eq_true rfl) rfl ?_
    refine im_goto (q := 107) (t := 74) D25_104 rfl ?_
    exact hP.wk ⟨rfl, rfl, rfl, rfl, trivial⟩
set_option maxRecDepth 20000 in
set_option maxHeartbeats 4000000 in
theorem k_Journal_lengthHere_0 {g : im_g} {d : Nat} {e : im_E} {M : im_M} {K : im_K} (hP : (im_i32 ((M 2068 1) + 1)) ∧ ((((((M 2068 1) + 1) < 16384 → (0 ≤ (M 2068 1) ∧ (M 2068 1) < 16384) ∧ (0 ≤ ((M 2068 1) + 1) ∧ ((M 2068 1) + 1) < 16384)))) ∧ (∀ x10 : Int, (((16384 ≤ ((M 2068 1) + 1)) ∧ x10 = 0) ∨ ((((M 2068 1) + 1) < 16384) ∧ x10 = (xior (xishl (xiand (M 2069 (M 2068 1)) 255) 8) (xiand (M 2069 ((M 2068 1) + 1)) 255)))) → K (.inl (some (vI x10))) e M))) : im_T g d 26 0 [some (.ref 2068)] [] e M K := by
  refine im_ld (q := 1) (i := 0) D26_0 rfl rfl rfl ?_
  refine im_rng (j := 1) sf_2068 (by decide) (by decide) (fun hr1 => ?_)
  refine im_gfI (q := 4) D26_1 (im_fl cn_26 fl_1_19) sf_2068 rfl rfl tI_1_1 rfl ?_
  refine im_iconst (q := 5) D26_4 ?_
  refine im_iadd (q := 6) D26_5 ?_
  refine im_sipush (q := 9) D26_6 rfl ?_
  obtain ⟨hg2, hP⟩ := hP
  obtain ⟨hP, hJ11⟩ := hP
  have kJ12 : ∀ x10 : Int, (((16384 ≤ ((M 2068 1) + 1)) ∧ x10 = 0) ∨ ((((M 2068 1) + 1) < 16384) ∧ x10 = (xior (xishl (xiand (M 2069 (M 2068 1)) 255) 8) (xiand (M 2069 ((M 2068 1) + 1)) 255)))) → im_T g d 26 48 [none] [vI x10] e M K := by
    intro x10 hx13
    have hP := hJ11 x10 hx13
    exact im_iret (q := 49) D26_48 rfl hP
  refine im_icmp (q := 12) (t := 47) D26_9 rfl hg2 (by decide) (fun hc3 => ?_) (fun hc3 => ?_)
  · refine im_iconst (q := 48) D26_47 ?_
    exact (kJ12 (0) (Or.inl ⟨hc3, rfl⟩)).wk trivial
  · replace hP := hP (Int.not_le.mp hc3)
    refine im_ld (q := 13) (i := 0) D26_12 rfl rfl rfl ?_
    refine im_gfR (q := 16) (b := 2069) D26_13 (im_fl cn_26 fl_1_9) sf_2068 rfl rfl tR_1_0 rfl ?_
    refine im_ld (q := 17) (i := 0) D26_16 rfl rfl rfl ?_
    refine im_gfI (q := 20) D26_17 (im_fl cn_26 fl_1_19) sf_2068 rfl rfl tI_1_1 rfl ?_
    obtain ⟨hg5, hP⟩ := hP
    refine im_rng (j := (M 2068 1)) sf_2069 hg5.1 hg5.2 (fun hr6 => ?_)
    refine im_bald (q := 21) D26_20 sf_2069 (Or.inl rfl) hg5.1 hg5.2 (by decide) rfl ?_
    refine im_sipush (q := 24) D26_21 rfl ?_
    refine im_iand (q := 25) D26_24 ?_
    refine im_bipush (q := 27) D26_25 rfl ?_
    refine im_ishl (q := 28) D26_27 ?_
    refine im_ld (q := 29) (i := 0) D26_28 rfl rfl rfl ?_
    refine im_gfR (q := 32) (b := 2069) D26_29 (im_fl cn_26 fl_1_9) sf_2068 rfl rfl tR_1_0 rfl ?_
    refine im_ld (q := 33) (i := 0) D26_32 rfl rfl rfl ?_
    refine im_gfI (q := 36) D26_33 (im_fl cn_26 fl_1_19) sf_2068 rfl rfl tI_1_1 rfl ?_
    refine im_iconst (q := 37) D26_36 ?_
    refine im_iadd (q := 38) D26_37 ?_
    have hg8 := hP
    refine im_rng (j := ((M 2068 1) + 1)) sf_2069 hg8.1 hg8.2 (fun hr9 => ?_)
    refine im_bald (q := 39) D26_38 sf_2069 (Or.inl rfl) hg8.1 hg8.2 (by decide) rfl ?_
    refine im_sipush (q := 42) D26_39 rfl ?_
    refine im_iand (q := 43) D26_42 ?_
    refine im_ior (q := 44) D26_43 ?_
    refine im_goto (q := 47) (t := 48) D26_44 rfl ?_
    exact (kJ12 ((xior (xishl (xiand (M 2069 (M 2068 1)) 255) 8) (xiand (M 2069 ((M 2068 1) + 1)) 255))) (Or.inr ⟨(Int.not_le.mp hc3), rfl⟩)).wk trivial
set_option maxRecDepth 20000 in
set_option maxHeartbeats 4000000 in
theorem k_Journal_kindHere_0 {g : im_g} {d : Nat} {e : im_E} {M : im_M} {K : im_K} (hP : (im_i32 ((M 2068 1) + 2)) ∧ ((((((M 2068 1) + 2) < 16384 → (0 ≤ ((M 2068 1) + 2) ∧ ((M 2068 1) + 2) < 16384)))) ∧ (∀ x7 : Int, (((16384 ≤ ((M 2068 1) + 2)) ∧ x7 = 0) ∨ ((((M 2068 1) + 2) < 16384) ∧ x7 = (xiand (M 2069 ((M 2068 1) + 2)) 255))) → K (.inl (some (vI x7))) e M))) : im_T g d 27 0 [some (.ref 2068)] [] e M K := by
  refine im_ld (q := 1) (i := 0) D27_0 rfl rfl rfl ?_
  refine im_rng (j := 1) sf_2068 (by decide) (by decide) (fun hr1 => ?_)
  refine im_gfI (q := 4) D27_1 (im_fl cn_27 fl_1_19) sf_2068 rfl rfl tI_1_1 rfl ?_
  refine im_iconst (q := 5) D27_4 ?_
  refine im_iadd (q := 6) D27_5 ?_
  refine im_sipush (q := 9) D27_6 rfl ?_
  obtain ⟨hg2, hP⟩ := hP
  obtain ⟨hP, hJ8⟩ := hP
  have kJ9 : ∀ x7 : Int, (((16384 ≤ ((M 2068 1) + 2)) ∧ x7 = 0) ∨ ((((M 2068 1) + 2) < 16384) ∧ x7 = (xiand (M 2069 ((M 2068 1) + 2)) 255))) → im_T g d 27 31 [none] [vI x7] e M K := by
    intro x7 hx10
    have hP := hJ8 x7 hx10
    exact im_iret (q := 32) D27_31 rfl hP
  refine im_icmp (q := 12) (t := 30) D27_9 rfl hg2 (by decide) (fun hc3 => ?_) (fun hc3 => ?_)
  · refine im_iconst (q := 31) D27_30 ?_
    exact (kJ9 (0) (Or.inl ⟨hc3, rfl⟩)).wk trivial
  · replace hP := hP (Int.not_le.mp hc3)
    refine im_ld (q := 13) (i := 0) D27_12 rfl rfl rfl ?_
    refine im_gfR (q := 16) (b := 2069) D27_13 (im_fl cn_27 fl_1_9) sf_2068 rfl rfl tR_1_0 rfl ?_
    refine im_ld (q := 17) (i := 0) D27_16 rfl rfl rfl ?_
    refine im_gfI (q := 20) D27_17 (im_fl cn_27 fl_1_19) sf_2068 rfl rfl tI_1_1 rfl ?_
    refine im_iconst (q := 21) D27_20 ?_
    refine im_iadd (q := 22) D27_21 ?_
    have hg5 := hP
    refine im_rng (j := ((M 2068 1) + 2)) sf_2069 hg5.1 hg5.2 (fun hr6 => ?_)
    refine im_bald (q := 23) D27_22 sf_2069 (Or.inl rfl) hg5.1 hg5.2 (by decide) rfl ?_
    refine im_sipush (q := 26) D27_23 rfl ?_
    refine im_iand (q := 27) D27_26 ?_
    refine im_goto (q := 30) (t := 31) D27_27 rfl ?_
    exact (kJ9 ((xiand (M 2069 ((M 2068 1) + 2)) 255)) (Or.inr ⟨(Int.not_le.mp hc3), rfl⟩)).wk trivial
set_option maxRecDepth 20000 in
set_option maxHeartbeats 4000000 in
theorem k_Journal_lengthOf_0 {g : im_g} {d : Nat} {e : im_E} {M : im_M} {K : im_K} {p0 p1 : Int} (hP : (0 ≤ p0 ∧ p0 < 9) ∧ K (.inl (some (vI ((7 + (8 * (xrec p0))) + p1)))) e M) : im_T g d 28 0 [some (vI p0), some (vI p1)] [] e M K := by
  refine im_bipush (q := 2) D28_0 rfl ?_
  refine im_bipush (q := 4) D28_2 rfl ?_
  refine im_spc (q := 7) (st' := .float 100 :: _) rfl ?_
  refine im_ld (q := 8) (i := 0) D28_7 rfl rfl rfl ?_
  obtain ⟨hg1, hP⟩ := hP
  refine im_recld (q := 9) D28_8 hg1.1 hg1.2 ?_
  refine im_imul (q := 10) D28_9 ?_
  refine im_iadd (q := 11) D28_10 ?_
  refine im_ld (q := 12) (i := 1) D28_11 rfl rfl rfl ?_
  refine im_iadd (q := 13) D28_12 ?_
  exact im_iret (q := 14) D28_13 rfl hP
set_option maxRecDepth 20000 in
set_option maxHeartbeats 4000000 in
theorem k_Journal_takesText_0 {g : im_g} {d : Nat} {e : im_E} {M : im_M} {K : im_K} {p0 : Int} (hP : (im_i32 p0) ∧ (((((p0 = 1)) ∨ ((¬ p0 = 1) ∧ (5 ≤ p0) ∧ (p0 ≤ 7))) → K (.inl (some (vI 1))) e M) ∧ ((((¬ p0 = 1) ∧ (p0 < 5)) ∨ ((¬ p0 = 1) ∧ (5 ≤ p0) ∧ (7 < p0))) → K (.inl (some (vI 0))) e M))) : im_T g d 29 0 [some (vI p0)] [] e M K := by
  refine im_ld (q := 1) (i := 0) D29_0 rfl rfl rfl ?_
  refine im_iconst (q := 2) D29_1 ?_
  obtain ⟨hg1, hP⟩ := hP
  obtain ⟨hJ5, hJ8⟩ := hP
  have kJ6 : (((p0 = 1)) ∨ ((¬ p0 = 1) ∧ (5 ≤ p0) ∧ (p0 ≤ 7))) → im_T g d 29 16 [none] [] e M K := by
    intro  hx7
    have hP := hJ5  hx7
    refine im_iconst (q := 17) D29_16 ?_
    refine im_goto (q := 20) (t := 21) D29_17 rfl ?_
    exact im_zret (q := 22) D29_21 rfl (by decide) hP
  have kJ9 : (((¬ p0 = 1) ∧ (p0 < 5)) ∨ ((¬ p0 = 1) ∧ (5 ≤ p0) ∧ (7 < p0))) → im_T g d 29 20 [none] [] e M K := by
    intro  hx10
    have hP := hJ8  hx10
    refine im_iconst (q := 21) D29_20 ?_
    exact im_zret (q := 22) D29_21 rfl (by decide) hP
  refine im_icmp (q := 5) (t := 16) D29_2 rfl hg1 (by decide) (fun hc2 => ?_) (fun hc2 => ?_)
  · exact (kJ6  (Or.inl hc2)).wk trivial
  · refine im_ld (q := 6) (i := 0) D29_5 rfl rfl rfl ?_
    refine im_iconst (q := 7) D29_6 ?_
    refine im_icmp (q := 10) (t := 20) D29_7 rfl hg1 (by decide) (fun hc3 => ?_) (fun hc3 => ?_)
    · exact (kJ9  (Or.inl ⟨hc2, hc3⟩)).wk trivial
    · refine im_ld (q := 11) (i := 0) D29_10 rfl rfl rfl ?_
      refine im_bipush (q := 13) D29_11 rfl ?_
      refine im_icmp (q := 16) (t := 20) D29_13 rfl hg1 (by decide) (fun hc4 => ?_) (fun hc4 => ?_)
      · exact (kJ9  (Or.inr ⟨hc2, (Int.not_lt.mp hc3), hc4⟩)).wk trivial
      · exact (kJ6  (Or.inr ⟨hc2, (Int.not_lt.mp hc3), (Int.not_lt.mp hc4)⟩)).wk trivial
set_option maxRecDepth 20000 in
set_option maxHeartbeats 4000000 in
theorem k_Journal_firstCheck_0 {g : im_g} {d : Nat} {e : im_E} {M : im_M} {K : im_K} (hP : K (.inl (some (vI (-2128831035)))) e M) : im_T g d 30 0 [] [] e M K := by
  refine im_ldc (q := 2) (n := (-2128831035)) (Or.inl rfl) D30_0 rfl rfl ?_
  exact im_iret (q := 3) D30_2 rfl hP
set_option maxRecDepth 20000 in
set_option maxHeartbeats 4000000 in
theorem k_Journal_mixed_0 {g : im_g} {d : Nat} {e : im_E} {M : im_M} {K : im_K} {p0 p1 : Int} (hP : K (.inl (some (vI ((xixor p0 (xiand p1 255)) * 16777619)))) e M) : im_T g d 31 0 [some (vI p0), some (vI p1)] [] e M K := by
  refine im_ld (q := 1) (i := 0) D31_0 rfl rfl rfl ?_
  refine im_ld (q := 2) (i := 1) D31_1 rfl rfl rfl ?_
  refine im_sipush (q := 5) D31_2 rfl ?_
  refine im_iand (q := 6) D31_5 ?_
  refine im_ixor (q := 7) D31_6 ?_
  refine im_ldc (q := 9) (n := 16777619) (Or.inl rfl) D31_7 rfl rfl ?_
  refine im_imul (q := 10) D31_9 ?_
  exact im_iret (q := 11) D31_10 rfl hP
set_option maxRecDepth 20000 in
set_option maxHeartbeats 4000000 in
theorem k_Journal_bytesAt_0 {g : im_g} {d : Nat} {e : im_E} {M : im_M} {K : im_K} {p1 p2 : Int} (hP : im_T g d 32 5 [some (.ref 2068), some (vI p1), some (vI p2), some (vL 0), none, some (vI p1)] [] e M K) : im_T g d 32 0 [some (.ref 2068), some (vI p1), some (vI p2), none, none, none] [] e M K := by
  refine im_lconst (q := 1) (z := 0) D32_0 rfl ?_
  refine im_st2 (q := 2) (i := 3) (L' := [some (.ref 2068), some (vI p1), some (vI p2), some (vL 0), none, none]) D32_1 (Or.inl ⟨_, rfl, rfl⟩) (Nat.le_of_ble_eq_true rfl) rfl ?_
  refine im_ld (q := 3) (i := 1) D32_2 rfl rfl rfl ?_
  refine im_st1 (q := 5) (i := 5) (L' := [some (.ref 2068), some (vI p1), some (vI p2), some (vL 0), none, some (vI p1)]) D32_3 (Or.inr rfl) (Nat.le_of_ble_eq_true rfl) rfl ?_
  exact hP.wk ⟨rfl, rfl, rfl, rfl, rfl, trivial⟩
set_option maxRecDepth 20000 in
set_option maxHeartbeats 4000000 in
theorem k_Journal_bytesAt_5 {g : im_g} {d : Nat} {e : im_E} {M : im_M} {K : im_K} {p1 p2 p3 p5 : Int} (hP : (im_i32 p5) ∧ (im_i32 (p1 + p2)) ∧ (((((p1 + p2) ≤ p5 → K (.inl (some (vL p3))) e M) ∧ (p5 < (p1 + p2) → ((0 ≤ p5 → ((p5 < 16384 → (0 ≤ p5 ∧ p5 < 16384) ∧ im_T g d 32 5 [some (.ref 2068), some (vI p1), some (vI p2), some (vL (xlor (xlshl p3 8) (xiand (M 2069 p5) 255))), none, some (vI (p5 + 1))] [] e M K))))))) ∧ ((((p5 < (p1 + p2)) ∧ (p5 < 0)) ∨ ((p5 < (p1 + p2)) ∧ (0 ≤ p5) ∧ (16384 ≤ p5))) → im_T g d 32 5 [some (.ref 2068), some (vI p1), some (vI p2), some (vL (xlor (xlshl p3 8) 0)), none, some (vI (p5 + 1))] [] e M K))) : im_T g d 32 5 [some (.ref 2068), some (vI p1), some (vI p2), some (vL p3), none, some (vI p5)] [] e M K := by
  refine im_ld (q := 7) (i := 5) D32_5 rfl rfl rfl ?_
  refine im_ld (q := 8) (i := 1) D32_7 rfl rfl rfl ?_
  refine im_ld (q := 9) (i := 2) D32_8 rfl rfl rfl ?_
  refine im_iadd (q := 10) D32_9 ?_
  obtain ⟨hg1, hP⟩ := hP
  obtain ⟨hg2, hP⟩ := hP
  obtain ⟨hP, hJ8⟩ := hP
  have kJ9 : (((p5 < (p1 + p2)) ∧ (p5 < 0)) ∨ ((p5 < (p1 + p2)) ∧ (0 ≤ p5) ∧ (16384 ≤ p5))) → im_T g d 32 44 [some (.ref 2068), some (vI p1), some (vI p2), none, none, some (vI p5)] [vL (xlshl p3 8)] e M K := by
    intro  hx10
    have hP := hJ8  hx10
    refine im_iconst (q := 45) D32_44 ?_
    refine im_i2l (q := 46) D32_45 (by decide) ?_
    refine im_lor (q := 47) D32_46 ?_
    refine im_st2 (q := 48) (i := 3) (L' := [some (.ref 2068), some (vI p1), some (vI p2), some (vL (xlor (xlshl p3 8) 0)), none, some (vI p5)]) D32_47 (Or.inl ⟨_, rfl, rfl⟩) (Nat.le_of_ble_eq_true rfl) rfl ?_
    refine im_iinc (q := 51) (i := 5) (L' := [some (.ref 2068), some (vI p1), some (vI p2), some (vL (xlor (xlshl p3 8) 0)), none, some (vI (p5 + 1))]) D32_48 rfl (Nat.le_of_ble_eq_true rfl) rfl ?_
    refine im_goto (q := 54) (t := 5) D32_51 rfl ?_
    exact hP.wk ⟨rfl, rfl, rfl, rfl, rfl, trivial⟩
  refine im_icmp (q := 13) (t := 54) D32_10 rfl hg1 hg2 (fun hc3 => ?_) (fun hc3 => ?_)
  · replace hP := hP.1 hc3
    refine im_ld (q := 55) (i := 3) D32_54 rfl rfl rfl ?_
    exact im_lret (q := 56) D32_55 rfl hP
  · replace hP := hP.2 (Int.not_le.mp hc3)
    refine im_ld (q := 14) (i := 3) D32_13 rfl rfl rfl ?_
    refine im_bipush (q := 16) D32_14 rfl ?_
    refine im_lshl (q := 17) D32_16 ?_
    refine im_ld (q := 19) (i := 5) D32_17 rfl rfl rfl ?_
    refine im_ifc (q := 22) (t := 44) D32_19 rfl hg1 (fun hc4 => ?_) (fun hc4 => ?_)
    · exact (kJ9  (Or.inl ⟨(Int.not_le.mp hc3), hc4⟩)).wk ⟨rfl, rfl, rfl, rfl, trivial⟩
    · replace hP := hP (Int.not_lt.mp hc4)
      refine im_ld (q := 24) (i := 5) D32_22 rfl rfl rfl ?_
      refine im_sipush (q := 27) D32_24 rfl ?_
      refine im_icmp (q := 30) (t := 44) D32_27 rfl hg1 (by decide) (fun hc5 => ?_) (fun hc5 => ?_)
      · exact (kJ9  (Or.inr ⟨(Int.not_le.mp hc3), (Int.not_lt.mp hc4), hc5⟩)).wk ⟨rfl, rfl, rfl, rfl, trivial⟩
      · replace hP := hP (Int.not_le.mp hc5)
        refine im_ld (q := 31) (i := 0) D32_30 rfl rfl rfl ?_
        refine im_gfR (q := 34) (b := 2069) D32_31 (im_fl cn_32 fl_1_9) sf_2068 rfl rfl tR_1_0 rfl ?_
        refine im_ld (q := 36) (i := 5) D32_34 rfl rfl rfl ?_
        obtain ⟨hg6, hP⟩ := hP
        refine im_rng (j := p5) sf_2069 hg6.1 hg6.2 (fun hr7 => ?_)
        refine im_bald (q := 37) D32_36 sf_2069 (Or.inl rfl) hg6.1 hg6.2 (by decide) rfl ?_
        refine im_sipush (q := 40) D32_37 rfl ?_
        refine im_iand (q := 41) D32_40 ?_
        refine im_goto (q := 44) (t := 45) D32_41 rfl ?_
        refine im_i2l (q := 46) D32_45 (xiand_r _ _) ?_
        refine im_lor (q := 47) D32_46 ?_
        refine im_st2 (q := 48) (i := 3) (L' := [some (.ref 2068), some (vI p1), some (vI p2), some (vL (xlor (xlshl p3 8) (xiand (M 2069 p5) 255))), none, some (vI p5)]) D32_47 (Or.inl ⟨_, rfl, rfl⟩) (Nat.le_of_ble_eq_true rfl) rfl ?_
        refine im_iinc (q := 51) (i := 5) (L' := [some (.ref 2068), some (vI p1), some (vI p2), some (vL (xlor (xlshl p3 8) (xiand (M 2069 p5) 255))), none, some (vI (p5 + 1))]) D32_48 rfl (Nat.le_of_ble_eq_true rfl) rfl ?_
        refine im_goto (q := 54) (t := 5) D32_51 rfl ?_
        exact hP.wk ⟨rfl, rfl, rfl, rfl, rfl, trivial⟩
set_option maxRecDepth 20000 in
set_option maxHeartbeats 4000000 in
theorem k_Journal_checkWithPlace_0 {g : im_g} {d : Nat} {e : im_E} {M : im_M} {K : im_K} {p0 p1 : Int} (hP : im_T g d 33 5 [none, some (vI p1), some (vI p0), some (vI 24)] [] e M K) : im_T g d 33 0 [some (vI p0), some (vI p1), none, none] [] e M K := by
  refine im_ld (q := 1) (i := 0) D33_0 rfl rfl rfl ?_
  refine im_st1 (q := 2) (i := 2) (L' := [some (vI p0), some (vI p1), some (vI p0), none]) D33_1 (Or.inl ⟨_, rfl, rfl⟩) (Nat.le_of_ble_eq_true rfl) rfl ?_
  refine im_bipush (q := 4) D33_2 rfl ?_
  refine im_st1 (q := 5) (i := 3) (L' := [some (vI p0), some (vI p1), some (vI p0), some (vI 24)]) D33_4 (Or.inl ⟨_, rfl, rfl⟩) (Nat.le_of_ble_eq_true rfl) rfl ?_
  exact hP.wk ⟨rfl, rfl, rfl, trivial⟩
set_option maxRecDepth 20000 in
set_option maxHeartbeats 4000000 in
theorem k_Journal_checkWithPlace_5 {g : im_g} {d : Nat} {e : im_E} {M : im_M} {K : im_K} {p1 p2 p3 : Int} (hd : 1 ≤ d) (hP : (im_i32 p3) ∧ ((p3 < 0 → K (.inl (some (vI p2))) e M) ∧ (0 ≤ p3 → im_T g (d - 1) 31 0 [some (vI p2), some (vI (xiushr p1 p3))] [] e M (im_ri (fun x4 e_ M3 => e = e_ ∧ im_T g d 33 5 [none, some (vI p1), some (vI x4), some (vI (p3 + (-8)))] [] e M3 K))))) : im_T g d 33 5 [none, some (vI p1), some (vI p2), some (vI p3)] [] e M K := by
  refine im_ld (q := 6) (i := 3) D33_5 rfl rfl rfl ?_
  obtain ⟨hg1, hP⟩ := hP
  refine im_ifc (q := 9) (t := 23) D33_6 rfl hg1 (fun hc2 => ?_) (fun hc2 => ?_)
  · replace hP := hP.1 hc2
    refine im_ld (q := 24) (i := 2) D33_23 rfl rfl rfl ?_
    exact im_iret (q := 25) D33_24 rfl hP
  · replace hP := hP.2 (Int.not_lt.mp hc2)
    refine im_ld (q := 10) (i := 2) D33_9 rfl rfl rfl ?_
    refine im_ld (q := 11) (i := 1) D33_10 rfl rfl rfl ?_
    refine im_ld (q := 12) (i := 3) D33_11 rfl rfl rfl ?_
    refine im_iushr (q := 13) D33_12 ?_
    refine im_callS (q := 16) (kd := 0) (y := 31) (n := 2) (z := 1) (vs := [vI p2, vI (xiushr p1 p3)]) (r := []) (L2 := [some (vI p2), some (vI (xiushr p1 p3))]) D33_13 rfl (im_cal cn_33 cl_1_61) (Or.inl rfl) rfl rfl rfl rfl rfl hd ⟨rfl, rfl, trivial⟩ ?_
    refine hP.mono ?_
    rintro _ e5 M3 ⟨x4, rfl, rfl, hP⟩
    refine im_bkS ?_
    refine im_st1 (q := 17) (i := 2) (L' := [none, some (vI p1), some (vI x4), some (vI p3)]) D33_16 (Or.inl ⟨_, rfl, rfl⟩) (Nat.le_of_ble_eq_true rfl) rfl ?_
    refine im_iinc (q := 20) (i := 3) (L' := [none, some (vI p1), some (vI x4), some (vI (p3 + (-8)))]) D33_17 rfl (Nat.le_of_ble_eq_true rfl) rfl ?_
    refine im_goto (q := 23) (t := 5) D33_20 rfl ?_
    exact hP.wk ⟨rfl, rfl, rfl, trivial⟩
set_option maxRecDepth 20000 in
set_option maxHeartbeats 4000000 in
theorem k_Journal_textInto_0 {g : im_g} {d : Nat} {e : im_E} {M : im_M} {K : im_K} {p1 n1 : Nat} (hs1 : (im_sh0 ++ e)[p1]? = some (0, n1, [])) (hn1 : n1 ≤ 2147483647) (hd : 1 ≤ d) (hP : im_T g (d - 1) 27 0 [some (.ref 2068)] [] e M (im_ri (fun x3 e_ M2 => e = e_ ∧ (im_i32 x3) ∧ ((8 < x3 → im_T g (d - 1) 26 0 [some (.ref 2068)] [] e M2 (im_ri (fun x8 e_ M7 => e = e_ ∧ im_T g d 34 50 [some (.ref 2068), some (.ref p1), none, some (vI (((M2 2068 1) + x8) - 4)), some (vI 0), some (vI (((M 2068 1) + 3) + (8 * (xrec 0))))] [] e M7 K))) ∧ (x3 ≤ 8 → im_T g (d - 1) 27 0 [some (.ref 2068)] [] e M2 (im_ri (fun x11 e_ M10 => e = e_ ∧ (0 ≤ x11 ∧ x11 < 9) ∧ im_T g (d - 1) 26 0 [some (.ref 2068)] [] e M10 (im_ri (fun x15 e_ M14 => e = e_ ∧ im_T g d 34 50 [some (.ref 2068), some (.ref p1), none, some (vI (((M10 2068 1) + x15) - 4)), some (vI 0), some (vI (((M 2068 1) + 3) + (8 * (xrec x11))))] [] e M14 K))))))))) : im_T g d 34 0 [some (.ref 2068), some (.ref p1), none, none, none, none] [] e M K := by
  refine im_ld (q := 1) (i := 0) D34_0 rfl rfl rfl ?_
  refine im_rng (j := 1) sf_2068 (by decide) (by decide) (fun hr1 => ?_)
  refine im_gfI (q := 4) D34_1 (im_fl cn_34 fl_1_19) sf_2068 rfl rfl tI_1_1 rfl ?_
  refine im_iconst (q := 5) D34_4 ?_
  refine im_iadd (q := 6) D34_5 ?_
  refine im_bipush (q := 8) D34_6 rfl ?_
  refine im_spc (q := 11) (st' := .float 100 :: _) rfl ?_
  refine im_ld (q := 12) (i := 0) D34_11 rfl rfl rfl ?_
  refine im_callV (q := 15) (kd := 1) (y := 27) (n := 0) (ci := 1) (a := 2068) (vs := [.ref 2068]) (r := [.float 100, vI 8, vI ((M 2068 1) + 3)]) (L2 := [some (.ref 2068)]) D34_12 (im_cal cn_34 cl_1_69) (Or.inl rfl) rfl sf_2068 rfl rfl rfl rfl hd ⟨rfl, trivial⟩ ?_
  refine hP.mono ?_
  rintro _ e18 M2 ⟨x3, rfl, rfl, hP⟩
  refine im_bkS ?_
  refine im_bipush (q := 17) D34_15 rfl ?_
  obtain ⟨hg4, hP⟩ := hP
  refine im_icmp (q := 20) (t := 27) D34_17 rfl hg4 (by decide) (fun hc5 => ?_) (fun hc5 => ?_)
  · replace hP := hP.1 hc5
    refine im_iconst (q := 28) D34_27 ?_
    refine im_recld (q := 29) D34_28 (by decide) (by decide) ?_
    refine im_imul (q := 30) D34_29 ?_
    refine im_iadd (q := 31) D34_30 ?_
    refine im_st1 (q := 32) (i := 2) (L' := [some (.ref 2068), some (.ref p1), some (vI (((M 2068 1) + 3) + (8 * (xrec 0)))), none, none, none]) D34_31 (Or.inl ⟨_, rfl, rfl⟩) (Nat.le_of_ble_eq_true rfl) rfl ?_
    refine im_ld (q := 33) (i := 0) D34_32 rfl rfl rfl ?_
    refine im_rng (j := 1) sf_2068 (by decide) (by decide) (fun hr6 => ?_)
    refine im_gfI (q := 36) D34_33 (im_fl cn_34 fl_1_19) sf_2068 rfl rfl tI_1_1 rfl ?_
    refine im_ld (q := 37) (i := 0) D34_36 rfl rfl rfl ?_
    refine im_callV (q := 40) (kd := 1) (y := 26) (n := 0) (ci := 1) (a := 2068) (vs := [.ref 2068]) (r := [vI (M2 2068 1)]) (L2 := [some (.ref 2068)]) D34_37 (im_cal cn_34 cl_1_66) (Or.inl rfl) rfl sf_2068 rfl rfl rfl rfl hd ⟨rfl, trivial⟩ ?_
    refine hP.mono ?_
    rintro _ e9 M7 ⟨x8, rfl, rfl, hP⟩
    refine im_bkS ?_
    refine im_iadd (q := 41) D34_40 ?_
    refine im_iconst (q := 42) D34_41 ?_
    refine im_isub (q := 43) D34_42 ?_
    refine im_st1 (q := 44) (i := 3) (L' := [some (.ref 2068), some (.ref p1), some (vI (((M 2068 1) + 3) + (8 * (xrec 0)))), some (vI (((M2 2068 1) + x8) - 4)), none, none]) D34_43 (Or.inl ⟨_, rfl, rfl⟩) (Nat.le_of_ble_eq_true rfl) rfl ?_
    refine im_iconst (q := 45) D34_44 ?_
    refine im_st1 (q := 47) (i := 4) (L' := [some (.ref 2068), some (.ref p1), some (vI (((M 2068 1) + 3) + (8 * (xrec 0)))), some (vI (((M2 2068 1) + x8) - 4)), some (vI 0), none]) D34_45 (Or.inr rfl) (Nat.le_of_ble_eq_true rfl) rfl ?_
    refine im_ld (q := 48) (i := 2) D34_47 rfl rfl rfl ?_
    refine im_st1 (q := 50) (i := 5) (L' := [some (.ref 2068), some (.ref p1), some (vI (((M 2068 1) + 3) + (8 * (xrec 0)))), some (vI (((M2 2068 1) + x8) - 4)), some (vI 0), some (vI (((M 2068 1) + 3) + (8 * (xrec 0))))]) D34_48 (Or.inr rfl) (Nat.le_of_ble_eq_true rfl) rfl ?_
    exact hP.wk ⟨rfl, rfl, rfl, rfl, rfl, trivial⟩
  · replace hP := hP.2 (Int.not_lt.mp hc5)
    refine im_ld (q := 21) (i := 0) D34_20 rfl rfl rfl ?_
    refine im_callV (q := 24) (kd := 1) (y := 27) (n := 0) (ci := 1) (a := 2068) (vs := [.ref 2068]) (r := [.float 100, vI 8, vI ((M 2068 1) + 3)]) (L2 := [some (.ref 2068)]) D34_21 (im_cal cn_34 cl_1_69) (Or.inl rfl) rfl sf_2068 rfl rfl rfl rfl hd ⟨rfl, trivial⟩ ?_
    refine hP.mono ?_
    rintro _ e17 M10 ⟨x11, rfl, rfl, hP⟩
    refine im_bkS ?_
    refine im_goto (q := 27) (t := 28) D34_24 rfl ?_
    obtain ⟨hg12, hP⟩ := hP
    refine im_recld (q := 29) D34_28 hg12.1 hg12.2 ?_
    refine im_imul (q := 30) D34_29 ?_
    refine im_iadd (q := 31) D34_30 ?_
    refine im_st1 (q := 32) (i := 2) (L' := [some (.ref 2068), some (.ref p1), some (vI (((M 2068 1) + 3) + (8 * (xrec x11)))), none, none, none]) D34_31 (Or.inl ⟨_, rfl, rfl⟩) (Nat.le_of_ble_eq_true rfl) rfl ?_
    refine im_ld (q := 33) (i := 0) D34_32 rfl rfl rfl ?_
    refine im_rng (j := 1) sf_2068 (by decide) (by decide) (fun hr13 => ?_)
    refine im_gfI (q := 36) D34_33 (im_fl cn_34 fl_1_19) sf_2068 rfl rfl tI_1_1 rfl ?_
    refine im_ld (q := 37) (i := 0) D34_36 rfl rfl rfl ?_
    refine im_callV (q := 40) (kd := 1) (y := 26) (n := 0) (ci := 1) (a := 2068) (vs := [.ref 2068]) (r := [vI (M10 2068 1)]) (L2 := [some (.ref 2068)]) D34_37 (im_cal cn_34 cl_1_66) (Or.inl rfl) rfl sf_2068 rfl rfl rfl rfl hd ⟨rfl, trivial⟩ ?_
    refine hP.mono ?_
    rintro _ e16 M14 ⟨x15, rfl, rfl, hP⟩
    refine im_bkS ?_
    refine im_iadd (q := 41) D34_40 ?_
    refine im_iconst (q := 42) D34_41 ?_
    refine im_isub (q := 43) D34_42 ?_
    refine im_st1 (q := 44) (i := 3) (L' := [some (.ref 2068), some (.ref p1), some (vI (((M 2068 1) + 3) + (8 * (xrec x11)))), some (vI (((M10 2068 1) + x15) - 4)), none, none]) D34_43 (Or.inl ⟨_, rfl, rfl⟩) (Nat.le_of_ble_eq_true rfl) rfl ?_
    refine im_iconst (q := 45) D34_44 ?_
    refine im_st1 (q := 47) (i := 4) (L' := [some (.ref 2068), some (.ref p1), some (vI (((M 2068 1) + 3) + (8 * (xrec x11)))), some (vI (((M10 2068 1) + x15) - 4)), some (vI 0), none]) D34_45 (Or.inr rfl) (Nat.le_of_ble_eq_true rfl) rfl ?_
    refine im_ld (q := 48) (i := 2) D34_47 rfl rfl rfl ?_
    refine im_st1 (q := 50) (i := 5) (L' := [some (.ref 2068), some (.ref p1), some (vI (((M 2068 1) + 3) + (8 * (xrec x11)))), some (vI (((M10 2068 1) + x15) - 4)), some (vI 0), some (vI (((M 2068 1) + 3) + (8 * (xrec x11))))]) D34_48 (Or.inr rfl) (Nat.le_of_ble_eq_true rfl) rfl ?_
    exact hP.wk ⟨rfl, rfl, rfl, rfl, rfl, trivial⟩
set_option maxRecDepth 20000 in
set_option maxHeartbeats 4000000 in
theorem k_Journal_textInto_50 {g : im_g} {d : Nat} {e : im_E} {M : im_M} {K : im_K} {p3 p4 p5 : Int} {p1 n1 : Nat} (hs1 : (im_sh0 ++ e)[p1]? = some (0, n1, [])) (hn1 : n1 ≤ 2147483647) (hP : (im_i32 p5) ∧ (im_i32 p3) ∧ ((((p5 < p3 → ((p5 < 16384 → (im_i32 p4) ∧ (im_i32 n1) ∧ ((p4 < n1 → (0 ≤ p5 ∧ p5 < 16384) ∧ (0 ≤ p4 ∧ p4 < n1) ∧ im_T g d 34 50 [some (.ref 2068), some (.ref p1), none, some (vI p3), some (vI (p4 + 1)), some (vI (p5 + 1))] [] e (im_u M p1 p4 ((M 2069 p5).bmod 256)) K))))))) ∧ ((((p3 ≤ p5)) ∨ ((p5 < p3) ∧ (16384 ≤ p5)) ∨ ((p5 < p3) ∧ (p5 < 16384) ∧ (n1 ≤ p4))) → K (.inl (some (vI p4))) e M))) : im_T g d 34 50 [some (.ref 2068), some (.ref p1), none, some (vI p3), some (vI p4), some (vI p5)] [] e M K := by
  refine im_ld (q := 52) (i := 5) D34_50 rfl rfl rfl ?_
  refine im_ld (q := 53) (i := 3) D34_52 rfl rfl rfl ?_
  obtain ⟨hg1, hP⟩ := hP
  obtain ⟨hg2, hP⟩ := hP
  obtain ⟨hP, hJ10⟩ := hP
  have kJ11 : (((p3 ≤ p5)) ∨ ((p5 < p3) ∧ (16384 ≤ p5)) ∨ ((p5 < p3) ∧ (p5 < 16384) ∧ (n1 ≤ p4))) → im_T g d 34 91 [none, none, none, none, some (vI p4), none] [] e M K := by
    intro  hx12
    have hP := hJ10  hx12
    refine im_ld (q := 93) (i := 4) D34_91 rfl rfl rfl ?_
    exact im_iret (q := 94) D34_93 rfl hP
  refine im_icmp (q := 56) (t := 91) D34_53 rfl hg1 hg2 (fun hc3 => ?_) (fun hc3 => ?_)
  · exact (kJ11  (Or.inl hc3)).wk ⟨rfl, trivial⟩
  · replace hP := hP (Int.not_le.mp hc3)
    refine im_ld (q := 58) (i := 5) D34_56 rfl rfl rfl ?_
    refine im_sipush (q := 61) D34_58 rfl ?_
    refine im_icmp (q := 64) (t := 91) D34_61 rfl hg1 (by decide) (fun hc4 => ?_) (fun hc4 => ?_)
    · exact (kJ11  (Or.inr (Or.inl ⟨(Int.not_le.mp hc3), hc4⟩))).wk ⟨rfl, trivial⟩
    · replace hP := hP (Int.not_le.mp hc4)
      refine im_ld (q := 66) (i := 4) D34_64 rfl rfl rfl ?_
      refine im_ld (q := 67) (i := 1) D34_66 rfl rfl rfl ?_
      refine im_alen (q := 68) D34_67 hs1 (by decide) ?_
      obtain ⟨hg5, hP⟩ := hP
      obtain ⟨hg6, hP⟩ := hP
      refine im_icmp (q := 71) (t := 91) D34_68 rfl hg5 hg6 (fun hc7 => ?_) (fun hc7 => ?_)
      · exact (kJ11  (Or.inr (Or.inr ⟨(Int.not_le.mp hc3), (Int.not_le.mp hc4), hc7⟩))).wk ⟨rfl, trivial⟩
      · replace hP := hP (Int.not_le.mp hc7)
        refine im_ld (q := 72) (i := 1) D34_71 rfl rfl rfl ?_
        refine im_ld (q := 74) (i := 4) D34_72 rfl rfl rfl ?_
        refine im_ld (q := 75) (i := 0) D34_74 rfl rfl rfl ?_
        refine im_gfR (q := 78) (b := 2069) D34_75 (im_fl cn_34 fl_1_9) sf_2068 rfl rfl tR_1_0 rfl ?_
        refine im_ld (q := 80) (i := 5) D34_78 rfl rfl rfl ?_
        obtain ⟨hg8, hP⟩ := hP
        refine im_rng (j := p5) sf_2069 hg8.1 hg8.2 (fun hr9 => ?_)
        refine im_bald (q := 81) D34_80 sf_2069 (Or.inl rfl) hg8.1 hg8.2 (by decide) rfl ?_
        obtain ⟨hg13, hP⟩ := hP
        refine im_bast (q := 82) D34_81 hs1 hg13.1 hg13.2 hn1 ?_
        refine im_iinc (q := 85) (i := 4) (L' := [some (.ref 2068), some (.ref p1), none, some (vI p3), some (vI (p4 + 1)), some (vI p5)]) D34_82 rfl (Nat.le_of_ble_eq_true rfl) rfl ?_
        refine im_iinc (q := 88) (i := 5) (L' := [some (.ref 2068), some (.ref p1), none, some (vI p3), some (vI (p4 + 1)), some (vI (p5 + 1))]) D34_85 rfl (Nat.le_of_ble_eq_true rfl) rfl ?_
        refine im_goto (q := 91) (t := 50) D34_88 rfl ?_
        exact hP.wk ⟨rfl, rfl, rfl, rfl, rfl, trivial⟩
set_option maxRecDepth 20000 in
set_option maxHeartbeats 4000000 in
theorem k_Journal_numberAt_0 {g : im_g} {d : Nat} {e : im_E} {M : im_M} {K : im_K} {p1 : Int} (hd : 1 ≤ d) (hP : im_T g (d - 1) 32 0 [some (.ref 2068), some (vI (((M 2068 1) + 3) + (8 * p1))), some (vI 8), none, none, none] [] e M (im_rl (fun x3 e_ M2 => e = e_ ∧ K (.inl (some (vL x3))) e M2))) : im_T g d 35 0 [some (.ref 2068), some (vI p1)] [] e M K := by
  refine im_ld (q := 1) (i := 0) D35_0 rfl rfl rfl ?_
  refine im_ld (q := 2) (i := 0) D35_1 rfl rfl rfl ?_
  refine im_rng (j := 1) sf_2068 (by decide) (by decide) (fun hr1 => ?_)
  refine im_gfI (q := 5) D35_2 (im_fl cn_35 fl_1_19) sf_2068 rfl rfl tI_1_1 rfl ?_
  refine im_iconst (q := 6) D35_5 ?_
  refine im_iadd (q := 7) D35_6 ?_
  refine im_bipush (q := 9) D35_7 rfl ?_
  refine im_ld (q := 10) (i := 1) D35_9 rfl rfl rfl ?_
  refine im_imul (q := 11) D35_10 ?_
  refine im_iadd (q := 12) D35_11 ?_
  refine im_bipush (q := 14) D35_12 rfl ?_
  refine im_callV (q := 17) (kd := 1) (y := 32) (n := 2) (ci := 1) (a := 2068) (vs := [.ref 2068, vI (((M 2068 1) + 3) + (8 * p1)), vI 8]) (r := []) (L2 := [some (.ref 2068), some (vI (((M 2068 1) + 3) + (8 * p1))), some (vI 8), none, none, none]) D35_14 (im_cal cn_35 cl_1_76) (Or.inl rfl) rfl sf_2068 rfl rfl rfl rfl hd ⟨rfl, rfl, rfl, trivial⟩ ?_
  refine hP.mono ?_
  rintro _ e4 M2 ⟨x3, rfl, rfl, hP⟩
  refine im_bkS ?_
  exact im_lret (q := 18) D35_17 rfl hP
set_option maxRecDepth 20000 in
set_option maxHeartbeats 4000000 in
theorem k_P_keepText_0 {g : im_g} {d : Nat} {e : im_E} {M : im_M} {K : im_K} {p1 p3 : Int} (hd : 1 ≤ d) (hP : (im_i64 p1) ∧ ((((0 ≤ p1 → ((p1 < 16 → (0 ≤ p1 ∧ p1 < 16) ∧ (((M 28 p1) = (-1) → im_T g (d - 1) 37 0 [some (.ref 23), some (.ref 1), some (vI p3), none, none] [] e M (im_ri (fun x11 e_ M10 => e = e_ ∧ im_T g (d - 1) 76 0 [some (.ref 2), some (vI x11)] [] e M10 (im_ri (fun x13 e_ M12 => e = e_ ∧ (im_i32 x13) ∧ ((x13 = 0 → (im_i32 ((M12 13 8) + (M12 23 7))) ∧ ((((M12 13 8) + (M12 23 7)) ≤ 4000 → im_T g (d - 1) 77 0 [some (.ref 0), some (vI 1), some (vL p1), none, some (vL 0), none, some (vL 0), none, some (vI p3)] [] e M12 (im_ri (fun x21 e_ M20 => e = e_ ∧ (im_i32 x21) ∧ ((x21 = 0 → im_T g (d - 1) 83 0 [some (.ref 23)] [] e (im_u M20 28 p1 (M20 13 8)) (im_r0 (fun  e_ M25 => e = e_ ∧ K (.inl (some (vI (M25 23 7)))) e M25))) ∧ (¬ x21 = 0 → K (.inl (some (vI x21))) e M20))))) ∧ (4000 < ((M12 13 8) + (M12 23 7)) → K (.inl (some (vI (-9)))) e M12))) ∧ (¬ x13 = 0 → K (.inl (some (vI (-1)))) e M12))))))) ∧ (¬ (M 28 p1) = (-1) → K (.inl (some (vI (-103)))) e M))))))) ∧ ((((p1 < 0)) ∨ ((0 ≤ p1) ∧ (16 ≤ p1))) → K (.inl (some (vI (-101)))) e M))) : im_T g d 36 0 [some (.ref 0), some (vL p1), none, some (vI p3), none] [] e M K := by
  refine im_ld (q := 1) (i := 1) D36_0 rfl rfl rfl ?_
  refine im_lconst (q := 2) (z := 0) D36_1 rfl ?_
  obtain ⟨hg1, hP⟩ := hP
  obtain ⟨hP, hJ7⟩ := hP
  have kJ8 : (((p1 < 0)) ∨ ((0 ≤ p1) ∧ (16 ≤ p1))) → im_T g d 36 14 [none, none, none, none, none] [] e M K := by
    intro  hx9
    have hP := hJ7  hx9
    refine im_bipush (q := 16) D36_14 rfl ?_
    exact im_iret (q := 17) D36_16 rfl hP
  refine im_lif (q := 3) (q2 := 6) (t := 14) D36_2 D36_3 rfl hg1 (by decide) (fun hc2 => ?_) (fun hc2 => ?_)
  · exact (kJ8  (Or.inl hc2)).wk trivial
  · replace hP := hP (Int.not_lt.mp hc2)
    refine im_ld (q := 7) (i := 1) D36_6 rfl rfl rfl ?_
    refine im_ldc2 (q := 10) (n := 16) D36_7 rfl ?_
    refine im_lif (q := 11) (q2 := 14) (t := 17) D36_10 D36_11 rfl hg1 (by decide) (fun hc3 => ?_) (fun hc3 => ?_)
    · replace hP := hP hc3
      refine im_ld (q := 18) (i := 0) D36_17 rfl rfl rfl ?_
      refine im_gfR (q := 21) (b := 28) D36_18 (im_fl cn_36 fl_11_49) sf_0 rfl rfl tR_11_6 rfl ?_
      refine im_ld (q := 22) (i := 1) D36_21 rfl rfl rfl ?_
      refine im_l2i (q := 23) D36_22 ?_
      obtain ⟨hg4, hP⟩ := hP
      refine im_rng (j := p1) sf_28 hg4.1 hg4.2 (fun hr5 => ?_)
      refine im_iald (q := 24) D36_23 sf_28 hg4.1 hg4.2 (by decide) rfl ?_
      refine im_iconst (q := 25) D36_24 ?_
      refine im_icmp (q := 28) (t := 31) D36_25 rfl hr5 (by decide) (fun hc6 => ?_) (fun hc6 => ?_)
      · replace hP := hP.1 hc6
        refine im_ld (q := 32) (i := 0) D36_31 rfl rfl rfl ?_
        refine im_gfR (q := 35) (b := 2) D36_32 (im_fl cn_36 fl_11_16) sf_0 rfl rfl tR_11_2 rfl ?_
        refine im_ld (q := 36) (i := 0) D36_35 rfl rfl rfl ?_
        refine im_gfR (q := 39) (b := 23) D36_36 (im_fl cn_36 fl_11_45) sf_0 rfl rfl tR_11_5 rfl ?_
        refine im_ld (q := 40) (i := 0) D36_39 rfl rfl rfl ?_
        refine im_gfR (q := 43) (b := 1) D36_40 (im_fl cn_36 fl_11_9) sf_0 rfl rfl tR_11_0 rfl ?_
        refine im_ld (q := 44) (i := 3) D36_43 rfl rfl rfl ?_
        refine im_callV (q := 47) (kd := 1) (y := 37) (n := 2) (ci := 4) (a := 23) (vs := [.ref 23, .ref 1, vI p3]) (r := [.ref 2]) (L2 := [some (.ref 23), some (.ref 1), some (vI p3), none, none]) D36_44 (im_cal cn_36 cl_11_216) (Or.inl rfl) rfl sf_23 rfl rfl rfl rfl hd ⟨rfl, rfl, rfl, trivial⟩ ?_
        refine hP.mono ?_
        rintro _ e30 M10 ⟨x11, rfl, rfl, hP⟩
        refine im_bkS ?_
        refine im_callV (q := 50) (kd := 1) (y := 76) (n := 1) (ci := 6) (a := 2) (vs := [.ref 2, vI x11]) (r := []) (L2 := [some (.ref 2), some (vI x11)]) D36_47 (im_cal cn_36 cl_11_220) (Or.inl rfl) rfl sf_2 rfl rfl rfl rfl hd ⟨rfl, rfl, trivial⟩ ?_
        refine hP.mono ?_
        rintro _ e29 M12 ⟨x13, rfl, rfl, hP⟩
        refine im_bkS ?_
        obtain ⟨hg14, hP⟩ := hP
        refine im_ifc (q := 53) (t := 55) D36_50 rfl hg14 (fun hc15 => ?_) (fun hc15 => ?_)
        · replace hP := hP.1 hc15
          refine im_ld (q := 56) (i := 0) D36_55 rfl rfl rfl ?_
          refine im_gfR (q := 59) (b := 13) D36_56 (im_fl cn_36 fl_11_36) sf_0 rfl rfl tR_11_4 rfl ?_
          refine im_rng (j := 8) sf_13 (by decide) (by decide) (fun hr16 => ?_)
          refine im_gfI (q := 62) D36_59 (im_fl cn_36 fl_11_224) sf_13 rfl rfl tI_5_8 rfl ?_
          refine im_ld (q := 63) (i := 0) D36_62 rfl rfl rfl ?_
          refine im_gfR (q := 66) (b := 23) D36_63 (im_fl cn_36 fl_11_45) sf_0 rfl rfl tR_11_5 rfl ?_
          refine im_rng (j := 7) sf_23 (by decide) (by decide) (fun hr17 => ?_)
          refine im_gfI (q := 69) D36_66 (im_fl cn_36 fl_11_225) sf_23 rfl rfl tI_4_7 rfl ?_
          refine im_iadd (q := 70) D36_69 ?_
          refine im_sipush (q := 73) D36_70 rfl ?_
          obtain ⟨hg18, hP⟩ := hP
          refine im_icmp (q := 76) (t := 79) D36_73 rfl hg18 (by decide) (fun hc19 => ?_) (fun hc19 => ?_)
          · replace hP := hP.1 hc19
            refine im_ld (q := 80) (i := 0) D36_79 rfl rfl rfl ?_
            refine im_iconst (q := 81) D36_80 ?_
            refine im_ld (q := 82) (i := 1) D36_81 rfl rfl rfl ?_
            refine im_lconst (q := 83) (z := 0) D36_82 rfl ?_
            refine im_lconst (q := 84) (z := 0) D36_83 rfl ?_
            refine im_ld (q := 85) (i := 3) D36_84 rfl rfl rfl ?_
            refine im_callV (q := 88) (kd := 1) (y := 77) (n := 5) (ci := 11) (a := 0) (vs := [.ref 0, vI 1, vL p1, vL 0, vL 0, vI p3]) (r := []) (L2 := [some (.ref 0), some (vI 1), some (vL p1), none, some (vL 0), none, some (vL 0), none, some (vI p3)]) D36_85 (im_cal cn_36 cl_11_228) (Or.inl rfl) rfl sf_0 rfl rfl rfl rfl hd ⟨rfl, rfl, rfl, rfl, rfl, rfl, trivial⟩ ?_
            refine hP.mono ?_
            rintro _ e28 M20 ⟨x21, rfl, rfl, hP⟩
            refine im_bkS ?_
            refine im_st1 (q := 90) (i := 4) (L' := [some (.ref 0), some (vL p1), none, some (vI p3), some (vI x21)]) D36_88 (Or.inr rfl) (Nat.le_of_ble_eq_true rfl) rfl ?_
            refine im_ld (q := 92) (i := 4) D36_90 rfl rfl rfl ?_
            obtain ⟨hg22, hP⟩ := hP
            refine im_ifc (q := 95) (t := 98) D36_92 rfl hg22 (fun hc23 => ?_) (fun hc23 => ?_)
            · replace hP := hP.1 hc23
              refine im_ld (q := 99) (i := 0) D36_98 rfl rfl rfl ?_
              refine im_gfR (q := 102) (b := 28) D36_99 (im_fl cn_36 fl_11_49) sf_0 rfl rfl tR_11_6 rfl ?_
              refine im_ld (q := 103) (i := 1) D36_102 rfl rfl rfl ?_
              refine im_l2i (q := 104) D36_103 ?_
              refine im_ld (q := 105) (i := 0) D36_104 rfl rfl rfl ?_
              refine im_gfR (q := 108) (b := 13) D36_105 (im_fl cn_36 fl_11_36) sf_0 rfl rfl tR_11_4 rfl ?_
              refine im_rng (j := 8) sf_13 (by decide) (by decide) (fun hr24 => ?_)
              refine im_gfI (q := 111) D36_108 (im_fl cn_36 fl_11_224) sf_13 rfl rfl tI_5_8 rfl ?_
              refine im_iast (q := 112) D36_111 sf_28 hg4.1 hg4.2 (by decide) hr24 ?_
              refine im_ld (q := 113) (i := 0) D36_112 rfl rfl rfl ?_
              refine im_gfR (q := 116) (b := 23) D36_113 (im_fl cn_36 fl_11_45) sf_0 rfl rfl tR_11_5 rfl ?_
              refine im_callV (q := 119) (kd := 1) (y := 83) (n := 0) (ci := 4) (a := 23) (vs := [.ref 23]) (r := []) (L2 := [some (.ref 23)]) D36_116 (im_cal cn_36 cl_11_232) (Or.inl rfl) rfl sf_23 rfl rfl rfl rfl hd ⟨rfl, trivial⟩ ?_
              refine hP.mono ?_
              rintro _ e27 M25 ⟨rfl, rfl, hP⟩
              refine im_bkN ?_
              refine im_ld (q := 120) (i := 0) D36_119 rfl rfl rfl ?_
              refine im_gfR (q := 123) (b := 23) D36_120 (im_fl cn_36 fl_11_45) sf_0 rfl rfl tR_11_5 rfl ?_
              refine im_rng (j := 7) sf_23 (by decide) (by decide) (fun hr26 => ?_)
              refine im_gfI (q := 126) D36_123 (im_fl cn_36 fl_11_225) sf_23 rfl rfl tI_4_7 rfl ?_
              exact im_iret (q := 127) D36_126 rfl hP
            · replace hP := hP.2 hc23
              refine im_ld (q := 97) (i := 4) D36_95 rfl rfl rfl ?_
              exact im_iret (q := 98) D36_97 rfl hP
          · replace hP := hP.2 (Int.not_le.mp hc19)
            refine im_bipush (q := 78) D36_76 rfl ?_
            exact im_iret (q := 79) D36_78 rfl hP
        · replace hP := hP.2 hc15
          refine im_iconst (q := 54) D36_53 ?_
          exact im_iret (q := 55) D36_54 rfl hP
      · replace hP := hP.2 hc6
        refine im_bipush (q := 30) D36_28 rfl ?_
        exact im_iret (q := 31) D36_30 rfl hP
    · exact (kJ8  (Or.inr ⟨(Int.not_lt.mp hc2), (Int.not_lt.mp hc3)⟩)).wk trivial

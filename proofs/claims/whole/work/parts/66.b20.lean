/-! blocks of the reference -/
theorem D449_0 {g : im_g} : im_D g 449 0 (.lload_n 2) 1 := im_D.of (by decide +kernel)
theorem D449_1 {g : im_g} : im_D g 449 1 (.invokestatic 1162) 4 := im_D.of (by decide +kernel)
theorem D449_4 {g : im_g} : im_D g 449 4 (.istore 8) 6 := im_D.of (by decide +kernel)
theorem D449_6 {g : im_g} : im_D g 449 6 (.iconst 0) 7 := im_D.of (by decide +kernel)
theorem D449_7 {g : im_g} : im_D g 449 7 (.istore 9) 9 := im_D.of (by decide +kernel)
theorem D449_9 {g : im_g} : im_D g 449 9 (.iload_n 1) 10 := im_D.of (by decide +kernel)
theorem D449_10 {g : im_g} : im_D g 449 10 (.tableswitch 297 1 7 #[42, 70, 118, 162, 209, 239, 271]) 11 := im_D.of (by decide +kernel)
theorem D449_52 {g : im_g} : im_D g 449 52 (.aload_n 0) 53 := im_D.of (by decide +kernel)
theorem D449_53 {g : im_g} : im_D g 449 53 (.iload 8) 55 := im_D.of (by decide +kernel)
theorem D449_55 {g : im_g} : im_D g 449 55 (.invokevirtual 737) 58 := im_D.of (by decide +kernel)
theorem D449_58 {g : im_g} : im_D g 449 58 (.istore 9) 60 := im_D.of (by decide +kernel)
theorem D449_60 {g : im_g} : im_D g 449 60 (.iload 9) 62 := im_D.of (by decide +kernel)
theorem D449_62 {g : im_g} : im_D g 449 62 (.ifCond .ne 16) 65 := im_D.of (by decide +kernel)
theorem D449_65 {g : im_g} : im_D g 449 65 (.aload_n 0) 66 := im_D.of (by decide +kernel)
theorem D449_66 {g : im_g} : im_D g 449 66 (.iload 8) 68 := im_D.of (by decide +kernel)
theorem D449_68 {g : im_g} : im_D g 449 68 (.invokevirtual 744) 71 := im_D.of (by decide +kernel)
theorem D449_71 {g : im_g} : im_D g 449 71 (.ifCond .le 7) 74 := im_D.of (by decide +kernel)
theorem D449_74 {g : im_g} : im_D g 449 74 (.iconst 1) 75 := im_D.of (by decide +kernel)
theorem D449_75 {g : im_g} : im_D g 449 75 (.goto 4) 78 := im_D.of (by decide +kernel)
theorem D449_78 {g : im_g} : im_D g 449 78 (.iconst 0) 79 := im_D.of (by decide +kernel)
theorem D449_79 {g : im_g} : im_D g 449 79 (.ireturn) 80 := im_D.of (by decide +kernel)
theorem D449_80 {g : im_g} : im_D g 449 80 (.iload 8) 82 := im_D.of (by decide +kernel)
theorem D449_82 {g : im_g} : im_D g 449 82 (.iconst (-1)) 83 := im_D.of (by decide +kernel)
theorem D449_83 {g : im_g} : im_D g 449 83 (.if_icmp .eq 17) 86 := im_D.of (by decide +kernel)
theorem D449_86 {g : im_g} : im_D g 449 86 (.aload_n 0) 87 := im_D.of (by decide +kernel)
theorem D449_87 {g : im_g} : im_D g 449 87 (.getfield 106) 90 := im_D.of (by decide +kernel)
theorem D449_90 {g : im_g} : im_D g 449 90 (.iload 8) 92 := im_D.of (by decide +kernel)
theorem D449_92 {g : im_g} : im_D g 449 92 (.baload) 93 := im_D.of (by decide +kernel)
theorem D449_93 {g : im_g} : im_D g 449 93 (.ifCond .eq 7) 96 := im_D.of (by decide +kernel)
theorem D449_96 {g : im_g} : im_D g 449 96 (.iconst 0) 97 := im_D.of (by decide +kernel)
theorem D449_97 {g : im_g} : im_D g 449 97 (.goto 5) 100 := im_D.of (by decide +kernel)
theorem D449_100 {g : im_g} : im_D g 449 100 (.bipush (-101)) 102 := im_D.of (by decide +kernel)
theorem D449_102 {g : im_g} : im_D g 449 102 (.istore 9) 104 := im_D.of (by decide +kernel)
theorem D449_104 {g : im_g} : im_D g 449 104 (.iload 9) 106 := im_D.of (by decide +kernel)
theorem D449_106 {g : im_g} : im_D g 449 106 (.ifCond .ne 11) 109 := im_D.of (by decide +kernel)
theorem D449_109 {g : im_g} : im_D g 449 109 (.aload_n 0) 110 := im_D.of (by decide +kernel)
theorem D449_110 {g : im_g} : im_D g 449 110 (.getfield 106) 113 := im_D.of (by decide +kernel)
theorem D449_113 {g : im_g} : im_D g 449 113 (.iload 8) 115 := im_D.of (by decide +kernel)
theorem D449_115 {g : im_g} : im_D g 449 115 (.iconst 0) 116 := im_D.of (by decide +kernel)
theorem D449_116 {g : im_g} : im_D g 449 116 (.bastore) 117 := im_D.of (by decide +kernel)
theorem D449_117 {g : im_g} : im_D g 449 117 (.iload 9) 119 := im_D.of (by decide +kernel)
theorem D449_119 {g : im_g} : im_D g 449 119 (.ifCond .ne 7) 122 := im_D.of (by decide +kernel)
theorem D449_122 {g : im_g} : im_D g 449 122 (.iconst 1) 123 := im_D.of (by decide +kernel)
theorem D449_123 {g : im_g} : im_D g 449 123 (.goto 4) 126 := im_D.of (by decide +kernel)
theorem D449_126 {g : im_g} : im_D g 449 126 (.iconst 0) 127 := im_D.of (by decide +kernel)
theorem D449_127 {g : im_g} : im_D g 449 127 (.ireturn) 128 := im_D.of (by decide +kernel)
theorem D449_128 {g : im_g} : im_D g 449 128 (.aload_n 0) 129 := im_D.of (by decide +kernel)
theorem D449_129 {g : im_g} : im_D g 449 129 (.iload 8) 131 := im_D.of (by decide +kernel)
theorem D449_131 {g : im_g} : im_D g 449 131 (.lload 4) 133 := im_D.of (by decide +kernel)
theorem D449_133 {g : im_g} : im_D g 449 133 (.invokestatic 1162) 136 := im_D.of (by decide +kernel)
theorem D449_136 {g : im_g} : im_D g 449 136 (.lload 6) 138 := im_D.of (by decide +kernel)
theorem D449_138 {g : im_g} : im_D g 449 138 (.invokevirtual 832) 141 := im_D.of (by decide +kernel)
theorem D449_141 {g : im_g} : im_D g 449 141 (.istore 9) 143 := im_D.of (by decide +kernel)
theorem D449_143 {g : im_g} : im_D g 449 143 (.iload 9) 145 := im_D.of (by decide +kernel)
theorem D449_145 {g : im_g} : im_D g 449 145 (.ifCond .ne 16) 148 := im_D.of (by decide +kernel)
theorem D449_148 {g : im_g} : im_D g 449 148 (.aload_n 0) 149 := im_D.of (by decide +kernel)
theorem D449_149 {g : im_g} : im_D g 449 149 (.iload 8) 151 := im_D.of (by decide +kernel)
theorem D449_151 {g : im_g} : im_D g 449 151 (.lload 4) 153 := im_D.of (by decide +kernel)
theorem D449_153 {g : im_g} : im_D g 449 153 (.invokestatic 1162) 156 := im_D.of (by decide +kernel)
theorem D449_156 {g : im_g} : im_D g 449 156 (.lload 6) 158 := im_D.of (by decide +kernel)
theorem D449_158 {g : im_g} : im_D g 449 158 (.invokevirtual 836) 161 := im_D.of (by decide +kernel)
theorem D449_161 {g : im_g} : im_D g 449 161 (.iload 9) 163 := im_D.of (by decide +kernel)
theorem D449_163 {g : im_g} : im_D g 449 163 (.ifCond .ne 7) 166 := im_D.of (by decide +kernel)
theorem D449_166 {g : im_g} : im_D g 449 166 (.iconst 1) 167 := im_D.of (by decide +kernel)
theorem D449_167 {g : im_g} : im_D g 449 167 (.goto 4) 170 := im_D.of (by decide +kernel)
theorem D449_170 {g : im_g} : im_D g 449 170 (.iconst 0) 171 := im_D.of (by decide +kernel)
theorem D449_171 {g : im_g} : im_D g 449 171 (.ireturn) 172 := im_D.of (by decide +kernel)
theorem D449_172 {g : im_g} : im_D g 449 172 (.iload 8) 174 := im_D.of (by decide +kernel)
theorem D449_174 {g : im_g} : im_D g 449 174 (.iconst (-1)) 175 := im_D.of (by decide +kernel)
theorem D449_175 {g : im_g} : im_D g 449 175 (.if_icmp .eq 16) 178 := im_D.of (by decide +kernel)
theorem D449_178 {g : im_g} : im_D g 449 178 (.aload_n 0) 179 := im_D.of (by decide +kernel)
theorem D449_179 {g : im_g} : im_D g 449 179 (.iload 8) 181 := im_D.of (by decide +kernel)
theorem D449_181 {g : im_g} : im_D g 449 181 (.invokevirtual 843) 184 := im_D.of (by decide +kernel)
theorem D449_184 {g : im_g} : im_D g 449 184 (.ifCond .eq 7) 187 := im_D.of (by decide +kernel)
theorem D449_187 {g : im_g} : im_D g 449 187 (.iconst 0) 188 := im_D.of (by decide +kernel)
theorem D449_188 {g : im_g} : im_D g 449 188 (.goto 5) 191 := im_D.of (by decide +kernel)
theorem D449_191 {g : im_g} : im_D g 449 191 (.bipush (-101)) 193 := im_D.of (by decide +kernel)
theorem D449_193 {g : im_g} : im_D g 449 193 (.istore 9) 195 := im_D.of (by decide +kernel)
theorem D449_195 {g : im_g} : im_D g 449 195 (.iload 9) 197 := im_D.of (by decide +kernel)
theorem D449_197 {g : im_g} : im_D g 449 197 (.ifCond .ne 11) 200 := im_D.of (by decide +kernel)
theorem D449_200 {g : im_g} : im_D g 449 200 (.aload_n 0) 201 := im_D.of (by decide +kernel)
theorem D449_201 {g : im_g} : im_D g 449 201 (.getfield 136) 204 := im_D.of (by decide +kernel)
theorem D449_204 {g : im_g} : im_D g 449 204 (.iload 8) 206 := im_D.of (by decide +kernel)
theorem D449_206 {g : im_g} : im_D g 449 206 (.iconst 0) 207 := im_D.of (by decide +kernel)
theorem D449_207 {g : im_g} : im_D g 449 207 (.bastore) 208 := im_D.of (by decide +kernel)
theorem D449_208 {g : im_g} : im_D g 449 208 (.iload 9) 210 := im_D.of (by decide +kernel)
theorem D449_210 {g : im_g} : im_D g 449 210 (.ifCond .ne 7) 213 := im_D.of (by decide +kernel)
theorem D449_213 {g : im_g} : im_D g 449 213 (.iconst 1) 214 := im_D.of (by decide +kernel)
theorem D449_214 {g : im_g} : im_D g 449 214 (.goto 4) 217 := im_D.of (by decide +kernel)
theorem D449_217 {g : im_g} : im_D g 449 217 (.iconst 0) 218 := im_D.of (by decide +kernel)
theorem D449_218 {g : im_g} : im_D g 449 218 (.ireturn) 219 := im_D.of (by decide +kernel)
theorem D449_219 {g : im_g} : im_D g 449 219 (.aload_n 0) 220 := im_D.of (by decide +kernel)
theorem D449_220 {g : im_g} : im_D g 449 220 (.lload_n 2) 221 := im_D.of (by decide +kernel)
theorem D449_221 {g : im_g} : im_D g 449 221 (.lload 4) 223 := im_D.of (by decide +kernel)
theorem D449_223 {g : im_g} : im_D g 449 223 (.invokevirtual 1083) 226 := im_D.of (by decide +kernel)
theorem D449_226 {g : im_g} : im_D g 449 226 (.istore 9) 228 := im_D.of (by decide +kernel)
theorem D449_228 {g : im_g} : im_D g 449 228 (.iload 9) 230 := im_D.of (by decide +kernel)
theorem D449_230 {g : im_g} : im_D g 449 230 (.ifCond .ne 17) 233 := im_D.of (by decide +kernel)
theorem D449_233 {g : im_g} : im_D g 449 233 (.aload_n 0) 234 := im_D.of (by decide +kernel)
theorem D449_234 {g : im_g} : im_D g 449 234 (.lload_n 2) 235 := im_D.of (by decide +kernel)
theorem D449_235 {g : im_g} : im_D g 449 235 (.lload 4) 237 := im_D.of (by decide +kernel)
theorem D449_237 {g : im_g} : im_D g 449 237 (.invokevirtual 1086) 240 := im_D.of (by decide +kernel)
theorem D449_240 {g : im_g} : im_D g 449 240 (.ifCond .ne 7) 243 := im_D.of (by decide +kernel)
theorem D449_243 {g : im_g} : im_D g 449 243 (.iconst 1) 244 := im_D.of (by decide +kernel)
theorem D449_244 {g : im_g} : im_D g 449 244 (.goto 4) 247 := im_D.of (by decide +kernel)
theorem D449_247 {g : im_g} : im_D g 449 247 (.iconst 0) 248 := im_D.of (by decide +kernel)
theorem D449_248 {g : im_g} : im_D g 449 248 (.ireturn) 249 := im_D.of (by decide +kernel)
theorem D449_249 {g : im_g} : im_D g 449 249 (.aload_n 0) 250 := im_D.of (by decide +kernel)
theorem D449_250 {g : im_g} : im_D g 449 250 (.iload 8) 252 := im_D.of (by decide +kernel)
theorem D449_252 {g : im_g} : im_D g 449 252 (.lload 4) 254 := im_D.of (by decide +kernel)
theorem D449_254 {g : im_g} : im_D g 449 254 (.lload 6) 256 := im_D.of (by decide +kernel)
theorem D449_256 {g : im_g} : im_D g 449 256 (.invokevirtual 1062) 259 := im_D.of (by decide +kernel)
theorem D449_259 {g : im_g} : im_D g 449 259 (.istore 9) 261 := im_D.of (by decide +kernel)
theorem D449_261 {g : im_g} : im_D g 449 261 (.iload 9) 263 := im_D.of (by decide +kernel)
theorem D449_263 {g : im_g} : im_D g 449 263 (.ifCond .ne 16) 266 := im_D.of (by decide +kernel)
theorem D449_266 {g : im_g} : im_D g 449 266 (.aload_n 0) 267 := im_D.of (by decide +kernel)
theorem D449_267 {g : im_g} : im_D g 449 267 (.iload 8) 269 := im_D.of (by decide +kernel)
theorem D449_269 {g : im_g} : im_D g 449 269 (.invokevirtual 1066) 272 := im_D.of (by decide +kernel)
theorem D449_272 {g : im_g} : im_D g 449 272 (.ifCond .ne 7) 275 := im_D.of (by decide +kernel)
theorem D449_275 {g : im_g} : im_D g 449 275 (.iconst 1) 276 := im_D.of (by decide +kernel)
theorem D449_276 {g : im_g} : im_D g 449 276 (.goto 4) 279 := im_D.of (by decide +kernel)
theorem D449_279 {g : im_g} : im_D g 449 279 (.iconst 0) 280 := im_D.of (by decide +kernel)
theorem D449_280 {g : im_g} : im_D g 449 280 (.ireturn) 281 := im_D.of (by decide +kernel)
theorem D449_281 {g : im_g} : im_D g 449 281 (.aload_n 0) 282 := im_D.of (by decide +kernel)
theorem D449_282 {g : im_g} : im_D g 449 282 (.lload_n 2) 283 := im_D.of (by decide +kernel)
theorem D449_283 {g : im_g} : im_D g 449 283 (.invokevirtual 819) 286 := im_D.of (by decide +kernel)
theorem D449_286 {g : im_g} : im_D g 449 286 (.istore 9) 288 := im_D.of (by decide +kernel)
theorem D449_288 {g : im_g} : im_D g 449 288 (.iload 9) 290 := im_D.of (by decide +kernel)
theorem D449_290 {g : im_g} : im_D g 449 290 (.ifCond .ne 15) 293 := im_D.of (by decide +kernel)
theorem D449_293 {g : im_g} : im_D g 449 293 (.aload_n 0) 294 := im_D.of (by decide +kernel)
theorem D449_294 {g : im_g} : im_D g 449 294 (.lload_n 2) 295 := im_D.of (by decide +kernel)
theorem D449_295 {g : im_g} : im_D g 449 295 (.invokevirtual 822) 298 := im_D.of (by decide +kernel)
theorem D449_298 {g : im_g} : im_D g 449 298 (.ifCond .le 7) 301 := im_D.of (by decide +kernel)
theorem D449_301 {g : im_g} : im_D g 449 301 (.iconst 1) 302 := im_D.of (by decide +kernel)
theorem D449_302 {g : im_g} : im_D g 449 302 (.goto 4) 305 := im_D.of (by decide +kernel)
theorem D449_305 {g : im_g} : im_D g 449 305 (.iconst 0) 306 := im_D.of (by decide +kernel)
theorem D449_306 {g : im_g} : im_D g 449 306 (.ireturn) 307 := im_D.of (by decide +kernel)
theorem D449_307 {g : im_g} : im_D g 449 307 (.aload_n 0) 308 := im_D.of (by decide +kernel)
theorem D449_308 {g : im_g} : im_D g 449 308 (.iconst 0) 309 := im_D.of (by decide +kernel)
theorem D449_309 {g : im_g} : im_D g 449 309 (.putfield 794) 312 := im_D.of (by decide +kernel)
theorem D449_312 {g : im_g} : im_D g 449 312 (.iconst 1) 313 := im_D.of (by decide +kernel)
theorem D449_313 {g : im_g} : im_D g 449 313 (.ireturn) 314 := im_D.of (by decide +kernel)
theorem D450_0 {g : im_g} : im_D g 450 0 (.lload_n 0) 1 := im_D.of (by decide +kernel)
theorem D450_1 {g : im_g} : im_D g 450 1 (.lconst 0) 2 := im_D.of (by decide +kernel)
theorem D450_2 {g : im_g} : im_D g 450 2 (.ldc2_w 729) 5 := im_D.of (by decide +kernel)
theorem D450_5 {g : im_g} : im_D g 450 5 (.invokestatic 428) 8 := im_D.of (by decide +kernel)
theorem D450_8 {g : im_g} : im_D g 450 8 (.ifCond .eq 8) 11 := im_D.of (by decide +kernel)
theorem D450_11 {g : im_g} : im_D g 450 11 (.lload_n 0) 12 := im_D.of (by decide +kernel)
theorem D450_12 {g : im_g} : im_D g 450 12 (.l2i) 13 := im_D.of (by decide +kernel)
theorem D450_13 {g : im_g} : im_D g 450 13 (.goto 4) 16 := im_D.of (by decide +kernel)
theorem D450_16 {g : im_g} : im_D g 450 16 (.iconst (-1)) 17 := im_D.of (by decide +kernel)
theorem D450_17 {g : im_g} : im_D g 450 17 (.ireturn) 18 := im_D.of (by decide +kernel)
theorem D451_0 {g : im_g} : im_D g 451 0 (.aload_n 0) 1 := im_D.of (by decide +kernel)
theorem D451_1 {g : im_g} : im_D g 451 1 (.iload_n 1) 2 := im_D.of (by decide +kernel)
theorem D451_2 {g : im_g} : im_D g 451 2 (.i2l) 3 := im_D.of (by decide +kernel)
theorem D451_3 {g : im_g} : im_D g 451 3 (.lconst 0) 4 := im_D.of (by decide +kernel)
theorem D451_4 {g : im_g} : im_D g 451 4 (.ldc2_w 1178) 7 := im_D.of (by decide +kernel)
theorem D451_7 {g : im_g} : im_D g 451 7 (.invokestatic 428) 10 := im_D.of (by decide +kernel)
theorem D451_10 {g : im_g} : im_D g 451 10 (.ifCond .eq 7) 13 := im_D.of (by decide +kernel)
theorem D451_13 {g : im_g} : im_D g 451 13 (.iconst 0) 14 := im_D.of (by decide +kernel)
theorem D451_14 {g : im_g} : im_D g 451 14 (.goto 4) 17 := im_D.of (by decide +kernel)
theorem D451_17 {g : im_g} : im_D g 451 17 (.iconst 1) 18 := im_D.of (by decide +kernel)
theorem D451_18 {g : im_g} : im_D g 451 18 (.putfield 409) 21 := im_D.of (by decide +kernel)
theorem D451_21 {g : im_g} : im_D g 451 21 (.iconst 0) 22 := im_D.of (by decide +kernel)
theorem D451_22 {g : im_g} : im_D g 451 22 (.istore_n 2) 23 := im_D.of (by decide +kernel)
theorem D451_23 {g : im_g} : im_D g 451 23 (.iconst 0) 24 := im_D.of (by decide +kernel)
theorem D451_24 {g : im_g} : im_D g 451 24 (.istore_n 3) 25 := im_D.of (by decide +kernel)
theorem D451_25 {g : im_g} : im_D g 451 25 (.iconst 0) 26 := im_D.of (by decide +kernel)
theorem D451_26 {g : im_g} : im_D g 451 26 (.istore 4) 28 := im_D.of (by decide +kernel)
theorem D451_28 {g : im_g} : im_D g 451 28 (.iload 4) 30 := im_D.of (by decide +kernel)
theorem D451_30 {g : im_g} : im_D g 451 30 (.bipush 16) 32 := im_D.of (by decide +kernel)
theorem D451_32 {g : im_g} : im_D g 451 32 (.if_icmp .ge 45) 35 := im_D.of (by decide +kernel)
theorem D451_35 {g : im_g} : im_D g 451 35 (.iload_n 2) 36 := im_D.of (by decide +kernel)
theorem D451_36 {g : im_g} : im_D g 451 36 (.aload_n 0) 37 := im_D.of (by decide +kernel)
theorem D451_37 {g : im_g} : im_D g 451 37 (.getfield 106) 40 := im_D.of (by decide +kernel)
theorem D451_40 {g : im_g} : im_D g 451 40 (.iload 4) 42 := im_D.of (by decide +kernel)
theorem D451_42 {g : im_g} : im_D g 451 42 (.baload) 43 := im_D.of (by decide +kernel)
theorem D451_43 {g : im_g} : im_D g 451 43 (.ifCond .eq 7) 46 := im_D.of (by decide +kernel)
theorem D451_46 {g : im_g} : im_D g 451 46 (.iconst 1) 47 := im_D.of (by decide +kernel)
theorem D451_47 {g : im_g} : im_D g 451 47 (.goto 4) 50 := im_D.of (by decide +kernel)
theorem D451_50 {g : im_g} : im_D g 451 50 (.iconst 0) 51 := im_D.of (by decide +kernel)
theorem D451_51 {g : im_g} : im_D g 451 51 (.iadd) 52 := im_D.of (by decide +kernel)
theorem D451_52 {g : im_g} : im_D g 451 52 (.istore_n 2) 53 := im_D.of (by decide +kernel)
theorem D451_53 {g : im_g} : im_D g 451 53 (.iload_n 3) 54 := im_D.of (by decide +kernel)
theorem D451_54 {g : im_g} : im_D g 451 54 (.aload_n 0) 55 := im_D.of (by decide +kernel)
theorem D451_55 {g : im_g} : im_D g 451 55 (.getfield 136) 58 := im_D.of (by decide +kernel)
theorem D451_58 {g : im_g} : im_D g 451 58 (.iload 4) 60 := im_D.of (by decide +kernel)
theorem D451_60 {g : im_g} : im_D g 451 60 (.baload) 61 := im_D.of (by decide +kernel)
theorem D451_61 {g : im_g} : im_D g 451 61 (.ifCond .eq 7) 64 := im_D.of (by decide +kernel)
theorem D451_64 {g : im_g} : im_D g 451 64 (.iconst 1) 65 := im_D.of (by decide +kernel)
theorem D451_65 {g : im_g} : im_D g 451 65 (.goto 4) 68 := im_D.of (by decide +kernel)
theorem D451_68 {g : im_g} : im_D g 451 68 (.iconst 0) 69 := im_D.of (by decide +kernel)
theorem D451_69 {g : im_g} : im_D g 451 69 (.iadd) 70 := im_D.of (by decide +kernel)
theorem D451_70 {g : im_g} : im_D g 451 70 (.istore_n 3) 71 := im_D.of (by decide +kernel)
theorem D451_71 {g : im_g} : im_D g 451 71 (.iinc 4 1) 74 := im_D.of (by decide +kernel)
theorem D451_74 {g : im_g} : im_D g 451 74 (.goto (-46)) 77 := im_D.of (by decide +kernel)
theorem D451_77 {g : im_g} : im_D g 451 77 (.iload_n 1) 78 := im_D.of (by decide +kernel)
theorem D451_78 {g : im_g} : im_D g 451 78 (.tableswitch 88 0 7 #[46, 48, 50, 55, 60, 65, 70, 75]) 79 := im_D.of (by decide +kernel)
theorem D451_124 {g : im_g} : im_D g 451 124 (.iload_n 2) 125 := im_D.of (by decide +kernel)
theorem D451_125 {g : im_g} : im_D g 451 125 (.ireturn) 126 := im_D.of (by decide +kernel)
theorem D451_126 {g : im_g} : im_D g 451 126 (.iload_n 3) 127 := im_D.of (by decide +kernel)
theorem D451_127 {g : im_g} : im_D g 451 127 (.ireturn) 128 := im_D.of (by decide +kernel)
theorem D451_128 {g : im_g} : im_D g 451 128 (.aload_n 0) 129 := im_D.of (by decide +kernel)
theorem D451_129 {g : im_g} : im_D g 451 129 (.getfield 416) 132 := im_D.of (by decide +kernel)
theorem D451_132 {g : im_g} : im_D g 451 132 (.ireturn) 133 := im_D.of (by decide +kernel)
theorem D451_133 {g : im_g} : im_D g 451 133 (.aload_n 0) 134 := im_D.of (by decide +kernel)
theorem D451_134 {g : im_g} : im_D g 451 134 (.getfield 1140) 137 := im_D.of (by decide +kernel)
theorem D451_137 {g : im_g} : im_D g 451 137 (.ireturn) 138 := im_D.of (by decide +kernel)
theorem D451_138 {g : im_g} : im_D g 451 138 (.aload_n 0) 139 := im_D.of (by decide +kernel)
theorem D451_139 {g : im_g} : im_D g 451 139 (.getfield 1154) 142 := im_D.of (by decide +kernel)
theorem D451_142 {g : im_g} : im_D g 451 142 (.ireturn) 143 := im_D.of (by decide +kernel)
theorem D451_143 {g : im_g} : im_D g 451 143 (.aload_n 0) 144 := im_D.of (by decide +kernel)
theorem D451_144 {g : im_g} : im_D g 451 144 (.getfield 632) 147 := im_D.of (by decide +kernel)
theorem D451_147 {g : im_g} : im_D g 451 147 (.ireturn) 148 := im_D.of (by decide +kernel)
theorem D451_148 {g : im_g} : im_D g 451 148 (.aload_n 0) 149 := im_D.of (by decide +kernel)
theorem D451_149 {g : im_g} : im_D g 451 149 (.getfield 794) 152 := im_D.of (by decide +kernel)
theorem D451_152 {g : im_g} : im_D g 451 152 (.ireturn) 153 := im_D.of (by decide +kernel)
theorem D451_153 {g : im_g} : im_D g 451 153 (.aload_n 0) 154 := im_D.of (by decide +kernel)
theorem D451_154 {g : im_g} : im_D g 451 154 (.getfield 412) 157 := im_D.of (by decide +kernel)
theorem D451_157 {g : im_g} : im_D g 451 157 (.ifCond .eq 7) 160 := im_D.of (by decide +kernel)
theorem D451_160 {g : im_g} : im_D g 451 160 (.iconst 1) 161 := im_D.of (by decide +kernel)
theorem D451_161 {g : im_g} : im_D g 451 161 (.goto 4) 164 := im_D.of (by decide +kernel)
theorem D451_164 {g : im_g} : im_D g 451 164 (.iconst 0) 165 := im_D.of (by decide +kernel)
theorem D451_165 {g : im_g} : im_D g 451 165 (.ireturn) 166 := im_D.of (by decide +kernel)
theorem D451_166 {g : im_g} : im_D g 451 166 (.iconst 0) 167 := im_D.of (by decide +kernel)
theorem D451_167 {g : im_g} : im_D g 451 167 (.ireturn) 168 := im_D.of (by decide +kernel)
set_option maxRecDepth 20000 in
set_option maxHeartbeats 4000000 in
theorem b_redo_0 {g : im_g} {d : Nat} {e : im_E} {M : im_M} {K : im_K} {p1 p2 p4 p6 : Int} (hd : 1 ≤ d) (hP : im_T g (d - 1) 450 0 [some (vL p2), none] [] e M (im_ri (fun x2 e_ M1 => e = e_ ∧ (im_i32 p1) ∧ ((p1 = 1 → im_T g (d - 1) 272 0 [some (.ref 6952), some (vI x2)] [] e M1 (im_ri (fun x5 e_ M4 => e = e_ ∧ (im_i32 x5) ∧ ((¬ x5 = 0 → K (.inl (some (vI 0))) e M4) ∧ (x5 = 0 → im_T g (d - 1) 312 0 [some (.ref 6952), some (vI x2)] [] e M4 (im_ri (fun x9 e_ M8 => e = e_ ∧ (im_i32 x9) ∧ ((x9 ≤ 0 → K (.inl (some (vI 0))) e M8) ∧ (0 < x9 → K (.inl (some (vI 1))) e M8))))))))) ∧ (p1 = 2 → (im_i32 x2) ∧ ((((¬ x2 = (-1) → (0 ≤ x2 ∧ x2 < 16) ∧ ((¬ (M1 6984 x2) = 0 → K (.inl (some (vI 1))) e (im_u M1 6984 x2 0)))))) ∧ ((((x2 = (-1))) ∨ ((¬ x2 = (-1)) ∧ ((M1 6984 x2) = 0))) → K (.inl (some (vI 0))) e M1))) ∧ (p1 = 3 → im_T g (d - 1) 450 0 [some (vL p4), none] [] e M1 (im_ri (fun x29 e_ M28 => e = e_ ∧ im_T g (d - 1) 343 0 [some (.ref 6952), some (vI x2), some (vI x29), some (vL p6), none, none] [] e M28 (im_ri (fun x31 e_ M30 => e = e_ ∧ (im_i32 x31) ∧ ((¬ x31 = 0 → ((∀ x35 : Int, (((¬ x31 = 0) ∧ x35 = 0) ∨ ((x31 = 0) ∧ x35 = 1)) → K (.inl (some (vI x35))) e M30))) ∧ (x31 = 0 → im_T g (d - 1) 450 0 [some (vL p4), none] [] e M30 (im_ri (fun x40 e_ M39 => e = e_ ∧ im_T g (d - 1) 346 0 [some (.ref 6952), some (vI x2), some (vI x40), some (vL p6), none, none, none] [] e M39 (im_r0 (fun  e_ M41 => e = e_ ∧ ((∀ x43 : Int, (((¬ x31 = 0) ∧ x43 = 0) ∨ ((x31 = 0) ∧ x43 = 1)) → K (.inl (some (vI x43))) e M41))))))))))))) ∧ (p1 = 4 → (im_i32 x2) ∧ ((x2 = (-1) → K (.inl (some (vI 0))) e M1) ∧ (¬ x2 = (-1) → im_T g (d - 1) 348 0 [some (.ref 6952), some (vI x2)] [] e M1 (im_ri (fun x57 e_ M56 => e = e_ ∧ (im_i32 x57) ∧ ((x57 = 0 → K (.inl (some (vI 0))) e M56) ∧ (¬ x57 = 0 → (0 ≤ x2 ∧ x2 < 16) ∧ K (.inl (some (vI 1))) e (im_u M56 6994 x2 0)))))))) ∧ (p1 = 5 → im_T g (d - 1) 422 0 [some (.ref 6952), some (vL p2), none, some (vL p4), none, none, none, none, none] [] e M1 (im_ri (fun x68 e_ M67 => e = e_ ∧ (im_i32 x68) ∧ ((¬ x68 = 0 → K (.inl (some (vI 0))) e M67) ∧ (x68 = 0 → im_T g (d - 1) 424 0 [some (.ref 6952), some (vL p2), none, some (vL p4), none, none, none] [] e M67 (im_ri (fun x72 e_ M71 => e = e_ ∧ (im_i32 x72) ∧ ((¬ x72 = 0 → K (.inl (some (vI 0))) e M71) ∧ (x72 = 0 → K (.inl (some (vI 1))) e M71))))))))) ∧ (p1 = 6 → im_T g (d - 1) 357 0 [some (.ref 6952), some (vI x2), some (vL p4), none, some (vL p6), none] [] e M1 (im_ri (fun x79 e_ M78 => e = e_ ∧ (im_i32 x79) ∧ ((¬ x79 = 0 → K (.inl (some (vI 0))) e M78) ∧ (x79 = 0 → im_T g (d - 1) 413 0 [some (.ref 6952), some (vI x2)] [] e M78 (im_ri (fun x83 e_ M82 => e = e_ ∧ (im_i32 x83) ∧ ((¬ x83 = 0 → K (.inl (some (vI 0))) e M82) ∧ (x83 = 0 → K (.inl (some (vI 1))) e M82))))))))) ∧ (p1 = 7 → im_T g (d - 1) 334 0 [some (.ref 6952), some (vL p2), none] [] e M1 (im_ri (fun x90 e_ M89 => e = e_ ∧ (im_i32 x90) ∧ ((¬ x90 = 0 → K (.inl (some (vI 0))) e M89) ∧ (x90 = 0 → im_T g (d - 1) 338 0 [some (.ref 6952), some (vL p2), none, none, none] [] e M89 (im_ri (fun x94 e_ M93 => e = e_ ∧ (im_i32 x94) ∧ ((x94 ≤ 0 → K (.inl (some (vI 0))) e M93) ∧ (0 < x94 → K (.inl (some (vI 1))) e M93))))))))) ∧ (p1 < 1 ∨ 7 < p1 → K (.inl (some (vI 1))) e (im_u M1 6952 62 0)))))) : im_T g d 449 0 [some (.ref 6952), some (vI p1), some (vL p2), none, some (vL p4), none, some (vL p6), none, none, none] [] e M K := by
  refine im_ld (q := 1) (i := 2) D449_0 rfl rfl rfl ?_
  refine im_callS (q := 4) (kd := 0) (y := 450) (n := 1) (z := 12) (vs := [vL p2]) (r := []) (L2 := [some (vL p2), none]) D449_1 rfl (im_cal cn_449 cl_12_1162) (Or.inl rfl) rfl rfl rfl rfl rfl hd ⟨rfl, trivial⟩ ?_
  refine hP.mono ?_
  rintro _ e101 M1 ⟨x2, rfl, rfl, hP⟩
  refine im_bkS ?_
  refine im_st1 (q := 6) (i := 8) (L' := [some (.ref 6952), some (vI p1), some (vL p2), none, some (vL p4), none, some (vL p6), none, some (vI x2), none]) D449_4 (Or.inr rfl) (Nat.le_of_ble_eq_true rfl) rfl ?_
  refine im_iconst (q := 7) D449_6 ?_
  refine im_st1 (q := 9) (i := 9) (L' := [some (.ref 6952), some (vI p1), some (vL p2), none, some (vL p4), none, some (vL p6), none, some (vI x2), some (vI 0)]) D449_7 (Or.inr rfl) (Nat.le_of_ble_eq_true rfl) rfl ?_
  refine im_ld (q := 10) (i := 1) D449_9 rfl rfl rfl ?_
  obtain ⟨hg3, hP⟩ := hP
  by_cases hc14 : p1 = 1
  · refine im_tsw (q := 11) (t := 52) D449_10 hg3 (fun _ => by rcases hc14 with hc14 <;> (rw [hc14]; rfl)) (by rcases hc14 with hc14 <;> (rw [hc14]; rfl)) ?_
    replace hP := hP.1 hc14
    refine im_ld (q := 53) (i := 0) D449_52 rfl rfl rfl ?_
    refine im_ld (q := 55) (i := 8) D449_53 rfl rfl rfl ?_
    refine im_callV (q := 58) (kd := 1) (y := 272) (n := 1) (ci := 12) (a := 6952) (vs := [.ref 6952, vI x2]) (r := []) (L2 := [some (.ref 6952), some (vI x2)]) D449_55 (im_cal cn_449 cl_12_737) (Or.inl rfl) rfl sf_6952 rfl rfl rfl rfl hd ⟨rfl, rfl, trivial⟩ ?_
    refine hP.mono ?_
    rintro _ e13 M4 ⟨x5, rfl, rfl, hP⟩
    refine im_bkS ?_
    refine im_st1 (q := 60) (i := 9) (L' := [some (.ref 6952), some (vI p1), some (vL p2), none, some (vL p4), none, some (vL p6), none, some (vI x2), some (vI x5)]) D449_58 (Or.inr rfl) (Nat.le_of_ble_eq_true rfl) rfl ?_
    refine im_ld (q := 62) (i := 9) D449_60 rfl rfl rfl ?_
    obtain ⟨hg6, hP⟩ := hP
    refine im_ifc (q := 65) (t := 78) D449_62 rfl hg6 (fun hc7 => ?_) (fun hc7 => ?_)
    · replace hP := hP.1 hc7
      refine im_iconst (q := 79) D449_78 ?_
      exact im_zret (q := 80) D449_79 rfl (by decide) hP
    · replace hP := hP.2 (Decidable.not_not.mp hc7)
      refine im_ld (q := 66) (i := 0) D449_65 rfl rfl rfl ?_
      refine im_ld (q := 68) (i := 8) D449_66 rfl rfl rfl ?_
      refine im_callV (q := 71) (kd := 1) (y := 312) (n := 1) (ci := 12) (a := 6952) (vs := [.ref 6952, vI x2]) (r := []) (L2 := [some (.ref 6952), some (vI x2)]) D449_68 (im_cal cn_449 cl_12_744) (Or.inl rfl) rfl sf_6952 rfl rfl rfl rfl hd ⟨rfl, rfl, trivial⟩ ?_
      refine hP.mono ?_
      rintro _ e12 M8 ⟨x9, rfl, rfl, hP⟩
      refine im_bkS ?_
      obtain ⟨hg10, hP⟩ := hP
      refine im_ifc (q := 74) (t := 78) D449_71 rfl hg10 (fun hc11 => ?_) (fun hc11 => ?_)
      · replace hP := hP.1 hc11
        refine im_iconst (q := 79) D449_78 ?_
        exact im_zret (q := 80) D449_79 rfl (by decide) hP
      · replace hP := hP.2 (Int.not_le.mp hc11)
        refine im_iconst (q := 75) D449_74 ?_
        refine im_goto (q := 78) (t := 79) D449_75 rfl ?_
        exact im_zret (q := 80) D449_79 rfl (by decide) hP
  by_cases hc27 : p1 = 2
  · refine im_tsw (q := 11) (t := 80) D449_10 hg3 (fun _ => by rcases hc27 with hc27 <;> (rw [hc27]; rfl)) (by rcases hc27 with hc27 <;> (rw [hc27]; rfl)) ?_
    replace hP := hP.2.1 hc27
    refine im_ld (q := 82) (i := 8) D449_80 rfl rfl rfl ?_
    refine im_iconst (q := 83) D449_82 ?_
    obtain ⟨hg15, hP⟩ := hP
    obtain ⟨hP, hJ20⟩ := hP
    have kJ21 : (((x2 = (-1))) ∨ ((¬ x2 = (-1)) ∧ ((M1 6984 x2) = 0))) → im_T g d 449 100 [some (.ref 6952), none, none, none, none, none, none, none, some (vI x2), none] [] e M1 K := by
      intro  hx22
      have hP := hJ20  hx22
      refine im_bipush (q := 102) D449_100 rfl ?_
      refine im_st1 (q := 104) (i := 9) (L' := [some (.ref 6952), none, none, none, none, none, none, none, some (vI x2), some (vI (-101))]) D449_102 (Or.inr rfl) (Nat.le_of_ble_eq_true rfl) rfl ?_
      refine im_ld (q := 106) (i := 9) D449_104 rfl rfl rfl ?_
      refine im_ifc (q := 109) (t := 117) D449_106 rfl (by decide) (fun _ => ?_) (fun hc => absurd (show ¬ ((-101) : Int) = 0 by decide) hc)
      refine im_ld (q := 119) (i := 9) D449_117 rfl rfl rfl ?_
      refine im_ifc (q := 122) (t := 126) D449_119 rfl (by decide) (fun _ => ?_) (fun hc => absurd (show ¬ ((-101) : Int) = 0 by decide) hc)
      refine im_iconst (q := 127) D449_126 ?_
      exact im_zret (q := 128) D449_127 rfl (by decide) hP
    refine im_icmp (q := 86) (t := 100) D449_83 rfl hg15 (by decide) (fun hc16 => ?_) (fun hc16 => ?_)
    · exact (kJ21  (Or.inl hc16)).wk ⟨rfl, rfl, trivial⟩
    · replace hP := hP hc16
      refine im_ld (q := 87) (i := 0) D449_86 rfl rfl rfl ?_
      refine im_gfR (q := 90) (b := 6984) D449_87 (im_fl cn_449 fl_12_106) sf_6952 rfl rfl tR_12_52 rf_6952_52 ?_
      refine im_ld (q := 92) (i := 8) D449_90 rfl rfl rfl ?_
      obtain ⟨hg17, hP⟩ := hP
      refine im_rng (j := x2) sf_6984 hg17.1 hg17.2 (fun hr18 => ?_)
      refine im_bald (q := 93) D449_92 sf_6984 (Or.inr rfl) hg17.1 hg17.2 (by decide) rfl ?_
      refine im_ifc (q := 96) (t := 100) D449_93 rfl (im_z32 hr18) (fun hc19 => ?_) (fun hc19 => ?_)
      · exact (kJ21  (Or.inr ⟨hc16, hc19⟩)).wk ⟨rfl, rfl, trivial⟩
      · replace hP := hP hc19
        refine im_iconst (q := 97) D449_96 ?_
        refine im_goto (q := 100) (t := 102) D449_97 rfl ?_
        refine im_st1 (q := 104) (i := 9) (L' := [some (.ref 6952), some (vI p1), some (vL p2), none, some (vL p4), none, some (vL p6), none, some (vI x2), some (vI 0)]) D449_102 (Or.inr rfl) (Nat.le_of_ble_eq_true rfl) rfl ?_
        refine im_ld (q := 106) (i := 9) D449_104 rfl rfl rfl ?_
        refine im_ifc (q := 109) (t := 117) D449_106 rfl (by decide) (fun hc => absurd hc (show ¬ (¬ (0 : Int) = 0) by decide)) (fun _ => ?_)
        refine im_ld (q := 110) (i := 0) D449_109 rfl rfl rfl ?_
        refine im_gfR (q := 113) (b := 6984) D449_110 (im_fl cn_449 fl_12_106) sf_6952 rfl rfl tR_12_52 rf_6952_52 ?_
        refine im_ld (q := 115) (i := 8) D449_113 rfl rfl rfl ?_
        refine im_iconst (q := 116) D449_115 ?_
        refine im_zast (q := 117) D449_116 sf_6984 hg17.1 hg17.2 (by decide) (by decide) ?_
        refine im_ld (q := 119) (i := 9) D449_117 rfl rfl rfl ?_
        refine im_ifc (q := 122) (t := 126) D449_119 rfl (by decide) (fun hc => absurd hc (show ¬ (¬ (0 : Int) = 0) by decide)) (fun _ => ?_)
        refine im_iconst (q := 123) D449_122 ?_
        refine im_goto (q := 126) (t := 127) D449_123 rfl ?_
        exact im_zret (q := 128) D449_127 rfl (by decide) hP
  by_cases hc51 : p1 = 3
  · refine im_tsw (q := 11) (t := 128) D449_10 hg3 (fun _ => by rcases hc51 with hc51 <;> (rw [hc51]; rfl)) (by rcases hc51 with hc51 <;> (rw [hc51]; rfl)) ?_
    replace hP := hP.2.2.1 hc51
    refine im_ld (q := 129) (i := 0) D449_128 rfl rfl rfl ?_
    refine im_ld (q := 131) (i := 8) D449_129 rfl rfl rfl ?_
    refine im_ld (q := 133) (i := 4) D449_131 rfl rfl rfl ?_
    refine im_callS (q := 136) (kd := 0) (y := 450) (n := 1) (z := 12) (vs := [vL p4]) (r := [vI x2, .ref 6952]) (L2 := [some (vL p4), none]) D449_133 rfl (im_cal cn_449 cl_12_1162) (Or.inl rfl) rfl rfl rfl rfl rfl hd ⟨rfl, trivial⟩ ?_
    refine hP.mono ?_
    rintro _ e50 M28 ⟨x29, rfl, rfl, hP⟩
    refine im_bkS ?_
    refine im_ld (q := 138) (i := 6) D449_136 rfl rfl rfl ?_
    refine im_callV (q := 141) (kd := 1) (y := 343) (n := 3) (ci := 12) (a := 6952) (vs := [.ref 6952, vI x2, vI x29, vL p6]) (r := []) (L2 := [some (.ref 6952), some (vI x2), some (vI x29), some (vL p6), none, none]) D449_138 (im_cal cn_449 cl_12_832) (Or.inl rfl) rfl sf_6952 rfl rfl rfl rfl hd ⟨rfl, rfl, rfl, rfl, trivial⟩ ?_
    refine hP.mono ?_
    rintro _ e49 M30 ⟨x31, rfl, rfl, hP⟩
    refine im_bkS ?_
    refine im_st1 (q := 143) (i := 9) (L' := [some (.ref 6952), some (vI p1), some (vL p2), none, some (vL p4), none, some (vL p6), none, some (vI x2), some (vI x31)]) D449_141 (Or.inr rfl) (Nat.le_of_ble_eq_true rfl) rfl ?_
    refine im_ld (q := 145) (i := 9) D449_143 rfl rfl rfl ?_
    obtain ⟨hg32, hP⟩ := hP
    refine im_ifc (q := 148) (t := 161) D449_145 rfl hg32 (fun hc33 => ?_) (fun hc33 => ?_)
    · replace hP := hP.1 hc33
      refine im_ld (q := 163) (i := 9) D449_161 rfl rfl rfl ?_
      have hJ36 := hP
      have kJ37 : ∀ x35 : Int, (((¬ x31 = 0) ∧ x35 = 0) ∨ ((x31 = 0) ∧ x35 = 1)) → im_T g d 449 171 [none, none, none, none, none, none, none, none, none, none] [vI x35] e M30 K := by
        intro x35 hx38
        have hP := hJ36 x35 hx38
        exact im_zret (q := 172) D449_171 rfl (by omega) hP
      refine im_ifc (q := 166) (t := 170) D449_163 rfl hg32 (fun hc34 => ?_) (fun hc34 => ?_)
      · refine im_iconst (q := 171) D449_170 ?_
        exact (kJ37 (0) (Or.inl ⟨hc34, rfl⟩)).wk trivial
      · refine im_iconst (q := 167) D449_166 ?_
        refine im_goto (q := 170) (t := 171) D449_167 rfl ?_
        exact (kJ37 (1) (Or.inr ⟨(Decidable.not_not.mp hc34), rfl⟩)).wk trivial
    · replace hP := hP.2 (Decidable.not_not.mp hc33)
      refine im_ld (q := 149) (i := 0) D449_148 rfl rfl rfl ?_
      refine im_ld (q := 151) (i := 8) D449_149 rfl rfl rfl ?_
      refine im_ld (q := 153) (i := 4) D449_151 rfl rfl rfl ?_
      refine im_callS (q := 156) (kd := 0) (y := 450) (n := 1) (z := 12) (vs := [vL p4]) (r := [vI x2, .ref 6952]) (L2 := [some (vL p4), none]) D449_153 rfl (im_cal cn_449 cl_12_1162) (Or.inl rfl) rfl rfl rfl rfl rfl hd ⟨rfl, trivial⟩ ?_
      refine hP.mono ?_
      rintro _ e48 M39 ⟨x40, rfl, rfl, hP⟩
      refine im_bkS ?_
      refine im_ld (q := 158) (i := 6) D449_156 rfl rfl rfl ?_
      refine im_callV (q := 161) (kd := 1) (y := 346) (n := 3) (ci := 12) (a := 6952) (vs := [.ref 6952, vI x2, vI x40, vL p6]) (r := []) (L2 := [some (.ref 6952), some (vI x2), some (vI x40), some (vL p6), none, none, none]) D449_158 (im_cal cn_449 cl_12_836) (Or.inl rfl) rfl sf_6952 rfl rfl rfl rfl hd ⟨rfl, rfl, rfl, rfl, trivial⟩ ?_
      refine hP.mono ?_
      rintro _ e47 M41 ⟨rfl, rfl, hP⟩
      refine im_bkN ?_
      refine im_ld (q := 163) (i := 9) D449_161 rfl rfl rfl ?_
      have hJ44 := hP
      have kJ45 : ∀ x43 : Int, (((¬ x31 = 0) ∧ x43 = 0) ∨ ((x31 = 0) ∧ x43 = 1)) → im_T g d 449 171 [none, none, none, none, none, none, none, none, none, none] [vI x43] e M41 K := by
        intro x43 hx46
        have hP := hJ44 x43 hx46
        exact im_zret (q := 172) D449_171 rfl (by omega) hP
      refine im_ifc (q := 166) (t := 170) D449_163 rfl hg32 (fun hc42 => ?_) (fun hc42 => ?_)
      · refine im_iconst (q := 171) D449_170 ?_
        exact (kJ45 (0) (Or.inl ⟨hc42, rfl⟩)).wk trivial
      · refine im_iconst (q := 167) D449_166 ?_
        refine im_goto (q := 170) (t := 171) D449_167 rfl ?_
        exact (kJ45 (1) (Or.inr ⟨(Decidable.not_not.mp hc42), rfl⟩)).wk trivial
  by_cases hc66 : p1 = 4
  · refine im_tsw (q := 11) (t := 172) D449_10 hg3 (fun _ => by rcases hc66 with hc66 <;> (rw [hc66]; rfl)) (by rcases hc66 with hc66 <;> (rw [hc66]; rfl)) ?_
    replace hP := hP.2.2.2.1 hc66
    refine im_ld (q := 174) (i := 8) D449_172 rfl rfl rfl ?_
    refine im_iconst (q := 175) D449_174 ?_
    obtain ⟨hg52, hP⟩ := hP
    refine im_icmp (q := 178) (t := 191) D449_175 rfl hg52 (by decide) (fun hc53 => ?_) (fun hc53 => ?_)
    · replace hP := hP.1 hc53
      refine im_bipush (q := 193) D449_191 rfl ?_
      refine im_st1 (q := 195) (i := 9) (L' := [some (.ref 6952), some (vI p1), some (vL p2), none, some (vL p4), none, some (vL p6), none, some (vI x2), some (vI (-101))]) D449_193 (Or.inr rfl) (Nat.le_of_ble_eq_true rfl) rfl ?_
      refine im_ld (q := 197) (i := 9) D449_195 rfl rfl rfl ?_
      refine im_ifc (q := 200) (t := 208) D449_197 rfl (by decide) (fun _ => ?_) (fun hc => absurd (show ¬ ((-101) : Int) = 0 by decide) hc)
      refine im_ld (q := 210) (i := 9) D449_208 rfl rfl rfl ?_
      refine im_ifc (q := 213) (t := 217) D449_210 rfl (by decide) (fun _ => ?_) (fun hc => absurd (show ¬ ((-101) : Int) = 0 by decide) hc)
      refine im_iconst (q := 218) D449_217 ?_
      exact im_zret (q := 219) D449_218 rfl (by decide) hP
    · replace hP := hP.2 hc53
      refine im_ld (q := 179) (i := 0) D449_178 rfl rfl rfl ?_
      refine im_ld (q := 181) (i := 8) D449_179 rfl rfl rfl ?_
      refine im_callV (q := 184) (kd := 1) (y := 348) (n := 1) (ci := 12) (a := 6952) (vs := [.ref 6952, vI x2]) (r := []) (L2 := [some (.ref 6952), some (vI x2)]) D449_181 (im_cal cn_449 cl_12_843) (Or.inl rfl) rfl sf_6952 rfl rfl rfl rfl hd ⟨rfl, rfl, trivial⟩ ?_
      refine hP.mono ?_
      rintro _ e65 M56 ⟨x57, rfl, rfl, hP⟩
      refine im_bkS ?_
      obtain ⟨hg58, hP⟩ := hP
      refine im_ifc (q := 187) (t := 191) D449_184 rfl hg58 (fun hc59 => ?_) (fun hc59 => ?_)
      · replace hP := hP.1 hc59
        refine im_bipush (q := 193) D449_191 rfl ?_
        refine im_st1 (q := 195) (i := 9) (L' := [some (.ref 6952), some (vI p1), some (vL p2), none, some (vL p4), none, some (vL p6), none, some (vI x2), some (vI (-101))]) D449_193 (Or.inr rfl) (Nat.le_of_ble_eq_true rfl) rfl ?_
        refine im_ld (q := 197) (i := 9) D449_195 rfl rfl rfl ?_
        refine im_ifc (q := 200) (t := 208) D449_197 rfl (by decide) (fun _ => ?_) (fun hc => absurd (show ¬ ((-101) : Int) = 0 by decide) hc)
        refine im_ld (q := 210) (i := 9) D449_208 rfl rfl rfl ?_
        refine im_ifc (q := 213) (t := 217) D449_210 rfl (by decide) (fun _ => ?_) (fun hc => absurd (show ¬ ((-101) : Int) = 0 by decide) hc)
        refine im_iconst (q := 218) D449_217 ?_
        exact im_zret (q := 219) D449_218 rfl (by decide) hP
      · replace hP := hP.2 hc59
        refine im_iconst (q := 188) D449_187 ?_
        refine im_goto (q := 191) (t := 193) D449_188 rfl ?_
        refine im_st1 (q := 195) (i := 9) (L' := [some (.ref 6952), some (vI p1), some (vL p2), none, some (vL p4), none, some (vL p6), none, some (vI x2), some (vI 0)]) D449_193 (Or.inr rfl) (Nat.le_of_ble_eq_true rfl) rfl ?_
        refine im_ld (q := 197) (i := 9) D449_195 rfl rfl rfl ?_
        refine im_ifc (q := 200) (t := 208) D449_197 rfl (by decide) (fun hc => absurd hc (show ¬ (¬ (0 : Int) = 0) by decide)) (fun _ => ?_)
        refine im_ld (q := 201) (i := 0) D449_200 rfl rfl rfl ?_
        refine im_gfR (q := 204) (b := 6994) D449_201 (im_fl cn_449 fl_12_136) sf_6952 rfl rfl tR_12_66 rf_6952_66 ?_
        refine im_ld (q := 206) (i := 8) D449_204 rfl rfl rfl ?_
        refine im_iconst (q := 207) D449_206 ?_
        obtain ⟨hg63, hP⟩ := hP
        refine im_zast (q := 208) D449_207 sf_6994 hg63.1 hg63.2 (by decide) (by decide) ?_
        refine im_ld (q := 210) (i := 9) D449_208 rfl rfl rfl ?_
        refine im_ifc (q := 213) (t := 217) D449_210 rfl (by decide) (fun hc => absurd hc (show ¬ (¬ (0 : Int) = 0) by decide)) (fun _ => ?_)
        refine im_iconst (q := 214) D449_213 ?_
        refine im_goto (q := 217) (t := 218) D449_214 rfl ?_
        exact im_zret (q := 219) D449_218 rfl (by decide) hP
  by_cases hc77 : p1 = 5
  · refine im_tsw (q := 11) (t := 219) D449_10 hg3 (fun _ => by rcases hc77 with hc77 <;> (rw [hc77]; rfl)) (by rcases hc77 with hc77 <;> (rw [hc77]; rfl)) ?_
    replace hP := hP.2.2.2.2.1 hc77
    refine im_ld (q := 220) (i := 0) D449_219 rfl rfl rfl ?_
    refine im_ld (q := 221) (i := 2) D449_220 rfl rfl rfl ?_
    refine im_ld (q := 223) (i := 4) D449_221 rfl rfl rfl ?_
    refine im_callV (q := 226) (kd := 1) (y := 422) (n := 2) (ci := 12) (a := 6952) (vs := [.ref 6952, vL p2, vL p4]) (r := []) (L2 := [some (.ref 6952), some (vL p2), none, some (vL p4), none, none, none, none, none]) D449_223 (im_cal cn_449 cl_12_1083) (Or.inl rfl) rfl sf_6952 rfl rfl rfl rfl hd ⟨rfl, rfl, rfl, trivial⟩ ?_
    refine hP.mono ?_
    rintro _ e76 M67 ⟨x68, rfl, rfl, hP⟩
    refine im_bkS ?_
    refine im_st1 (q := 228) (i := 9) (L' := [some (.ref 6952), some (vI p1), some (vL p2), none, some (vL p4), none, some (vL p6), none, some (vI x2), some (vI x68)]) D449_226 (Or.inr rfl) (Nat.le_of_ble_eq_true rfl) rfl ?_
    refine im_ld (q := 230) (i := 9) D449_228 rfl rfl rfl ?_
    obtain ⟨hg69, hP⟩ := hP
    refine im_ifc (q := 233) (t := 247) D449_230 rfl hg69 (fun hc70 => ?_) (fun hc70 => ?_)
    · replace hP := hP.1 hc70
      refine im_iconst (q := 248) D449_247 ?_
      exact im_zret (q := 249) D449_248 rfl (by decide) hP
    · replace hP := hP.2 (Decidable.not_not.mp hc70)
      refine im_ld (q := 234) (i := 0) D449_233 rfl rfl rfl ?_
      refine im_ld (q := 235) (i := 2) D449_234 rfl rfl rfl ?_
      refine im_ld (q := 237) (i := 4) D449_235 rfl rfl rfl ?_
      refine im_callV (q := 240) (kd := 1) (y := 424) (n := 2) (ci := 12) (a := 6952) (vs := [.ref 6952, vL p2, vL p4]) (r := []) (L2 := [some (.ref 6952), some (vL p2), none, some (vL p4), none, none, none]) D449_237 (im_cal cn_449 cl_12_1086) (Or.inl rfl) rfl sf_6952 rfl rfl rfl rfl hd ⟨rfl, rfl, rfl, trivial⟩ ?_
      refine hP.mono ?_
      rintro _ e75 M71 ⟨x72, rfl, rfl, hP⟩
      refine im_bkS ?_
      obtain ⟨hg73, hP⟩ := hP
      refine im_ifc (q := 243) (t := 247) D449_240 rfl hg73 (fun hc74 => ?_) (fun hc74 => ?_)
      · replace hP := hP.1 hc74
        refine im_iconst (q := 248) D449_247 ?_
        exact im_zret (q := 249) D449_248 rfl (by decide) hP
      · replace hP := hP.2 (Decidable.not_not.mp hc74)
        refine im_iconst (q := 244) D449_243 ?_
        refine im_goto (q := 247) (t := 248) D449_244 rfl ?_
        exact im_zret (q := 249) D449_248 rfl (by decide) hP
  by_cases hc88 : p1 = 6
  · refine im_tsw (q := 11) (t := 249) D449_10 hg3 (fun _ => by rcases hc88 with hc88 <;> (rw [hc88]; rfl)) (by rcases hc88 with hc88 <;> (rw [hc88]; rfl)) ?_
    replace hP := hP.2.2.2.2.2.1 hc88
    refine im_ld (q := 250) (i := 0) D449_249 rfl rfl rfl ?_
    refine im_ld (q := 252) (i := 8) D449_250 rfl rfl rfl ?_
    refine im_ld (q := 254) (i := 4) D449_252 rfl rfl rfl ?_
    refine im_ld (q := 256) (i := 6) D449_254 rfl rfl rfl ?_
    refine im_callV (q := 259) (kd := 1) (y := 357) (n := 3) (ci := 12) (a := 6952) (vs := [.ref 6952, vI x2, vL p4, vL p6]) (r := []) (L2 := [some (.ref 6952), some (vI x2), some (vL p4), none, some (vL p6), none]) D449_256 (im_cal cn_449 cl_12_1062) (Or.inl rfl) rfl sf_6952 rfl rfl rfl rfl hd ⟨rfl, rfl, rfl, rfl, trivial⟩ ?_
    refine hP.mono ?_
    rintro _ e87 M78 ⟨x79, rfl, rfl, hP⟩
    refine im_bkS ?_
    refine im_st1 (q := 261) (i := 9) (L' := [some (.ref 6952), some (vI p1), some (vL p2), none, some (vL p4), none, some (vL p6), none, some (vI x2), some (vI x79)]) D449_259 (Or.inr rfl) (Nat.le_of_ble_eq_true rfl) rfl ?_
    refine im_ld (q := 263) (i := 9) D449_261 rfl rfl rfl ?_
    obtain ⟨hg80, hP⟩ := hP
    refine im_ifc (q := 266) (t := 279) D449_263 rfl hg80 (fun hc81 => ?_) (fun hc81 => ?_)
    · replace hP := hP.1 hc81
      refine im_iconst (q := 280) D449_279 ?_
      exact im_zret (q := 281) D449_280 rfl (by decide) hP
    · replace hP := hP.2 (Decidable.not_not.mp hc81)
      refine im_ld (q := 267) (i := 0) D449_266 rfl rfl rfl ?_
      refine im_ld (q := 269) (i := 8) D449_267 rfl rfl rfl ?_
      refine im_callV (q := 272) (kd := 1) (y := 413) (n := 1) (ci := 12) (a := 6952) (vs := [.ref 6952, vI x2]) (r := []) (L2 := [some (.ref 6952), some (vI x2)]) D449_269 (im_cal cn_449 cl_12_1066) (Or.inl rfl) rfl sf_6952 rfl rfl rfl rfl hd ⟨rfl, rfl, trivial⟩ ?_
      refine hP.mono ?_
      rintro _ e86 M82 ⟨x83, rfl, rfl, hP⟩
      refine im_bkS ?_
      obtain ⟨hg84, hP⟩ := hP
      refine im_ifc (q := 275) (t := 279) D449_272 rfl hg84 (fun hc85 => ?_) (fun hc85 => ?_)
      · replace hP := hP.1 hc85
        refine im_iconst (q := 280) D449_279 ?_
        exact im_zret (q := 281) D449_280 rfl (by decide) hP
      · replace hP := hP.2 (Decidable.not_not.mp hc85)
        refine im_iconst (q := 276) D449_275 ?_
        refine im_goto (q := 279) (t := 280) D449_276 rfl ?_
        exact im_zret (q := 281) D449_280 rfl (by decide) hP
  by_cases hc99 : p1 = 7
  · refine im_tsw (q := 11) (t := 281) D449_10 hg3 (fun _ => by rcases hc99 with hc99 <;> (rw [hc99]; rfl)) (by rcases hc99 with hc99 <;> (rw [hc99]; rfl)) ?_
    replace hP := hP.2.2.2.2.2.2.1 hc99
    refine im_ld (q := 282) (i := 0) D449_281 rfl rfl rfl ?_
    refine im_ld (q := 283) (i := 2) D449_282 rfl rfl rfl ?_
    refine im_callV (q := 286) (kd := 1) (y := 334) (n := 1) (ci := 12) (a := 6952) (vs := [.ref 6952, vL p2]) (r := []) (L2 := [some (.ref 6952), some (vL p2), none]) D449_283 (im_cal cn_449 cl_12_819) (Or.inl rfl) rfl sf_6952 rfl rfl rfl rfl hd ⟨rfl, rfl, trivial⟩ ?_
    refine hP.mono ?_
    rintro _ e98 M89 ⟨x90, rfl, rfl, hP⟩
    refine im_bkS ?_
    refine im_st1 (q := 288) (i := 9) (L' := [some (.ref 6952), some (vI p1), some (vL p2), none, some (vL p4), none, some (vL p6), none, some (vI x2), some (vI x90)]) D449_286 (Or.inr rfl) (Nat.le_of_ble_eq_true rfl) rfl ?_
    refine im_ld (q := 290) (i := 9) D449_288 rfl rfl rfl ?_
    obtain ⟨hg91, hP⟩ := hP
    refine im_ifc (q := 293) (t := 305) D449_290 rfl hg91 (fun hc92 => ?_) (fun hc92 => ?_)
    · replace hP := hP.1 hc92
      refine im_iconst (q := 306) D449_305 ?_
      exact im_zret (q := 307) D449_306 rfl (by decide) hP
    · replace hP := hP.2 (Decidable.not_not.mp hc92)
      refine im_ld (q := 294) (i := 0) D449_293 rfl rfl rfl ?_
      refine im_ld (q := 295) (i := 2) D449_294 rfl rfl rfl ?_
      refine im_callV (q := 298) (kd := 1) (y := 338) (n := 1) (ci := 12) (a := 6952) (vs := [.ref 6952, vL p2]) (r := []) (L2 := [some (.ref 6952), some (vL p2), none, none, none]) D449_295 (im_cal cn_449 cl_12_822) (Or.inl rfl) rfl sf_6952 rfl rfl rfl rfl hd ⟨rfl, rfl, trivial⟩ ?_
      refine hP.mono ?_
      rintro _ e97 M93 ⟨x94, rfl, rfl, hP⟩
      refine im_bkS ?_
      obtain ⟨hg95, hP⟩ := hP
      refine im_ifc (q := 301) (t := 305) D449_298 rfl hg95 (fun hc96 => ?_) (fun hc96 => ?_)
      · replace hP := hP.1 hc96
        refine im_iconst (q := 306) D449_305 ?_
        exact im_zret (q := 307) D449_306 rfl (by decide) hP
      · replace hP := hP.2 (Int.not_le.mp hc96)
        refine im_iconst (q := 302) D449_301 ?_
        refine im_goto (q := 305) (t := 306) D449_302 rfl ?_
        exact im_zret (q := 307) D449_306 rfl (by decide) hP
  have hd100 : p1 < 1 ∨ 7 < p1 := by omega
  refine im_tsw (q := 11) (t := 307) D449_10 hg3 (fun z9 => absurd hd100 z9) (by rw [if_pos hd100]; rfl) ?_
  replace hP := hP.2.2.2.2.2.2.2 hd100
  refine im_ld (q := 308) (i := 0) D449_307 rfl rfl rfl ?_
  refine im_iconst (q := 309) D449_308 ?_
  refine im_pfI (q := 312) D449_309 (im_fl cn_449 fl_12_794) sf_6952 rfl rfl ti_12_62 (by decide) ?_
  refine im_iconst (q := 313) D449_312 ?_
  exact im_zret (q := 314) D449_313 rfl (by decide) hP
set_option maxRecDepth 20000 in
set_option maxHeartbeats 4000000 in
theorem b_small_0 {g : im_g} {d : Nat} {e : im_E} {M : im_M} {K : im_K} {p0 : Int} (hd : 1 ≤ d) (hP : im_T g (d - 1) 268 0 [some (vL p0), none, some (vL 0), none, some (vL 15), none] [] e M (im_ri (fun x2 e_ M1 => e = e_ ∧ (im_i32 x2) ∧ ((∀ x5 : Int, (((x2 = 0) ∧ x5 = (-1)) ∨ ((¬ x2 = 0) ∧ x5 = p0)) → K (.inl (some (vI x5))) e M1))))) : im_T g d 450 0 [some (vL p0), none] [] e M K := by
  refine im_ld (q := 1) (i := 0) D450_0 rfl rfl rfl ?_
  refine im_lconst (q := 2) (z := 0) D450_1 rfl ?_
  refine im_ldc2 (q := 5) (n := 15) D450_2 rfl ?_
  refine im_callS (q := 8) (kd := 0) (y := 268) (n := 3) (z := 12) (vs := [vL p0, vL 0, vL 15]) (r := []) (L2 := [some (vL p0), none, some (vL 0), none, some (vL 15), none]) D450_5 rfl (im_cal cn_450 cl_12_428) (Or.inl rfl) rfl rfl rfl rfl rfl hd ⟨rfl, rfl, rfl, trivial⟩ ?_
  refine hP.mono ?_
  rintro _ e9 M1 ⟨x2, rfl, rfl, hP⟩
  refine im_bkS ?_
  obtain ⟨hg3, hP⟩ := hP
  have hJ6 := hP
  have kJ7 : ∀ x5 : Int, (((x2 = 0) ∧ x5 = (-1)) ∨ ((¬ x2 = 0) ∧ x5 = p0)) → im_T g d 450 17 [none, none] [vI x5] e M1 K := by
    intro x5 hx8
    have hP := hJ6 x5 hx8
    exact im_iret (q := 18) D450_17 rfl hP
  refine im_ifc (q := 11) (t := 16) D450_8 rfl hg3 (fun hc4 => ?_) (fun hc4 => ?_)
  · refine im_iconst (q := 17) D450_16 ?_
    exact (kJ7 ((-1)) (Or.inl ⟨hc4, rfl⟩)).wk trivial
  · refine im_ld (q := 12) (i := 0) D450_11 rfl rfl rfl ?_
    refine im_l2i (q := 13) D450_12 ?_
    refine im_goto (q := 16) (t := 17) D450_13 rfl ?_
    exact (kJ7 (p0) (Or.inr ⟨hc4, rfl⟩)).wk trivial
set_option maxRecDepth 20000 in
set_option maxHeartbeats 4000000 in
theorem b_told_0 {g : im_g} {d : Nat} {e : im_E} {M : im_M} {K : im_K} {p1 : Int} (hd : 1 ≤ d) (hP : (im_i32 p1) ∧ im_T g (d - 1) 268 0 [some (vL p1), none, some (vL 0), none, some (vL 7), none] [] e M (im_ri (fun x3 e_ M2 => e = e_ ∧ (im_i32 x3) ∧ ((∀ x6 : Int, (((x3 = 0) ∧ x6 = 1) ∨ ((¬ x3 = 0) ∧ x6 = 0)) → im_T g d 451 28 [some (.ref 6952), some (vI p1), some (vI 0), some (vI 0), some (vI 0)] [] e (im_u M2 6952 0 x6) K))))) : im_T g d 451 0 [some (.ref 6952), some (vI p1), none, none, none] [] e M K := by
  refine im_ld (q := 1) (i := 0) D451_0 rfl rfl rfl ?_
  refine im_ld (q := 2) (i := 1) D451_1 rfl rfl rfl ?_
  obtain ⟨hg1, hP⟩ := hP
  refine im_i2l (q := 3) D451_2 hg1 ?_
  refine im_lconst (q := 4) (z := 0) D451_3 rfl ?_
  refine im_ldc2 (q := 7) (n := 7) D451_4 rfl ?_
  refine im_callS (q := 10) (kd := 0) (y := 268) (n := 3) (z := 12) (vs := [vL p1, vL 0, vL 7]) (r := [.ref 6952]) (L2 := [some (vL p1), none, some (vL 0), none, some (vL 7), none]) D451_7 rfl (im_cal cn_451 cl_12_428) (Or.inl rfl) rfl rfl rfl rfl rfl hd ⟨rfl, rfl, rfl, trivial⟩ ?_
  refine hP.mono ?_
  rintro _ e10 M2 ⟨x3, rfl, rfl, hP⟩
  refine im_bkS ?_
  obtain ⟨hg4, hP⟩ := hP
  have hJ7 := hP
  have kJ8 : ∀ x6 : Int, (((x3 = 0) ∧ x6 = 1) ∨ ((¬ x3 = 0) ∧ x6 = 0)) → im_T g d 451 18 [some (.ref 6952), some (vI p1), none, none, none] [vI x6, .ref 6952] e M2 K := by
    intro x6 hx9
    have hP := hJ7 x6 hx9
    refine im_pfI (q := 21) D451_18 (im_fl cn_451 fl_12_409) sf_6952 rfl rfl ti_12_0 (by omega) ?_
    refine im_iconst (q := 22) D451_21 ?_
    refine im_st1 (q := 23) (i := 2) (L' := [some (.ref 6952), some (vI p1), some (vI 0), none, none]) D451_22 (Or.inl ⟨_, rfl, rfl⟩) (Nat.le_of_ble_eq_true rfl) rfl ?_
    refine im_iconst (q := 24) D451_23 ?_
    refine im_st1 (q := 25) (i := 3) (L' := [some (.ref 6952), some (vI p1), some (vI 0), some (vI 0), none]) D451_24 (Or.inl ⟨_, rfl, rfl⟩) (Nat.le_of_ble_eq_true rfl) rfl ?_
    refine im_iconst (q := 26) D451_25 ?_
    refine im_st1 (q := 28) (i := 4) (L' := [some (.ref 6952), some (vI p1), some (vI 0), some (vI 0), some (vI 0)]) D451_26 (Or.inr rfl) (Nat.le_of_ble_eq_true rfl) rfl ?_
    exact hP.wk ⟨rfl, rfl, rfl, rfl, rfl, trivial⟩
  refine im_ifc (q := 13) (t := 17) D451_10 rfl hg4 (fun hc5 => ?_) (fun hc5 => ?_)
  · refine im_iconst (q := 18) D451_17 ?_
    exact (kJ8 (1) (Or.inl ⟨hc5, rfl⟩)).wk ⟨rfl, rfl, trivial⟩
  · refine im_iconst (q := 14) D451_13 ?_
    refine im_goto (q := 17) (t := 18) D451_14 rfl ?_
    exact (kJ8 (0) (Or.inr ⟨hc5, rfl⟩)).wk ⟨rfl, rfl, trivial⟩
set_option maxRecDepth 20000 in
set_option maxHeartbeats 4000000 in
theorem b_told_28 {g : im_g} {d : Nat} {e : im_E} {M : im_M} {K : im_K} {p1 p2 p3 p4 : Int} (hP : (im_i32 p4) ∧ ((((16 ≤ p4 → (im_i32 p1) ∧ ((p1 = 0 → K (.inl (some (vI p2))) e M) ∧ (p1 = 1 → K (.inl (some (vI p3))) e M) ∧ (p1 = 2 → K (.inl (some (vI (M 6952 2)))) e M) ∧ (p1 = 3 → K (.inl (some (vI (M 6952 177)))) e M) ∧ (p1 = 4 → K (.inl (some (vI (M 6952 178)))) e M) ∧ (p1 = 5 → K (.inl (some (vI (M 6952 38)))) e M) ∧ (p1 = 6 → K (.inl (some (vI (M 6952 62)))) e M) ∧ (p1 = 7 → ((∀ x32 : Int, ((((M 6952 180) = 0) ∧ x32 = 0) ∨ ((¬ (M 6952 180) = 0) ∧ x32 = 1)) → K (.inl (some (vI x32))) e M))) ∧ (p1 < 0 ∨ 7 < p1 → K (.inl (some (vI 0))) e M))) ∧ (p4 < 16 → (0 ≤ p4 ∧ p4 < 16)))) ∧ (∀ x6 : Int, (((p4 < 16) ∧ ((M 6984 p4) = 0) ∧ x6 = 0) ∨ ((p4 < 16) ∧ (¬ (M 6984 p4) = 0) ∧ x6 = 1)) → (0 ≤ p4 ∧ p4 < 16) ∧ ((∀ x13 : Int, ((((M 6994 p4) = 0) ∧ x13 = 0) ∨ ((¬ (M 6994 p4) = 0) ∧ x13 = 1)) → im_T g d 451 28 [some (.ref 6952), some (vI p1), some (vI (p2 + x6)), some (vI (p3 + x13)), some (vI (p4 + 1))] [] e M K))))) : im_T g d 451 28 [some (.ref 6952), some (vI p1), some (vI p2), some (vI p3), some (vI p4)] [] e M K := by
  refine im_ld (q := 30) (i := 4) D451_28 rfl rfl rfl ?_
  refine im_bipush (q := 32) D451_30 rfl ?_
  obtain ⟨hg1, hP⟩ := hP
  obtain ⟨hP, hJ7⟩ := hP
  have kJ8 : ∀ x6 : Int, (((p4 < 16) ∧ ((M 6984 p4) = 0) ∧ x6 = 0) ∨ ((p4 < 16) ∧ (¬ (M 6984 p4) = 0) ∧ x6 = 1)) → im_T g d 451 51 [some (.ref 6952), some (vI p1), none, some (vI p3), some (vI p4)] [vI x6, vI p2] e M K := by
    intro x6 hx9
    have hP := hJ7 x6 hx9
    refine im_iadd (q := 52) D451_51 ?_
    refine im_st1 (q := 53) (i := 2) (L' := [some (.ref 6952), some (vI p1), some (vI (p2 + x6)), some (vI p3), some (vI p4)]) D451_52 (Or.inl ⟨_, rfl, rfl⟩) (Nat.le_of_ble_eq_true rfl) rfl ?_
    refine im_ld (q := 54) (i := 3) D451_53 rfl rfl rfl ?_
    refine im_ld (q := 55) (i := 0) D451_54 rfl rfl rfl ?_
    refine im_gfR (q := 58) (b := 6994) D451_55 (im_fl cn_451 fl_12_136) sf_6952 rfl rfl tR_12_66 rf_6952_66 ?_
    refine im_ld (q := 60) (i := 4) D451_58 rfl rfl rfl ?_
    obtain ⟨hg10, hP⟩ := hP
    refine im_rng (j := p4) sf_6994 hg10.1 hg10.2 (fun hr11 => ?_)
    refine im_bald (q := 61) D451_60 sf_6994 (Or.inr rfl) hg10.1 hg10.2 (by decide) rfl ?_
    have hJ14 := hP
    have kJ15 : ∀ x13 : Int, ((((M 6994 p4) = 0) ∧ x13 = 0) ∨ ((¬ (M 6994 p4) = 0) ∧ x13 = 1)) → im_T g d 451 69 [some (.ref 6952), some (vI p1), some (vI (p2 + x6)), none, some (vI p4)] [vI x13, vI p3] e M K := by
      intro x13 hx16
      have hP := hJ14 x13 hx16
      refine im_iadd (q := 70) D451_69 ?_
      refine im_st1 (q := 71) (i := 3) (L' := [some (.ref 6952), some (vI p1), some (vI (p2 + x6)), some (vI (p3 + x13)), some (vI p4)]) D451_70 (Or.inl ⟨_, rfl, rfl⟩) (Nat.le_of_ble_eq_true rfl) rfl ?_
      refine im_iinc (q := 74) (i := 4) (L' := [some (.ref 6952), some (vI p1), some (vI (p2 + x6)), some (vI (p3 + x13)), some (vI (p4 + 1))]) D451_71 rfl (Nat.le_of_ble_eq_true rfl) rfl ?_
      refine im_goto (q := 77) (t := 28) D451_74 rfl ?_
      exact hP.wk ⟨rfl, rfl, rfl, rfl, rfl, trivial⟩
    refine im_ifc (q := 64) (t := 68) D451_61 rfl (im_z32 hr11) (fun hc12 => ?_) (fun hc12 => ?_)
    · refine im_iconst (q := 69) D451_68 ?_
      exact (kJ15 (0) (Or.inl ⟨hc12, rfl⟩)).wk ⟨rfl, rfl, rfl, rfl, trivial⟩
    · refine im_iconst (q := 65) D451_64 ?_
      refine im_goto (q := 68) (t := 69) D451_65 rfl ?_
      exact (kJ15 (1) (Or.inr ⟨hc12, rfl⟩)).wk ⟨rfl, rfl, rfl, rfl, trivial⟩
  refine im_icmp (q := 35) (t := 77) D451_32 rfl hg1 (by decide) (fun hc2 => ?_) (fun hc2 => ?_)
  · replace hP := hP.1 hc2
    refine im_ld (q := 78) (i := 1) D451_77 rfl rfl rfl ?_
    obtain ⟨hg17, hP⟩ := hP
    by_cases hc18 : p1 = 0
    · refine im_tsw (q := 79) (t := 124) D451_78 hg17 (fun _ => by rcases hc18 with hc18 <;> (rw [hc18]; rfl)) (by rcases hc18 with hc18 <;> (rw [hc18]; rfl)) ?_
      replace hP := hP.1 hc18
      refine im_ld (q := 125) (i := 2) D451_124 rfl rfl rfl ?_
      exact im_iret (q := 126) D451_125 rfl hP
    by_cases hc19 : p1 = 1
    · refine im_tsw (q := 79) (t := 126) D451_78 hg17 (fun _ => by rcases hc19 with hc19 <;> (rw [hc19]; rfl)) (by rcases hc19 with hc19 <;> (rw [hc19]; rfl)) ?_
      replace hP := hP.2.1 hc19
      refine im_ld (q := 127) (i := 3) D451_126 rfl rfl rfl ?_
      exact im_iret (q := 128) D451_127 rfl hP
    by_cases hc21 : p1 = 2
    · refine im_tsw (q := 79) (t := 128) D451_78 hg17 (fun _ => by rcases hc21 with hc21 <;> (rw [hc21]; rfl)) (by rcases hc21 with hc21 <;> (rw [hc21]; rfl)) ?_
      replace hP := hP.2.2.1 hc21
      refine im_ld (q := 129) (i := 0) D451_128 rfl rfl rfl ?_
      refine im_rng (j := 2) sf_6952 (by decide) (by decide) (fun hr20 => ?_)
      refine im_gfI (q := 132) D451_129 (im_fl cn_451 fl_12_416) sf_6952 rfl rfl tI_12_2 rfl ?_
      exact im_iret (q := 133) D451_132 rfl hP
    by_cases hc23 : p1 = 3
    · refine im_tsw (q := 79) (t := 133) D451_78 hg17 (fun _ => by rcases hc23 with hc23 <;> (rw [hc23]; rfl)) (by rcases hc23 with hc23 <;> (rw [hc23]; rfl)) ?_
      replace hP := hP.2.2.2.1 hc23
      refine im_ld (q := 134) (i := 0) D451_133 rfl rfl rfl ?_
      refine im_rng (j := 177) sf_6952 (by decide) (by decide) (fun hr22 => ?_)
      refine im_gfI (q := 137) D451_134 (im_fl cn_451 fl_12_1140) sf_6952 rfl rfl tI_12_177 rfl ?_
      exact im_iret (q := 138) D451_137 rfl hP
    by_cases hc25 : p1 = 4
    · refine im_tsw (q := 79) (t := 138) D451_78 hg17 (fun _ => by rcases hc25 with hc25 <;> (rw [hc25]; rfl)) (by rcases hc25 with hc25 <;> (rw [hc25]; rfl)) ?_
      replace hP := hP.2.2.2.2.1 hc25
      refine im_ld (q := 139) (i := 0) D451_138 rfl rfl rfl ?_
      refine im_rng (j := 178) sf_6952 (by decide) (by decide) (fun hr24 => ?_)
      refine im_gfI (q := 142) D451_139 (im_fl cn_451 fl_12_1154) sf_6952 rfl rfl tI_12_178 rfl ?_
      exact im_iret (q := 143) D451_142 rfl hP
    by_cases hc27 : p1 = 5
    · refine im_tsw (q := 79) (t := 143) D451_78 hg17 (fun _ => by rcases hc27 with hc27 <;> (rw [hc27]; rfl)) (by rcases hc27 with hc27 <;> (rw [hc27]; rfl)) ?_
      replace hP := hP.2.2.2.2.2.1 hc27
      refine im_ld (q := 144) (i := 0) D451_143 rfl rfl rfl ?_
      refine im_rng (j := 38) sf_6952 (by decide) (by decide) (fun hr26 => ?_)
      refine im_gfI (q := 147) D451_144 (im_fl cn_451 fl_12_632) sf_6952 rfl rfl tI_12_38 rfl ?_
      exact im_iret (q := 148) D451_147 rfl hP
    by_cases hc29 : p1 = 6
    · refine im_tsw (q := 79) (t := 148) D451_78 hg17 (fun _ => by rcases hc29 with hc29 <;> (rw [hc29]; rfl)) (by rcases hc29 with hc29 <;> (rw [hc29]; rfl)) ?_
      replace hP := hP.2.2.2.2.2.2.1 hc29
      refine im_ld (q := 149) (i := 0) D451_148 rfl rfl rfl ?_
      refine im_rng (j := 62) sf_6952 (by decide) (by decide) (fun hr28 => ?_)
      refine im_gfI (q := 152) D451_149 (im_fl cn_451 fl_12_794) sf_6952 rfl rfl tI_12_62 rfl ?_
      exact im_iret (q := 153) D451_152 rfl hP
    by_cases hc36 : p1 = 7
    · refine im_tsw (q := 79) (t := 153) D451_78 hg17 (fun _ => by rcases hc36 with hc36 <;> (rw [hc36]; rfl)) (by rcases hc36 with hc36 <;> (rw [hc36]; rfl)) ?_
      replace hP := hP.2.2.2.2.2.2.2.1 hc36
      refine im_ld (q := 154) (i := 0) D451_153 rfl rfl rfl ?_
      refine im_rng (j := 180) sf_6952 (by decide) (by decide) (fun hr30 => ?_)
      refine im_gfI (q := 157) D451_154 (im_fl cn_451 fl_12_412) sf_6952 rfl rfl tI_12_180 rfl ?_
      have hJ33 := hP
      have kJ34 : ∀ x32 : Int, ((((M 6952 180) = 0) ∧ x32 = 0) ∨ ((¬ (M 6952 180) = 0) ∧ x32 = 1)) → im_T g d 451 165 [none, none, none, none, none] [vI x32] e M K := by
        intro x32 hx35
        have hP := hJ33 x32 hx35
        exact im_iret (q := 166) D451_165 rfl hP
      refine im_ifc (q := 160) (t := 164) D451_157 rfl (im_z32 hr30) (fun hc31 => ?_) (fun hc31 => ?_)
      · refine im_iconst (q := 165) D451_164 ?_
        exact (kJ34 (0) (Or.inl ⟨hc31, rfl⟩)).wk trivial
      · refine im_iconst (q := 161) D451_160 ?_
        refine im_goto (q := 164) (t := 165) D451_161 rfl ?_
        exact (kJ34 (1) (Or.inr ⟨hc31, rfl⟩)).wk trivial
    have hd37 : p1 < 0 ∨ 7 < p1 := by omega
    refine im_tsw (q := 79) (t := 166) D451_78 hg17 (fun z9 => absurd hd37 z9) (by rw [if_pos hd37]; rfl) ?_
    replace hP := hP.2.2.2.2.2.2.2.2 hd37
    refine im_iconst (q := 167) D451_166 ?_
    exact im_iret (q := 168) D451_167 rfl hP
  · replace hP := hP.2 (Int.not_le.mp hc2)
    refine im_ld (q := 36) (i := 2) D451_35 rfl rfl rfl ?_
    refine im_ld (q := 37) (i := 0) D451_36 rfl rfl rfl ?_
    refine im_gfR (q := 40) (b := 6984) D451_37 (im_fl cn_451 fl_12_106) sf_6952 rfl rfl tR_12_52 rf_6952_52 ?_
    refine im_ld (q := 42) (i := 4) D451_40 rfl rfl rfl ?_
    have hg3 := hP
    refine im_rng (j := p4) sf_6984 hg3.1 hg3.2 (fun hr4 => ?_)
    refine im_bald (q := 43) D451_42 sf_6984 (Or.inr rfl) hg3.1 hg3.2 (by decide) rfl ?_
    refine im_ifc (q := 46) (t := 50) D451_43 rfl (im_z32 hr4) (fun hc5 => ?_) (fun hc5 => ?_)
    · refine im_iconst (q := 51) D451_50 ?_
      exact (kJ8 (0) (Or.inl ⟨(Int.not_le.mp hc2), hc5, rfl⟩)).wk ⟨rfl, rfl, rfl, rfl, trivial⟩
    · refine im_iconst (q := 47) D451_46 ?_
      refine im_goto (q := 50) (t := 51) D451_47 rfl ?_
      exact (kJ8 (1) (Or.inr ⟨(Int.not_le.mp hc2), hc5, rfl⟩)).wk ⟨rfl, rfl, rfl, rfl, trivial⟩

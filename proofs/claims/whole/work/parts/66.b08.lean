/-! blocks of the reference -/
theorem D328_0 {g : im_g} : im_D g 328 0 (.aload_n 0) 1 := im_D.of (by decide +kernel)
theorem D328_1 {g : im_g} : im_D g 328 1 (.iconst 3) 2 := im_D.of (by decide +kernel)
theorem D328_2 {g : im_g} : im_D g 328 2 (.iload_n 1) 3 := im_D.of (by decide +kernel)
theorem D328_3 {g : im_g} : im_D g 328 3 (.i2l) 4 := im_D.of (by decide +kernel)
theorem D328_4 {g : im_g} : im_D g 328 4 (.lconst 0) 5 := im_D.of (by decide +kernel)
theorem D328_5 {g : im_g} : im_D g 328 5 (.ldc2_w 729) 8 := im_D.of (by decide +kernel)
theorem D328_8 {g : im_g} : im_D g 328 8 (.invokestatic 428) 11 := im_D.of (by decide +kernel)
theorem D328_11 {g : im_g} : im_D g 328 11 (.iload_n 2) 12 := im_D.of (by decide +kernel)
theorem D328_12 {g : im_g} : im_D g 328 12 (.i2l) 13 := im_D.of (by decide +kernel)
theorem D328_13 {g : im_g} : im_D g 328 13 (.lconst 0) 14 := im_D.of (by decide +kernel)
theorem D328_14 {g : im_g} : im_D g 328 14 (.ldc2_w 785) 17 := im_D.of (by decide +kernel)
theorem D328_17 {g : im_g} : im_D g 328 17 (.invokestatic 428) 20 := im_D.of (by decide +kernel)
theorem D328_20 {g : im_g} : im_D g 328 20 (.iload_n 1) 21 := im_D.of (by decide +kernel)
theorem D328_21 {g : im_g} : im_D g 328 21 (.i2l) 22 := im_D.of (by decide +kernel)
theorem D328_22 {g : im_g} : im_D g 328 22 (.lconst 0) 23 := im_D.of (by decide +kernel)
theorem D328_23 {g : im_g} : im_D g 328 23 (.ldc2_w 729) 26 := im_D.of (by decide +kernel)
theorem D328_26 {g : im_g} : im_D g 328 26 (.invokestatic 428) 29 := im_D.of (by decide +kernel)
theorem D328_29 {g : im_g} : im_D g 328 29 (.ifCond .eq 16) 32 := im_D.of (by decide +kernel)
theorem D328_32 {g : im_g} : im_D g 328 32 (.aload_n 0) 33 := im_D.of (by decide +kernel)
theorem D328_33 {g : im_g} : im_D g 328 33 (.getfield 106) 36 := im_D.of (by decide +kernel)
theorem D328_36 {g : im_g} : im_D g 328 36 (.iload_n 1) 37 := im_D.of (by decide +kernel)
theorem D328_37 {g : im_g} : im_D g 328 37 (.baload) 38 := im_D.of (by decide +kernel)
theorem D328_38 {g : im_g} : im_D g 328 38 (.ifCond .eq 7) 41 := im_D.of (by decide +kernel)
theorem D328_41 {g : im_g} : im_D g 328 41 (.iconst 1) 42 := im_D.of (by decide +kernel)
theorem D328_42 {g : im_g} : im_D g 328 42 (.goto 4) 45 := im_D.of (by decide +kernel)
theorem D328_45 {g : im_g} : im_D g 328 45 (.iconst 0) 46 := im_D.of (by decide +kernel)
theorem D328_46 {g : im_g} : im_D g 328 46 (.invokevirtual 419) 49 := im_D.of (by decide +kernel)
theorem D328_49 {g : im_g} : im_D g 328 49 (.ifCond .ne 5) 52 := im_D.of (by decide +kernel)
theorem D328_52 {g : im_g} : im_D g 328 52 (.lconst 0) 53 := im_D.of (by decide +kernel)
theorem D328_53 {g : im_g} : im_D g 328 53 (.lreturn) 54 := im_D.of (by decide +kernel)
theorem D328_54 {g : im_g} : im_D g 328 54 (.aload_n 0) 55 := im_D.of (by decide +kernel)
theorem D328_55 {g : im_g} : im_D g 328 55 (.getfield 109) 58 := im_D.of (by decide +kernel)
theorem D328_58 {g : im_g} : im_D g 328 58 (.iload_n 1) 59 := im_D.of (by decide +kernel)
theorem D328_59 {g : im_g} : im_D g 328 59 (.iaload) 60 := im_D.of (by decide +kernel)
theorem D328_60 {g : im_g} : im_D g 328 60 (.istore_n 3) 61 := im_D.of (by decide +kernel)
theorem D328_61 {g : im_g} : im_D g 328 61 (.iload_n 3) 62 := im_D.of (by decide +kernel)
theorem D328_62 {g : im_g} : im_D g 328 62 (.aload_n 0) 63 := im_D.of (by decide +kernel)
theorem D328_63 {g : im_g} : im_D g 328 63 (.getfield 112) 66 := im_D.of (by decide +kernel)
theorem D328_66 {g : im_g} : im_D g 328 66 (.iload_n 1) 67 := im_D.of (by decide +kernel)
theorem D328_67 {g : im_g} : im_D g 328 67 (.iaload) 68 := im_D.of (by decide +kernel)
theorem D328_68 {g : im_g} : im_D g 328 68 (.iadd) 69 := im_D.of (by decide +kernel)
theorem D328_69 {g : im_g} : im_D g 328 69 (.istore 4) 71 := im_D.of (by decide +kernel)
theorem D328_71 {g : im_g} : im_D g 328 71 (.iload_n 2) 72 := im_D.of (by decide +kernel)
theorem D328_72 {g : im_g} : im_D g 328 72 (.iconst 1) 73 := im_D.of (by decide +kernel)
theorem D328_73 {g : im_g} : im_D g 328 73 (.if_icmp .ne 11) 76 := im_D.of (by decide +kernel)
theorem D328_76 {g : im_g} : im_D g 328 76 (.aload_n 0) 77 := im_D.of (by decide +kernel)
theorem D328_77 {g : im_g} : im_D g 328 77 (.getfield 112) 80 := im_D.of (by decide +kernel)
theorem D328_80 {g : im_g} : im_D g 328 80 (.iload_n 1) 81 := im_D.of (by decide +kernel)
theorem D328_81 {g : im_g} : im_D g 328 81 (.iaload) 82 := im_D.of (by decide +kernel)
theorem D328_82 {g : im_g} : im_D g 328 82 (.i2l) 83 := im_D.of (by decide +kernel)
theorem D328_83 {g : im_g} : im_D g 328 83 (.lreturn) 84 := im_D.of (by decide +kernel)
theorem D328_84 {g : im_g} : im_D g 328 84 (.iload_n 2) 85 := im_D.of (by decide +kernel)
theorem D328_85 {g : im_g} : im_D g 328 85 (.iconst 3) 86 := im_D.of (by decide +kernel)
theorem D328_86 {g : im_g} : im_D g 328 86 (.if_icmp .ne 12) 89 := im_D.of (by decide +kernel)
theorem D328_89 {g : im_g} : im_D g 328 89 (.aload_n 0) 90 := im_D.of (by decide +kernel)
theorem D328_90 {g : im_g} : im_D g 328 90 (.iload_n 3) 91 := im_D.of (by decide +kernel)
theorem D328_91 {g : im_g} : im_D g 328 91 (.iload 4) 93 := im_D.of (by decide +kernel)
theorem D328_93 {g : im_g} : im_D g 328 93 (.invokevirtual 787) 96 := im_D.of (by decide +kernel)
theorem D328_96 {g : im_g} : im_D g 328 96 (.i2l) 97 := im_D.of (by decide +kernel)
theorem D328_97 {g : im_g} : im_D g 328 97 (.lreturn) 98 := im_D.of (by decide +kernel)
theorem D328_98 {g : im_g} : im_D g 328 98 (.ldc2_w 459) 101 := im_D.of (by decide +kernel)
theorem D328_101 {g : im_g} : im_D g 328 101 (.lstore 5) 103 := im_D.of (by decide +kernel)
theorem D328_103 {g : im_g} : im_D g 328 103 (.aload_n 0) 104 := im_D.of (by decide +kernel)
theorem D328_104 {g : im_g} : im_D g 328 104 (.iconst 0) 105 := im_D.of (by decide +kernel)
theorem D328_105 {g : im_g} : im_D g 328 105 (.putfield 779) 108 := im_D.of (by decide +kernel)
theorem D328_108 {g : im_g} : im_D g 328 108 (.iload_n 3) 109 := im_D.of (by decide +kernel)
theorem D328_109 {g : im_g} : im_D g 328 109 (.istore 7) 111 := im_D.of (by decide +kernel)
theorem D328_111 {g : im_g} : im_D g 328 111 (.iload 7) 113 := im_D.of (by decide +kernel)
theorem D328_113 {g : im_g} : im_D g 328 113 (.iload 4) 115 := im_D.of (by decide +kernel)
theorem D328_115 {g : im_g} : im_D g 328 115 (.if_icmp .ge 176) 118 := im_D.of (by decide +kernel)
theorem D328_118 {g : im_g} : im_D g 328 118 (.aload_n 0) 119 := im_D.of (by decide +kernel)
theorem D328_119 {g : im_g} : im_D g 328 119 (.getfield 33) 122 := im_D.of (by decide +kernel)
theorem D328_122 {g : im_g} : im_D g 328 122 (.iload 7) 124 := im_D.of (by decide +kernel)
theorem D328_124 {g : im_g} : im_D g 328 124 (.iaload) 125 := im_D.of (by decide +kernel)
theorem D328_125 {g : im_g} : im_D g 328 125 (.iconst 5) 126 := im_D.of (by decide +kernel)
theorem D328_126 {g : im_g} : im_D g 328 126 (.if_icmp .ne 36) 129 := im_D.of (by decide +kernel)
theorem D328_129 {g : im_g} : im_D g 328 129 (.aload_n 0) 130 := im_D.of (by decide +kernel)
theorem D328_130 {g : im_g} : im_D g 328 130 (.getfield 63) 133 := im_D.of (by decide +kernel)
theorem D328_133 {g : im_g} : im_D g 328 133 (.iload 7) 135 := im_D.of (by decide +kernel)
theorem D328_135 {g : im_g} : im_D g 328 135 (.baload) 136 := im_D.of (by decide +kernel)
theorem D328_136 {g : im_g} : im_D g 328 136 (.ifCond .ne 26) 139 := im_D.of (by decide +kernel)
theorem D328_139 {g : im_g} : im_D g 328 139 (.aload_n 0) 140 := im_D.of (by decide +kernel)
theorem D328_140 {g : im_g} : im_D g 328 140 (.getfield 60) 143 := im_D.of (by decide +kernel)
theorem D328_143 {g : im_g} : im_D g 328 143 (.iload 7) 145 := im_D.of (by decide +kernel)
theorem D328_145 {g : im_g} : im_D g 328 145 (.laload) 146 := im_D.of (by decide +kernel)
theorem D328_146 {g : im_g} : im_D g 328 146 (.lload 5) 148 := im_D.of (by decide +kernel)
theorem D328_148 {g : im_g} : im_D g 328 148 (.lcmp) 149 := im_D.of (by decide +kernel)
theorem D328_149 {g : im_g} : im_D g 328 149 (.ifCond .le 13) 152 := im_D.of (by decide +kernel)
theorem D328_152 {g : im_g} : im_D g 328 152 (.aload_n 0) 153 := im_D.of (by decide +kernel)
theorem D328_153 {g : im_g} : im_D g 328 153 (.getfield 60) 156 := im_D.of (by decide +kernel)
theorem D328_156 {g : im_g} : im_D g 328 156 (.iload 7) 158 := im_D.of (by decide +kernel)
theorem D328_158 {g : im_g} : im_D g 328 158 (.laload) 159 := im_D.of (by decide +kernel)
theorem D328_159 {g : im_g} : im_D g 328 159 (.goto 5) 162 := im_D.of (by decide +kernel)
theorem D328_162 {g : im_g} : im_D g 328 162 (.lload 5) 164 := im_D.of (by decide +kernel)
theorem D328_164 {g : im_g} : im_D g 328 164 (.lstore 5) 166 := im_D.of (by decide +kernel)
theorem D328_166 {g : im_g} : im_D g 328 166 (.iload_n 2) 167 := im_D.of (by decide +kernel)
theorem D328_167 {g : im_g} : im_D g 328 167 (.iconst 2) 168 := im_D.of (by decide +kernel)
theorem D328_168 {g : im_g} : im_D g 328 168 (.if_icmp .ne 48) 171 := im_D.of (by decide +kernel)
theorem D328_171 {g : im_g} : im_D g 328 171 (.aload_n 0) 172 := im_D.of (by decide +kernel)
theorem D328_172 {g : im_g} : im_D g 328 172 (.getfield 33) 175 := im_D.of (by decide +kernel)
theorem D328_175 {g : im_g} : im_D g 328 175 (.iload 7) 177 := im_D.of (by decide +kernel)
theorem D328_177 {g : im_g} : im_D g 328 177 (.iaload) 178 := im_D.of (by decide +kernel)
theorem D328_178 {g : im_g} : im_D g 328 178 (.bipush 21) 180 := im_D.of (by decide +kernel)
theorem D328_180 {g : im_g} : im_D g 328 180 (.if_icmp .eq 24) 183 := im_D.of (by decide +kernel)
theorem D328_183 {g : im_g} : im_D g 328 183 (.aload_n 0) 184 := im_D.of (by decide +kernel)
theorem D328_184 {g : im_g} : im_D g 328 184 (.getfield 33) 187 := im_D.of (by decide +kernel)
theorem D328_187 {g : im_g} : im_D g 328 187 (.iload 7) 189 := im_D.of (by decide +kernel)
theorem D328_189 {g : im_g} : im_D g 328 189 (.iaload) 190 := im_D.of (by decide +kernel)
theorem D328_190 {g : im_g} : im_D g 328 190 (.iconst 5) 191 := im_D.of (by decide +kernel)
theorem D328_191 {g : im_g} : im_D g 328 191 (.if_icmp .ne 25) 194 := im_D.of (by decide +kernel)
theorem D328_194 {g : im_g} : im_D g 328 194 (.aload_n 0) 195 := im_D.of (by decide +kernel)
theorem D328_195 {g : im_g} : im_D g 328 195 (.getfield 63) 198 := im_D.of (by decide +kernel)
theorem D328_198 {g : im_g} : im_D g 328 198 (.iload 7) 200 := im_D.of (by decide +kernel)
theorem D328_200 {g : im_g} : im_D g 328 200 (.baload) 201 := im_D.of (by decide +kernel)
theorem D328_201 {g : im_g} : im_D g 328 201 (.ifCond .eq 15) 204 := im_D.of (by decide +kernel)
theorem D328_204 {g : im_g} : im_D g 328 204 (.aload_n 0) 205 := im_D.of (by decide +kernel)
theorem D328_205 {g : im_g} : im_D g 328 205 (.aload_n 0) 206 := im_D.of (by decide +kernel)
theorem D328_206 {g : im_g} : im_D g 328 206 (.getfield 36) 209 := im_D.of (by decide +kernel)
theorem D328_209 {g : im_g} : im_D g 328 209 (.iload 7) 211 := im_D.of (by decide +kernel)
theorem D328_211 {g : im_g} : im_D g 328 211 (.laload) 212 := im_D.of (by decide +kernel)
theorem D328_212 {g : im_g} : im_D g 328 212 (.lconst 0) 213 := im_D.of (by decide +kernel)
theorem D328_213 {g : im_g} : im_D g 328 213 (.invokevirtual 790) 216 := im_D.of (by decide +kernel)
theorem D328_216 {g : im_g} : im_D g 328 216 (.iload_n 2) 217 := im_D.of (by decide +kernel)
theorem D328_217 {g : im_g} : im_D g 328 217 (.iconst 4) 218 := im_D.of (by decide +kernel)
theorem D328_218 {g : im_g} : im_D g 328 218 (.if_icmp .ne 33) 221 := im_D.of (by decide +kernel)
theorem D328_221 {g : im_g} : im_D g 328 221 (.aload_n 0) 222 := im_D.of (by decide +kernel)
theorem D328_222 {g : im_g} : im_D g 328 222 (.getfield 33) 225 := im_D.of (by decide +kernel)
theorem D328_225 {g : im_g} : im_D g 328 225 (.iload 7) 227 := im_D.of (by decide +kernel)
theorem D328_227 {g : im_g} : im_D g 328 227 (.iaload) 228 := im_D.of (by decide +kernel)
theorem D328_228 {g : im_g} : im_D g 328 228 (.bipush 8) 230 := im_D.of (by decide +kernel)
theorem D328_230 {g : im_g} : im_D g 328 230 (.if_icmp .ne 21) 233 := im_D.of (by decide +kernel)
theorem D328_233 {g : im_g} : im_D g 328 233 (.aload_n 0) 234 := im_D.of (by decide +kernel)
theorem D328_234 {g : im_g} : im_D g 328 234 (.aload_n 0) 235 := im_D.of (by decide +kernel)
theorem D328_235 {g : im_g} : im_D g 328 235 (.getfield 36) 238 := im_D.of (by decide +kernel)
theorem D328_238 {g : im_g} : im_D g 328 238 (.iload 7) 240 := im_D.of (by decide +kernel)
theorem D328_240 {g : im_g} : im_D g 328 240 (.laload) 241 := im_D.of (by decide +kernel)
theorem D328_241 {g : im_g} : im_D g 328 241 (.aload_n 0) 242 := im_D.of (by decide +kernel)
theorem D328_242 {g : im_g} : im_D g 328 242 (.getfield 42) 245 := im_D.of (by decide +kernel)
theorem D328_245 {g : im_g} : im_D g 328 245 (.iload 7) 247 := im_D.of (by decide +kernel)
theorem D328_247 {g : im_g} : im_D g 328 247 (.laload) 248 := im_D.of (by decide +kernel)
theorem D328_248 {g : im_g} : im_D g 328 248 (.invokevirtual 790) 251 := im_D.of (by decide +kernel)
theorem D328_251 {g : im_g} : im_D g 328 251 (.iload_n 2) 252 := im_D.of (by decide +kernel)
theorem D328_252 {g : im_g} : im_D g 328 252 (.iconst 4) 253 := im_D.of (by decide +kernel)
theorem D328_253 {g : im_g} : im_D g 328 253 (.if_icmp .ne 32) 256 := im_D.of (by decide +kernel)
theorem D328_256 {g : im_g} : im_D g 328 256 (.aload_n 0) 257 := im_D.of (by decide +kernel)
theorem D328_257 {g : im_g} : im_D g 328 257 (.getfield 33) 260 := im_D.of (by decide +kernel)
theorem D328_260 {g : im_g} : im_D g 328 260 (.iload 7) 262 := im_D.of (by decide +kernel)
theorem D328_262 {g : im_g} : im_D g 328 262 (.iaload) 263 := im_D.of (by decide +kernel)
theorem D328_263 {g : im_g} : im_D g 328 263 (.iconst 3) 264 := im_D.of (by decide +kernel)
theorem D328_264 {g : im_g} : im_D g 328 264 (.if_icmp .ne 21) 267 := im_D.of (by decide +kernel)
theorem D328_267 {g : im_g} : im_D g 328 267 (.aload_n 0) 268 := im_D.of (by decide +kernel)
theorem D328_268 {g : im_g} : im_D g 328 268 (.aload_n 0) 269 := im_D.of (by decide +kernel)
theorem D328_269 {g : im_g} : im_D g 328 269 (.getfield 39) 272 := im_D.of (by decide +kernel)
theorem D328_272 {g : im_g} : im_D g 328 272 (.iload 7) 274 := im_D.of (by decide +kernel)
theorem D328_274 {g : im_g} : im_D g 328 274 (.laload) 275 := im_D.of (by decide +kernel)
theorem D328_275 {g : im_g} : im_D g 328 275 (.aload_n 0) 276 := im_D.of (by decide +kernel)
theorem D328_276 {g : im_g} : im_D g 328 276 (.getfield 42) 279 := im_D.of (by decide +kernel)
theorem D328_279 {g : im_g} : im_D g 328 279 (.iload 7) 281 := im_D.of (by decide +kernel)
theorem D328_281 {g : im_g} : im_D g 328 281 (.laload) 282 := im_D.of (by decide +kernel)
theorem D328_282 {g : im_g} : im_D g 328 282 (.invokevirtual 790) 285 := im_D.of (by decide +kernel)
theorem D328_285 {g : im_g} : im_D g 328 285 (.iinc 7 1) 288 := im_D.of (by decide +kernel)
theorem D328_288 {g : im_g} : im_D g 328 288 (.goto (-177)) 291 := im_D.of (by decide +kernel)
theorem D328_291 {g : im_g} : im_D g 328 291 (.iload_n 2) 292 := im_D.of (by decide +kernel)
theorem D328_292 {g : im_g} : im_D g 328 292 (.ifCond .ne 8) 295 := im_D.of (by decide +kernel)
theorem D328_295 {g : im_g} : im_D g 328 295 (.lload 5) 297 := im_D.of (by decide +kernel)
theorem D328_297 {g : im_g} : im_D g 328 297 (.goto 8) 300 := im_D.of (by decide +kernel)
theorem D328_300 {g : im_g} : im_D g 328 300 (.aload_n 0) 301 := im_D.of (by decide +kernel)
theorem D328_301 {g : im_g} : im_D g 328 301 (.getfield 779) 304 := im_D.of (by decide +kernel)
theorem D328_304 {g : im_g} : im_D g 328 304 (.i2l) 305 := im_D.of (by decide +kernel)
theorem D328_305 {g : im_g} : im_D g 328 305 (.lreturn) 306 := im_D.of (by decide +kernel)
theorem D329_0 {g : im_g} : im_D g 329 0 (.iconst 0) 1 := im_D.of (by decide +kernel)
theorem D329_1 {g : im_g} : im_D g 329 1 (.istore_n 3) 2 := im_D.of (by decide +kernel)
theorem D329_2 {g : im_g} : im_D g 329 2 (.aload_n 0) 3 := im_D.of (by decide +kernel)
theorem D329_3 {g : im_g} : im_D g 329 3 (.getfield 127) 6 := im_D.of (by decide +kernel)
theorem D329_6 {g : im_g} : im_D g 329 6 (.iload_n 1) 7 := im_D.of (by decide +kernel)
theorem D329_7 {g : im_g} : im_D g 329 7 (.aload_n 0) 8 := im_D.of (by decide +kernel)
theorem D329_8 {g : im_g} : im_D g 329 8 (.getfield 33) 11 := im_D.of (by decide +kernel)
theorem D329_11 {g : im_g} : im_D g 329 11 (.iload_n 1) 12 := im_D.of (by decide +kernel)
theorem D329_12 {g : im_g} : im_D g 329 12 (.iaload) 13 := im_D.of (by decide +kernel)
theorem D329_13 {g : im_g} : im_D g 329 13 (.iconst 5) 14 := im_D.of (by decide +kernel)
theorem D329_14 {g : im_g} : im_D g 329 14 (.if_icmp .ne 7) 17 := im_D.of (by decide +kernel)
theorem D329_17 {g : im_g} : im_D g 329 17 (.iconst 1) 18 := im_D.of (by decide +kernel)
theorem D329_18 {g : im_g} : im_D g 329 18 (.goto 4) 21 := im_D.of (by decide +kernel)
theorem D329_21 {g : im_g} : im_D g 329 21 (.iconst 0) 22 := im_D.of (by decide +kernel)
theorem D329_22 {g : im_g} : im_D g 329 22 (.iastore) 23 := im_D.of (by decide +kernel)
theorem D329_23 {g : im_g} : im_D g 329 23 (.iload_n 1) 24 := im_D.of (by decide +kernel)
theorem D329_24 {g : im_g} : im_D g 329 24 (.istore 4) 26 := im_D.of (by decide +kernel)
theorem D329_26 {g : im_g} : im_D g 329 26 (.iload 4) 28 := im_D.of (by decide +kernel)
theorem D329_28 {g : im_g} : im_D g 329 28 (.iload_n 2) 29 := im_D.of (by decide +kernel)
theorem D329_29 {g : im_g} : im_D g 329 29 (.if_icmp .ge 127) 32 := im_D.of (by decide +kernel)
theorem D329_32 {g : im_g} : im_D g 329 32 (.aload_n 0) 33 := im_D.of (by decide +kernel)
theorem D329_33 {g : im_g} : im_D g 329 33 (.getfield 127) 36 := im_D.of (by decide +kernel)
theorem D329_36 {g : im_g} : im_D g 329 36 (.iload 4) 38 := im_D.of (by decide +kernel)
theorem D329_38 {g : im_g} : im_D g 329 38 (.iaload) 39 := im_D.of (by decide +kernel)
theorem D329_39 {g : im_g} : im_D g 329 39 (.iload_n 3) 40 := im_D.of (by decide +kernel)
theorem D329_40 {g : im_g} : im_D g 329 40 (.if_icmp .le 13) 43 := im_D.of (by decide +kernel)
theorem D329_43 {g : im_g} : im_D g 329 43 (.aload_n 0) 44 := im_D.of (by decide +kernel)
theorem D329_44 {g : im_g} : im_D g 329 44 (.getfield 127) 47 := im_D.of (by decide +kernel)
theorem D329_47 {g : im_g} : im_D g 329 47 (.iload 4) 49 := im_D.of (by decide +kernel)
theorem D329_49 {g : im_g} : im_D g 329 49 (.iaload) 50 := im_D.of (by decide +kernel)
theorem D329_50 {g : im_g} : im_D g 329 50 (.goto 4) 53 := im_D.of (by decide +kernel)
theorem D329_53 {g : im_g} : im_D g 329 53 (.iload_n 3) 54 := im_D.of (by decide +kernel)
theorem D329_54 {g : im_g} : im_D g 329 54 (.istore_n 3) 55 := im_D.of (by decide +kernel)
theorem D329_55 {g : im_g} : im_D g 329 55 (.aload_n 0) 56 := im_D.of (by decide +kernel)
theorem D329_56 {g : im_g} : im_D g 329 56 (.aload_n 0) 57 := im_D.of (by decide +kernel)
theorem D329_57 {g : im_g} : im_D g 329 57 (.getfield 45) 60 := im_D.of (by decide +kernel)
theorem D329_60 {g : im_g} : im_D g 329 60 (.iload 4) 62 := im_D.of (by decide +kernel)
theorem D329_62 {g : im_g} : im_D g 329 62 (.iaload) 63 := im_D.of (by decide +kernel)
theorem D329_63 {g : im_g} : im_D g 329 63 (.aload_n 0) 64 := im_D.of (by decide +kernel)
theorem D329_64 {g : im_g} : im_D g 329 64 (.getfield 127) 67 := im_D.of (by decide +kernel)
theorem D329_67 {g : im_g} : im_D g 329 67 (.iload 4) 69 := im_D.of (by decide +kernel)
theorem D329_69 {g : im_g} : im_D g 329 69 (.iaload) 70 := im_D.of (by decide +kernel)
theorem D329_70 {g : im_g} : im_D g 329 70 (.invokevirtual 782) 73 := im_D.of (by decide +kernel)
theorem D329_73 {g : im_g} : im_D g 329 73 (.aload_n 0) 74 := im_D.of (by decide +kernel)
theorem D329_74 {g : im_g} : im_D g 329 74 (.aload_n 0) 75 := im_D.of (by decide +kernel)
theorem D329_75 {g : im_g} : im_D g 329 75 (.getfield 48) 78 := im_D.of (by decide +kernel)
theorem D329_78 {g : im_g} : im_D g 329 78 (.iload 4) 80 := im_D.of (by decide +kernel)
theorem D329_80 {g : im_g} : im_D g 329 80 (.iaload) 81 := im_D.of (by decide +kernel)
theorem D329_81 {g : im_g} : im_D g 329 81 (.aload_n 0) 82 := im_D.of (by decide +kernel)
theorem D329_82 {g : im_g} : im_D g 329 82 (.getfield 127) 85 := im_D.of (by decide +kernel)
theorem D329_85 {g : im_g} : im_D g 329 85 (.iload 4) 87 := im_D.of (by decide +kernel)
theorem D329_87 {g : im_g} : im_D g 329 87 (.iaload) 88 := im_D.of (by decide +kernel)
theorem D329_88 {g : im_g} : im_D g 329 88 (.invokevirtual 782) 91 := im_D.of (by decide +kernel)
theorem D329_91 {g : im_g} : im_D g 329 91 (.aload_n 0) 92 := im_D.of (by decide +kernel)
theorem D329_92 {g : im_g} : im_D g 329 92 (.getfield 33) 95 := im_D.of (by decide +kernel)
theorem D329_95 {g : im_g} : im_D g 329 95 (.iload 4) 97 := im_D.of (by decide +kernel)
theorem D329_97 {g : im_g} : im_D g 329 97 (.iaload) 98 := im_D.of (by decide +kernel)
theorem D329_98 {g : im_g} : im_D g 329 98 (.iconst 5) 99 := im_D.of (by decide +kernel)
theorem D329_99 {g : im_g} : im_D g 329 99 (.if_icmp .eq 21) 102 := im_D.of (by decide +kernel)
theorem D329_102 {g : im_g} : im_D g 329 102 (.aload_n 0) 103 := im_D.of (by decide +kernel)
theorem D329_103 {g : im_g} : im_D g 329 103 (.aload_n 0) 104 := im_D.of (by decide +kernel)
theorem D329_104 {g : im_g} : im_D g 329 104 (.getfield 51) 107 := im_D.of (by decide +kernel)
theorem D329_107 {g : im_g} : im_D g 329 107 (.iload 4) 109 := im_D.of (by decide +kernel)
theorem D329_109 {g : im_g} : im_D g 329 109 (.iaload) 110 := im_D.of (by decide +kernel)
theorem D329_110 {g : im_g} : im_D g 329 110 (.aload_n 0) 111 := im_D.of (by decide +kernel)
theorem D329_111 {g : im_g} : im_D g 329 111 (.getfield 127) 114 := im_D.of (by decide +kernel)
theorem D329_114 {g : im_g} : im_D g 329 114 (.iload 4) 116 := im_D.of (by decide +kernel)
theorem D329_116 {g : im_g} : im_D g 329 116 (.iaload) 117 := im_D.of (by decide +kernel)
theorem D329_117 {g : im_g} : im_D g 329 117 (.invokevirtual 782) 120 := im_D.of (by decide +kernel)
theorem D329_120 {g : im_g} : im_D g 329 120 (.aload_n 0) 121 := im_D.of (by decide +kernel)
theorem D329_121 {g : im_g} : im_D g 329 121 (.getfield 54) 124 := im_D.of (by decide +kernel)
theorem D329_124 {g : im_g} : im_D g 329 124 (.iload 4) 126 := im_D.of (by decide +kernel)
theorem D329_126 {g : im_g} : im_D g 329 126 (.iaload) 127 := im_D.of (by decide +kernel)
theorem D329_127 {g : im_g} : im_D g 329 127 (.iconst (-1)) 128 := im_D.of (by decide +kernel)
theorem D329_128 {g : im_g} : im_D g 329 128 (.if_icmp .eq 22) 131 := im_D.of (by decide +kernel)
theorem D329_131 {g : im_g} : im_D g 329 131 (.aload_n 0) 132 := im_D.of (by decide +kernel)
theorem D329_132 {g : im_g} : im_D g 329 132 (.getfield 127) 135 := im_D.of (by decide +kernel)
theorem D329_135 {g : im_g} : im_D g 329 135 (.aload_n 0) 136 := im_D.of (by decide +kernel)
theorem D329_136 {g : im_g} : im_D g 329 136 (.getfield 54) 139 := im_D.of (by decide +kernel)
theorem D329_139 {g : im_g} : im_D g 329 139 (.iload 4) 141 := im_D.of (by decide +kernel)
theorem D329_141 {g : im_g} : im_D g 329 141 (.iaload) 142 := im_D.of (by decide +kernel)
theorem D329_142 {g : im_g} : im_D g 329 142 (.aload_n 0) 143 := im_D.of (by decide +kernel)
theorem D329_143 {g : im_g} : im_D g 329 143 (.getfield 127) 146 := im_D.of (by decide +kernel)
theorem D329_146 {g : im_g} : im_D g 329 146 (.iload 4) 148 := im_D.of (by decide +kernel)
theorem D329_148 {g : im_g} : im_D g 329 148 (.iaload) 149 := im_D.of (by decide +kernel)
theorem D329_149 {g : im_g} : im_D g 329 149 (.iastore) 150 := im_D.of (by decide +kernel)
theorem D329_150 {g : im_g} : im_D g 329 150 (.iinc 4 1) 153 := im_D.of (by decide +kernel)
theorem D329_153 {g : im_g} : im_D g 329 153 (.goto (-127)) 156 := im_D.of (by decide +kernel)
theorem D329_156 {g : im_g} : im_D g 329 156 (.iload_n 3) 157 := im_D.of (by decide +kernel)
theorem D329_157 {g : im_g} : im_D g 329 157 (.ireturn) 158 := im_D.of (by decide +kernel)
theorem D330_0 {g : im_g} : im_D g 330 0 (.iload_n 1) 1 := im_D.of (by decide +kernel)
theorem D330_1 {g : im_g} : im_D g 330 1 (.iconst (-1)) 2 := im_D.of (by decide +kernel)
theorem D330_2 {g : im_g} : im_D g 330 2 (.if_icmp .eq 26) 5 := im_D.of (by decide +kernel)
theorem D330_5 {g : im_g} : im_D g 330 5 (.aload_n 0) 6 := im_D.of (by decide +kernel)
theorem D330_6 {g : im_g} : im_D g 330 6 (.getfield 127) 9 := im_D.of (by decide +kernel)
theorem D330_9 {g : im_g} : im_D g 330 9 (.iload_n 1) 10 := im_D.of (by decide +kernel)
theorem D330_10 {g : im_g} : im_D g 330 10 (.iload_n 2) 11 := im_D.of (by decide +kernel)
theorem D330_11 {g : im_g} : im_D g 330 11 (.aload_n 0) 12 := im_D.of (by decide +kernel)
theorem D330_12 {g : im_g} : im_D g 330 12 (.getfield 33) 15 := im_D.of (by decide +kernel)
theorem D330_15 {g : im_g} : im_D g 330 15 (.iload_n 1) 16 := im_D.of (by decide +kernel)
theorem D330_16 {g : im_g} : im_D g 330 16 (.iaload) 17 := im_D.of (by decide +kernel)
theorem D330_17 {g : im_g} : im_D g 330 17 (.iconst 5) 18 := im_D.of (by decide +kernel)
theorem D330_18 {g : im_g} : im_D g 330 18 (.if_icmp .ne 7) 21 := im_D.of (by decide +kernel)
theorem D330_21 {g : im_g} : im_D g 330 21 (.iconst 1) 22 := im_D.of (by decide +kernel)
theorem D330_22 {g : im_g} : im_D g 330 22 (.goto 4) 25 := im_D.of (by decide +kernel)
theorem D330_25 {g : im_g} : im_D g 330 25 (.iconst 0) 26 := im_D.of (by decide +kernel)
theorem D330_26 {g : im_g} : im_D g 330 26 (.iadd) 27 := im_D.of (by decide +kernel)
theorem D330_27 {g : im_g} : im_D g 330 27 (.iastore) 28 := im_D.of (by decide +kernel)
theorem D330_28 {g : im_g} : im_D g 330 28 (.return_) 29 := im_D.of (by decide +kernel)
theorem D331_0 {g : im_g} : im_D g 331 0 (.iconst 0) 1 := im_D.of (by decide +kernel)
theorem D331_1 {g : im_g} : im_D g 331 1 (.istore 5) 3 := im_D.of (by decide +kernel)
theorem D331_3 {g : im_g} : im_D g 331 3 (.iconst 0) 4 := im_D.of (by decide +kernel)
theorem D331_4 {g : im_g} : im_D g 331 4 (.istore 6) 6 := im_D.of (by decide +kernel)
theorem D331_6 {g : im_g} : im_D g 331 6 (.iload 6) 8 := im_D.of (by decide +kernel)
theorem D331_8 {g : im_g} : im_D g 331 8 (.aload_n 0) 9 := im_D.of (by decide +kernel)
theorem D331_9 {g : im_g} : im_D g 331 9 (.getfield 779) 12 := im_D.of (by decide +kernel)
theorem D331_12 {g : im_g} : im_D g 331 12 (.if_icmp .ge 45) 15 := im_D.of (by decide +kernel)
theorem D331_15 {g : im_g} : im_D g 331 15 (.iload 5) 17 := im_D.of (by decide +kernel)
theorem D331_17 {g : im_g} : im_D g 331 17 (.ifCond .ne 40) 20 := im_D.of (by decide +kernel)
theorem D331_20 {g : im_g} : im_D g 331 20 (.aload_n 0) 21 := im_D.of (by decide +kernel)
theorem D331_21 {g : im_g} : im_D g 331 21 (.getfield 121) 24 := im_D.of (by decide +kernel)
theorem D331_24 {g : im_g} : im_D g 331 24 (.iload 6) 26 := im_D.of (by decide +kernel)
theorem D331_26 {g : im_g} : im_D g 331 26 (.laload) 27 := im_D.of (by decide +kernel)
theorem D331_27 {g : im_g} : im_D g 331 27 (.lload_n 1) 28 := im_D.of (by decide +kernel)
theorem D331_28 {g : im_g} : im_D g 331 28 (.lcmp) 29 := im_D.of (by decide +kernel)
theorem D331_29 {g : im_g} : im_D g 331 29 (.ifCond .ne 19) 32 := im_D.of (by decide +kernel)
theorem D331_32 {g : im_g} : im_D g 331 32 (.aload_n 0) 33 := im_D.of (by decide +kernel)
theorem D331_33 {g : im_g} : im_D g 331 33 (.getfield 124) 36 := im_D.of (by decide +kernel)
theorem D331_36 {g : im_g} : im_D g 331 36 (.iload 6) 38 := im_D.of (by decide +kernel)
theorem D331_38 {g : im_g} : im_D g 331 38 (.laload) 39 := im_D.of (by decide +kernel)
theorem D331_39 {g : im_g} : im_D g 331 39 (.lload_n 3) 40 := im_D.of (by decide +kernel)
theorem D331_40 {g : im_g} : im_D g 331 40 (.lcmp) 41 := im_D.of (by decide +kernel)
theorem D331_41 {g : im_g} : im_D g 331 41 (.ifCond .ne 7) 44 := im_D.of (by decide +kernel)
theorem D331_44 {g : im_g} : im_D g 331 44 (.iconst 1) 45 := im_D.of (by decide +kernel)
theorem D331_45 {g : im_g} : im_D g 331 45 (.goto 4) 48 := im_D.of (by decide +kernel)
theorem D331_48 {g : im_g} : im_D g 331 48 (.iconst 0) 49 := im_D.of (by decide +kernel)
theorem D331_49 {g : im_g} : im_D g 331 49 (.istore 5) 51 := im_D.of (by decide +kernel)
theorem D331_51 {g : im_g} : im_D g 331 51 (.iinc 6 1) 54 := im_D.of (by decide +kernel)
theorem D331_54 {g : im_g} : im_D g 331 54 (.goto (-48)) 57 := im_D.of (by decide +kernel)
theorem D331_57 {g : im_g} : im_D g 331 57 (.iload 5) 59 := im_D.of (by decide +kernel)
theorem D331_59 {g : im_g} : im_D g 331 59 (.ifCond .ne 33) 62 := im_D.of (by decide +kernel)
theorem D331_62 {g : im_g} : im_D g 331 62 (.aload_n 0) 63 := im_D.of (by decide +kernel)
theorem D331_63 {g : im_g} : im_D g 331 63 (.getfield 121) 66 := im_D.of (by decide +kernel)
theorem D331_66 {g : im_g} : im_D g 331 66 (.aload_n 0) 67 := im_D.of (by decide +kernel)
theorem D331_67 {g : im_g} : im_D g 331 67 (.getfield 779) 70 := im_D.of (by decide +kernel)
theorem D331_70 {g : im_g} : im_D g 331 70 (.lload_n 1) 71 := im_D.of (by decide +kernel)
theorem D331_71 {g : im_g} : im_D g 331 71 (.lastore) 72 := im_D.of (by decide +kernel)
theorem D331_72 {g : im_g} : im_D g 331 72 (.aload_n 0) 73 := im_D.of (by decide +kernel)
theorem D331_73 {g : im_g} : im_D g 331 73 (.getfield 124) 76 := im_D.of (by decide +kernel)
theorem D331_76 {g : im_g} : im_D g 331 76 (.aload_n 0) 77 := im_D.of (by decide +kernel)
theorem D331_77 {g : im_g} : im_D g 331 77 (.getfield 779) 80 := im_D.of (by decide +kernel)
theorem D331_80 {g : im_g} : im_D g 331 80 (.lload_n 3) 81 := im_D.of (by decide +kernel)
theorem D331_81 {g : im_g} : im_D g 331 81 (.lastore) 82 := im_D.of (by decide +kernel)
theorem D331_82 {g : im_g} : im_D g 331 82 (.aload_n 0) 83 := im_D.of (by decide +kernel)
theorem D331_83 {g : im_g} : im_D g 331 83 (.dup) 84 := im_D.of (by decide +kernel)
theorem D331_84 {g : im_g} : im_D g 331 84 (.getfield 779) 87 := im_D.of (by decide +kernel)
theorem D331_87 {g : im_g} : im_D g 331 87 (.iconst 1) 88 := im_D.of (by decide +kernel)
theorem D331_88 {g : im_g} : im_D g 331 88 (.iadd) 89 := im_D.of (by decide +kernel)
theorem D331_89 {g : im_g} : im_D g 331 89 (.putfield 779) 92 := im_D.of (by decide +kernel)
theorem D331_92 {g : im_g} : im_D g 331 92 (.return_) 93 := im_D.of (by decide +kernel)
theorem D332_0 {g : im_g} : im_D g 332 0 (.aload_n 0) 1 := im_D.of (by decide +kernel)
theorem D332_1 {g : im_g} : im_D g 332 1 (.getfield 412) 4 := im_D.of (by decide +kernel)
theorem D332_4 {g : im_g} : im_D g 332 4 (.ifCond .eq 10) 7 := im_D.of (by decide +kernel)
theorem D332_7 {g : im_g} : im_D g 332 7 (.aload_n 0) 8 := im_D.of (by decide +kernel)
theorem D332_8 {g : im_g} : im_D g 332 8 (.iconst 2) 9 := im_D.of (by decide +kernel)
theorem D332_9 {g : im_g} : im_D g 332 9 (.putfield 409) 12 := im_D.of (by decide +kernel)
theorem D332_12 {g : im_g} : im_D g 332 12 (.iconst 0) 13 := im_D.of (by decide +kernel)
theorem D332_13 {g : im_g} : im_D g 332 13 (.ireturn) 14 := im_D.of (by decide +kernel)
theorem D332_14 {g : im_g} : im_D g 332 14 (.aload_n 0) 15 := im_D.of (by decide +kernel)
theorem D332_15 {g : im_g} : im_D g 332 15 (.invokevirtual 734) 18 := im_D.of (by decide +kernel)
theorem D332_18 {g : im_g} : im_D g 332 18 (.aload_n 0) 19 := im_D.of (by decide +kernel)
theorem D332_19 {g : im_g} : im_D g 332 19 (.iconst 2) 20 := im_D.of (by decide +kernel)
theorem D332_20 {g : im_g} : im_D g 332 20 (.lload_n 1) 21 := im_D.of (by decide +kernel)
theorem D332_21 {g : im_g} : im_D g 332 21 (.invokestatic 800) 24 := im_D.of (by decide +kernel)
theorem D332_24 {g : im_g} : im_D g 332 24 (.iconst 1) 25 := im_D.of (by decide +kernel)
theorem D332_25 {g : im_g} : im_D g 332 25 (.iconst 1) 26 := im_D.of (by decide +kernel)
theorem D332_26 {g : im_g} : im_D g 332 26 (.invokevirtual 419) 29 := im_D.of (by decide +kernel)
theorem D332_29 {g : im_g} : im_D g 332 29 (.ifCond .ne 5) 32 := im_D.of (by decide +kernel)
theorem D332_32 {g : im_g} : im_D g 332 32 (.iconst 0) 33 := im_D.of (by decide +kernel)
theorem D332_33 {g : im_g} : im_D g 332 33 (.ireturn) 34 := im_D.of (by decide +kernel)
theorem D332_34 {g : im_g} : im_D g 332 34 (.aload_n 0) 35 := im_D.of (by decide +kernel)
theorem D332_35 {g : im_g} : im_D g 332 35 (.lload_n 1) 36 := im_D.of (by decide +kernel)
theorem D332_36 {g : im_g} : im_D g 332 36 (.invokevirtual 819) 39 := im_D.of (by decide +kernel)
theorem D332_39 {g : im_g} : im_D g 332 39 (.istore_n 3) 40 := im_D.of (by decide +kernel)
theorem D332_40 {g : im_g} : im_D g 332 40 (.iload_n 3) 41 := im_D.of (by decide +kernel)
theorem D332_41 {g : im_g} : im_D g 332 41 (.ifCond .ne 15) 44 := im_D.of (by decide +kernel)
theorem D332_44 {g : im_g} : im_D g 332 44 (.aload_n 0) 45 := im_D.of (by decide +kernel)
theorem D332_45 {g : im_g} : im_D g 332 45 (.bipush 7) 47 := im_D.of (by decide +kernel)
theorem D332_47 {g : im_g} : im_D g 332 47 (.iconst 1) 48 := im_D.of (by decide +kernel)
theorem D332_48 {g : im_g} : im_D g 332 48 (.lload_n 1) 49 := im_D.of (by decide +kernel)
theorem D332_49 {g : im_g} : im_D g 332 49 (.lconst 0) 50 := im_D.of (by decide +kernel)
theorem D332_50 {g : im_g} : im_D g 332 50 (.lconst 0) 51 := im_D.of (by decide +kernel)
theorem D332_51 {g : im_g} : im_D g 332 51 (.iconst 1) 52 := im_D.of (by decide +kernel)
theorem D332_52 {g : im_g} : im_D g 332 52 (.invokevirtual 740) 55 := im_D.of (by decide +kernel)
theorem D332_55 {g : im_g} : im_D g 332 55 (.istore_n 3) 56 := im_D.of (by decide +kernel)
theorem D332_56 {g : im_g} : im_D g 332 56 (.iload_n 3) 57 := im_D.of (by decide +kernel)
theorem D332_57 {g : im_g} : im_D g 332 57 (.bipush (-100)) 59 := im_D.of (by decide +kernel)
theorem D332_59 {g : im_g} : im_D g 332 59 (.if_icmp .ne 10) 62 := im_D.of (by decide +kernel)
theorem D332_62 {g : im_g} : im_D g 332 62 (.aload_n 0) 63 := im_D.of (by decide +kernel)
theorem D332_63 {g : im_g} : im_D g 332 63 (.iconst 2) 64 := im_D.of (by decide +kernel)
theorem D332_64 {g : im_g} : im_D g 332 64 (.putfield 409) 67 := im_D.of (by decide +kernel)
theorem D332_67 {g : im_g} : im_D g 332 67 (.iconst 0) 68 := im_D.of (by decide +kernel)
theorem D332_68 {g : im_g} : im_D g 332 68 (.ireturn) 69 := im_D.of (by decide +kernel)
theorem D332_69 {g : im_g} : im_D g 332 69 (.iload_n 3) 70 := im_D.of (by decide +kernel)
theorem D332_70 {g : im_g} : im_D g 332 70 (.ifCond .ge 7) 73 := im_D.of (by decide +kernel)
theorem D332_73 {g : im_g} : im_D g 332 73 (.iload_n 3) 74 := im_D.of (by decide +kernel)
theorem D332_74 {g : im_g} : im_D g 332 74 (.goto 8) 77 := im_D.of (by decide +kernel)
theorem D332_77 {g : im_g} : im_D g 332 77 (.aload_n 0) 78 := im_D.of (by decide +kernel)
theorem D332_78 {g : im_g} : im_D g 332 78 (.lload_n 1) 79 := im_D.of (by decide +kernel)
theorem D332_79 {g : im_g} : im_D g 332 79 (.invokevirtual 822) 82 := im_D.of (by decide +kernel)
theorem D332_82 {g : im_g} : im_D g 332 82 (.ireturn) 83 := im_D.of (by decide +kernel)
set_option maxRecDepth 20000 in
set_option maxHeartbeats 4000000 in
theorem b_about_0 {g : im_g} {d : Nat} {e : im_E} {M : im_M} {K : im_K} {p1 p2 : Int} (hd : 1 ≤ d) (hP : (im_i32 p1) ∧ im_T g (d - 1) 268 0 [some (vL p1), none, some (vL 0), none, some (vL 15), none] [] e M (im_ri (fun x3 e_ M2 => e = e_ ∧ (im_i32 p2) ∧ im_T g (d - 1) 268 0 [some (vL p2), none, some (vL 0), none, some (vL 4), none] [] e M2 (im_ri (fun x6 e_ M5 => e = e_ ∧ im_T g (d - 1) 268 0 [some (vL p1), none, some (vL 0), none, some (vL 15), none] [] e M5 (im_ri (fun x8 e_ M7 => e = e_ ∧ (im_i32 x8) ∧ ((((¬ x8 = 0 → (0 ≤ p1 ∧ p1 < 16) ∧ ((¬ (M7 6984 p1) = 0 → im_T g (d - 1) 264 0 [some (.ref 6952), some (vI 3), some (vI x3), some (vI x6), some (vI 1)] [] e M7 (im_ri (fun x33 e_ M32 => e = e_ ∧ (im_i32 x33) ∧ ((¬ x33 = 0 → ((¬ p2 = 1 → ((¬ p2 = 3 → im_T g d 328 111 [some (.ref 6952), none, some (vI p2), none, some (vI ((M32 6985 p1) + (M32 6986 p1))), some (vL (-1)), none, some (vI (M32 6985 p1))] [] e (im_u M32 6952 60 0) K) ∧ (p2 = 3 → im_T g (d - 1) 329 0 [some (.ref 6952), some (vI (M32 6985 p1)), some (vI ((M32 6985 p1) + (M32 6986 p1))), none, none] [] e M32 (im_ri (fun x42 e_ M41 => e = e_ ∧ (im_i32 x42) ∧ K (.inl (some (vL x42))) e M41))))) ∧ (p2 = 1 → K (.inl (some (vL (M32 6986 p1)))) e M32))) ∧ (x33 = 0 → K (.inl (some (vL 0))) e M32))))))))) ∧ ((((x8 = 0)) ∨ ((¬ x8 = 0) ∧ ((M7 6984 p1) = 0))) → im_T g (d - 1) 264 0 [some (.ref 6952), some (vI 3), some (vI x3), some (vI x6), some (vI 0)] [] e M7 (im_ri (fun x18 e_ M17 => e = e_ ∧ (im_i32 x18) ∧ ((¬ x18 = 0 → (0 ≤ p1 ∧ p1 < 16) ∧ ((¬ p2 = 1 → ((¬ p2 = 3 → im_T g d 328 111 [some (.ref 6952), none, some (vI p2), none, some (vI ((M17 6985 p1) + (M17 6986 p1))), some (vL (-1)), none, some (vI (M17 6985 p1))] [] e (im_u M17 6952 60 0) K) ∧ (p2 = 3 → im_T g (d - 1) 329 0 [some (.ref 6952), some (vI (M17 6985 p1)), some (vI ((M17 6985 p1) + (M17 6986 p1))), none, none] [] e M17 (im_ri (fun x28 e_ M27 => e = e_ ∧ (im_i32 x28) ∧ K (.inl (some (vL x28))) e M27))))) ∧ (p2 = 1 → K (.inl (some (vL (M17 6986 p1)))) e M17))) ∧ (x18 = 0 → K (.inl (some (vL 0))) e M17))))))))))))) : im_T g d 328 0 [some (.ref 6952), some (vI p1), some (vI p2), none, none, none, none, none] [] e M K := by
  refine im_ld (q := 1) (i := 0) D328_0 rfl rfl rfl ?_
  refine im_iconst (q := 2) D328_1 ?_
  refine im_ld (q := 3) (i := 1) D328_2 rfl rfl rfl ?_
  obtain ⟨hg1, hP⟩ := hP
  refine im_i2l (q := 4) D328_3 hg1 ?_
  refine im_lconst (q := 5) (z := 0) D328_4 rfl ?_
  refine im_ldc2 (q := 8) (n := 15) D328_5 rfl ?_
  refine im_callS (q := 11) (kd := 0) (y := 268) (n := 3) (z := 12) (vs := [vL p1, vL 0, vL 15]) (r := [vI 3, .ref 6952]) (L2 := [some (vL p1), none, some (vL 0), none, some (vL 15), none]) D328_8 rfl (im_cal cn_328 cl_12_428) (Or.inl rfl) rfl rfl rfl rfl rfl hd ⟨rfl, rfl, rfl, trivial⟩ ?_
  refine hP.mono ?_
  rintro _ e48 M2 ⟨x3, rfl, rfl, hP⟩
  refine im_bkS ?_
  refine im_ld (q := 12) (i := 2) D328_11 rfl rfl rfl ?_
  obtain ⟨hg4, hP⟩ := hP
  refine im_i2l (q := 13) D328_12 hg4 ?_
  refine im_lconst (q := 14) (z := 0) D328_13 rfl ?_
  refine im_ldc2 (q := 17) (n := 4) D328_14 rfl ?_
  refine im_callS (q := 20) (kd := 0) (y := 268) (n := 3) (z := 12) (vs := [vL p2, vL 0, vL 4]) (r := [vI x3, vI 3, .ref 6952]) (L2 := [some (vL p2), none, some (vL 0), none, some (vL 4), none]) D328_17 rfl (im_cal cn_328 cl_12_428) (Or.inl rfl) rfl rfl rfl rfl rfl hd ⟨rfl, rfl, rfl, trivial⟩ ?_
  refine hP.mono ?_
  rintro _ e47 M5 ⟨x6, rfl, rfl, hP⟩
  refine im_bkS ?_
  refine im_ld (q := 21) (i := 1) D328_20 rfl rfl rfl ?_
  refine im_i2l (q := 22) D328_21 hg1 ?_
  refine im_lconst (q := 23) (z := 0) D328_22 rfl ?_
  refine im_ldc2 (q := 26) (n := 15) D328_23 rfl ?_
  refine im_callS (q := 29) (kd := 0) (y := 268) (n := 3) (z := 12) (vs := [vL p1, vL 0, vL 15]) (r := [vI x6, vI x3, vI 3, .ref 6952]) (L2 := [some (vL p1), none, some (vL 0), none, some (vL 15), none]) D328_26 rfl (im_cal cn_328 cl_12_428) (Or.inl rfl) rfl rfl rfl rfl rfl hd ⟨rfl, rfl, rfl, trivial⟩ ?_
  refine hP.mono ?_
  rintro _ e46 M7 ⟨x8, rfl, rfl, hP⟩
  refine im_bkS ?_
  obtain ⟨hg9, hP⟩ := hP
  obtain ⟨hP, hJ14⟩ := hP
  have kJ15 : (((x8 = 0)) ∨ ((¬ x8 = 0) ∧ ((M7 6984 p1) = 0))) → im_T g d 328 45 [some (.ref 6952), some (vI p1), some (vI p2), none, none, none, none, none] [vI x6, vI x3, vI 3, .ref 6952] e M7 K := by
    intro  hx16
    have hP := hJ14  hx16
    refine im_iconst (q := 46) D328_45 ?_
    refine im_callV (q := 49) (kd := 1) (y := 264) (n := 4) (ci := 12) (a := 6952) (vs := [.ref 6952, vI 3, vI x3, vI x6, vI 0]) (r := []) (L2 := [some (.ref 6952), some (vI 3), some (vI x3), some (vI x6), some (vI 0)]) D328_46 (im_cal cn_328 cl_12_419) (Or.inl rfl) rfl sf_6952 rfl rfl rfl rfl hd ⟨rfl, rfl, rfl, rfl, rfl, trivial⟩ ?_
    refine hP.mono ?_
    rintro _ e31 M17 ⟨x18, rfl, rfl, hP⟩
    refine im_bkS ?_
    obtain ⟨hg19, hP⟩ := hP
    refine im_ifc (q := 52) (t := 54) D328_49 rfl hg19 (fun hc20 => ?_) (fun hc20 => ?_)
    · replace hP := hP.1 hc20
      refine im_ld (q := 55) (i := 0) D328_54 rfl rfl rfl ?_
      refine im_gfR (q := 58) (b := 6985) D328_55 (im_fl cn_328 fl_12_109) sf_6952 rfl rfl tR_12_53 rf_6952_53 ?_
      refine im_ld (q := 59) (i := 1) D328_58 rfl rfl rfl ?_
      obtain ⟨hg21, hP⟩ := hP
      refine im_rng (j := p1) sf_6985 hg21.1 hg21.2 (fun hr22 => ?_)
      refine im_iald (q := 60) D328_59 sf_6985 hg21.1 hg21.2 (by decide) rfl ?_
      refine im_st1 (q := 61) (i := 3) (L' := [some (.ref 6952), some (vI p1), some (vI p2), some (vI (M17 6985 p1)), none, none, none, none]) D328_60 (Or.inl ⟨_, rfl, rfl⟩) (Nat.le_of_ble_eq_true rfl) rfl ?_
      refine im_ld (q := 62) (i := 3) D328_61 rfl rfl rfl ?_
      refine im_ld (q := 63) (i := 0) D328_62 rfl rfl rfl ?_
      refine im_gfR (q := 66) (b := 6986) D328_63 (im_fl cn_328 fl_12_112) sf_6952 rfl rfl tR_12_54 rf_6952_54 ?_
      refine im_ld (q := 67) (i := 1) D328_66 rfl rfl rfl ?_
      refine im_rng (j := p1) sf_6986 hg21.1 hg21.2 (fun hr23 => ?_)
      refine im_iald (q := 68) D328_67 sf_6986 hg21.1 hg21.2 (by decide) rfl ?_
      refine im_iadd (q := 69) D328_68 ?_
      refine im_st1 (q := 71) (i := 4) (L' := [some (.ref 6952), some (vI p1), some (vI p2), some (vI (M17 6985 p1)), some (vI ((M17 6985 p1) + (M17 6986 p1))), none, none, none]) D328_69 (Or.inr rfl) (Nat.le_of_ble_eq_true rfl) rfl ?_
      refine im_ld (q := 72) (i := 2) D328_71 rfl rfl rfl ?_
      refine im_iconst (q := 73) D328_72 ?_
      refine im_icmp (q := 76) (t := 84) D328_73 rfl hg4 (by decide) (fun hc24 => ?_) (fun hc24 => ?_)
      · replace hP := hP.1 hc24
        refine im_ld (q := 85) (i := 2) D328_84 rfl rfl rfl ?_
        refine im_iconst (q := 86) D328_85 ?_
        refine im_icmp (q := 89) (t := 98) D328_86 rfl hg4 (by decide) (fun hc25 => ?_) (fun hc25 => ?_)
        · replace hP := hP.1 hc25
          refine im_ldc2 (q := 101) (n := (-1)) D328_98 rfl ?_
          refine im_st2 (q := 103) (i := 5) (L' := [some (.ref 6952), some (vI p1), some (vI p2), some (vI (M17 6985 p1)), some (vI ((M17 6985 p1) + (M17 6986 p1))), some (vL (-1)), none, none]) D328_101 (Or.inr rfl) (Nat.le_of_ble_eq_true rfl) rfl ?_
          refine im_ld (q := 104) (i := 0) D328_103 rfl rfl rfl ?_
          refine im_iconst (q := 105) D328_104 ?_
          refine im_pfI (q := 108) D328_105 (im_fl cn_328 fl_12_779) sf_6952 rfl rfl ti_12_60 (by decide) ?_
          refine im_ld (q := 109) (i := 3) D328_108 rfl rfl rfl ?_
          refine im_st1 (q := 111) (i := 7) (L' := [some (.ref 6952), some (vI p1), some (vI p2), some (vI (M17 6985 p1)), some (vI ((M17 6985 p1) + (M17 6986 p1))), some (vL (-1)), none, some (vI (M17 6985 p1))]) D328_109 (Or.inr rfl) (Nat.le_of_ble_eq_true rfl) rfl ?_
          exact hP.wk ⟨rfl, rfl, rfl, rfl, rfl, trivial⟩
        · replace hP := hP.2 (Decidable.not_not.mp hc25)
          refine im_ld (q := 90) (i := 0) D328_89 rfl rfl rfl ?_
          refine im_ld (q := 91) (i := 3) D328_90 rfl rfl rfl ?_
          refine im_ld (q := 93) (i := 4) D328_91 rfl rfl rfl ?_
          refine im_callV (q := 96) (kd := 1) (y := 329) (n := 2) (ci := 12) (a := 6952) (vs := [.ref 6952, vI (M17 6985 p1), vI ((M17 6985 p1) + (M17 6986 p1))]) (r := []) (L2 := [some (.ref 6952), some (vI (M17 6985 p1)), some (vI ((M17 6985 p1) + (M17 6986 p1))), none, none]) D328_93 (im_cal cn_328 cl_12_787) (Or.inl rfl) rfl sf_6952 rfl rfl rfl rfl hd ⟨rfl, rfl, rfl, trivial⟩ ?_
          refine hP.mono ?_
          rintro _ e30 M27 ⟨x28, rfl, rfl, hP⟩
          refine im_bkS ?_
          obtain ⟨hg29, hP⟩ := hP
          refine im_i2l (q := 97) D328_96 hg29 ?_
          exact im_lret (q := 98) D328_97 rfl hP
      · replace hP := hP.2 (Decidable.not_not.mp hc24)
        refine im_ld (q := 77) (i := 0) D328_76 rfl rfl rfl ?_
        refine im_gfR (q := 80) (b := 6986) D328_77 (im_fl cn_328 fl_12_112) sf_6952 rfl rfl tR_12_54 rf_6952_54 ?_
        refine im_ld (q := 81) (i := 1) D328_80 rfl rfl rfl ?_
        refine im_iald (q := 82) D328_81 sf_6986 hg21.1 hg21.2 (by decide) rfl ?_
        refine im_i2l (q := 83) D328_82 hr23 ?_
        exact im_lret (q := 84) D328_83 rfl hP
    · replace hP := hP.2 (Decidable.not_not.mp hc20)
      refine im_lconst (q := 53) (z := 0) D328_52 rfl ?_
      exact im_lret (q := 54) D328_53 rfl hP
  refine im_ifc (q := 32) (t := 45) D328_29 rfl hg9 (fun hc10 => ?_) (fun hc10 => ?_)
  · exact (kJ15  (Or.inl hc10)).wk ⟨rfl, rfl, rfl, trivial⟩
  · replace hP := hP hc10
    refine im_ld (q := 33) (i := 0) D328_32 rfl rfl rfl ?_
    refine im_gfR (q := 36) (b := 6984) D328_33 (im_fl cn_328 fl_12_106) sf_6952 rfl rfl tR_12_52 rf_6952_52 ?_
    refine im_ld (q := 37) (i := 1) D328_36 rfl rfl rfl ?_
    obtain ⟨hg11, hP⟩ := hP
    refine im_rng (j := p1) sf_6984 hg11.1 hg11.2 (fun hr12 => ?_)
    refine im_bald (q := 38) D328_37 sf_6984 (Or.inr rfl) hg11.1 hg11.2 (by decide) rfl ?_
    refine im_ifc (q := 41) (t := 45) D328_38 rfl (im_z32 hr12) (fun hc13 => ?_) (fun hc13 => ?_)
    · exact (kJ15  (Or.inr ⟨hc10, hc13⟩)).wk ⟨rfl, rfl, rfl, trivial⟩
    · replace hP := hP hc13
      refine im_iconst (q := 42) D328_41 ?_
      refine im_goto (q := 45) (t := 46) D328_42 rfl ?_
      refine im_callV (q := 49) (kd := 1) (y := 264) (n := 4) (ci := 12) (a := 6952) (vs := [.ref 6952, vI 3, vI x3, vI x6, vI 1]) (r := []) (L2 := [some (.ref 6952), some (vI 3), some (vI x3), some (vI x6), some (vI 1)]) D328_46 (im_cal cn_328 cl_12_419) (Or.inl rfl) rfl sf_6952 rfl rfl rfl rfl hd ⟨rfl, rfl, rfl, rfl, rfl, trivial⟩ ?_
      refine hP.mono ?_
      rintro _ e45 M32 ⟨x33, rfl, rfl, hP⟩
      refine im_bkS ?_
      obtain ⟨hg34, hP⟩ := hP
      refine im_ifc (q := 52) (t := 54) D328_49 rfl hg34 (fun hc35 => ?_) (fun hc35 => ?_)
      · replace hP := hP.1 hc35
        refine im_ld (q := 55) (i := 0) D328_54 rfl rfl rfl ?_
        refine im_gfR (q := 58) (b := 6985) D328_55 (im_fl cn_328 fl_12_109) sf_6952 rfl rfl tR_12_53 rf_6952_53 ?_
        refine im_ld (q := 59) (i := 1) D328_58 rfl rfl rfl ?_
        refine im_rng (j := p1) sf_6985 hg11.1 hg11.2 (fun hr36 => ?_)
        refine im_iald (q := 60) D328_59 sf_6985 hg11.1 hg11.2 (by decide) rfl ?_
        refine im_st1 (q := 61) (i := 3) (L' := [some (.ref 6952), some (vI p1), some (vI p2), some (vI (M32 6985 p1)), none, none, none, none]) D328_60 (Or.inl ⟨_, rfl, rfl⟩) (Nat.le_of_ble_eq_true rfl) rfl ?_
        refine im_ld (q := 62) (i := 3) D328_61 rfl rfl rfl ?_
        refine im_ld (q := 63) (i := 0) D328_62 rfl rfl rfl ?_
        refine im_gfR (q := 66) (b := 6986) D328_63 (im_fl cn_328 fl_12_112) sf_6952 rfl rfl tR_12_54 rf_6952_54 ?_
        refine im_ld (q := 67) (i := 1) D328_66 rfl rfl rfl ?_
        refine im_rng (j := p1) sf_6986 hg11.1 hg11.2 (fun hr37 => ?_)
        refine im_iald (q := 68) D328_67 sf_6986 hg11.1 hg11.2 (by decide) rfl ?_
        refine im_iadd (q := 69) D328_68 ?_
        refine im_st1 (q := 71) (i := 4) (L' := [some (.ref 6952), some (vI p1), some (vI p2), some (vI (M32 6985 p1)), some (vI ((M32 6985 p1) + (M32 6986 p1))), none, none, none]) D328_69 (Or.inr rfl) (Nat.le_of_ble_eq_true rfl) rfl ?_
        refine im_ld (q := 72) (i := 2) D328_71 rfl rfl rfl ?_
        refine im_iconst (q := 73) D328_72 ?_
        refine im_icmp (q := 76) (t := 84) D328_73 rfl hg4 (by decide) (fun hc38 => ?_) (fun hc38 => ?_)
        · replace hP := hP.1 hc38
          refine im_ld (q := 85) (i := 2) D328_84 rfl rfl rfl ?_
          refine im_iconst (q := 86) D328_85 ?_
          refine im_icmp (q := 89) (t := 98) D328_86 rfl hg4 (by decide) (fun hc39 => ?_) (fun hc39 => ?_)
          · replace hP := hP.1 hc39
            refine im_ldc2 (q := 101) (n := (-1)) D328_98 rfl ?_
            refine im_st2 (q := 103) (i := 5) (L' := [some (.ref 6952), some (vI p1), some (vI p2), some (vI (M32 6985 p1)), some (vI ((M32 6985 p1) + (M32 6986 p1))), some (vL (-1)), none, none]) D328_101 (Or.inr rfl) (Nat.le_of_ble_eq_true rfl) rfl ?_
            refine im_ld (q := 104) (i := 0) D328_103 rfl rfl rfl ?_
            refine im_iconst (q := 105) D328_104 ?_
            refine im_pfI (q := 108) D328_105 (im_fl cn_328 fl_12_779) sf_6952 rfl rfl ti_12_60 (by decide) ?_
            refine im_ld (q := 109) (i := 3) D328_108 rfl rfl rfl ?_
            refine im_st1 (q := 111) (i := 7) (L' := [some (.ref 6952), some (vI p1), some (vI p2), some (vI (M32 6985 p1)), some (vI ((M32 6985 p1) + (M32 6986 p1))), some (vL (-1)), none, some (vI (M32 6985 p1))]) D328_109 (Or.inr rfl) (Nat.le_of_ble_eq_true rfl) rfl ?_
            exact hP.wk ⟨rfl, rfl, rfl, rfl, rfl, trivial⟩
          · replace hP := hP.2 (Decidable.not_not.mp hc39)
            refine im_ld (q := 90) (i := 0) D328_89 rfl rfl rfl ?_
            refine im_ld (q := 91) (i := 3) D328_90 rfl rfl rfl ?_
            refine im_ld (q := 93) (i := 4) D328_91 rfl rfl rfl ?_
            refine im_callV (q := 96) (kd := 1) (y := 329) (n := 2) (ci := 12) (a := 6952) (vs := [.ref 6952, vI (M32 6985 p1), vI ((M32 6985 p1) + (M32 6986 p1))]) (r := []) (L2 := [some (.ref 6952), some (vI (M32 6985 p1)), some (vI ((M32 6985 p1) + (M32 6986 p1))), none, none]) D328_93 (im_cal cn_328 cl_12_787) (Or.inl rfl) rfl sf_6952 rfl rfl rfl rfl hd ⟨rfl, rfl, rfl, trivial⟩ ?_
            refine hP.mono ?_
            rintro _ e44 M41 ⟨x42, rfl, rfl, hP⟩
            refine im_bkS ?_
            obtain ⟨hg43, hP⟩ := hP
            refine im_i2l (q := 97) D328_96 hg43 ?_
            exact im_lret (q := 98) D328_97 rfl hP
        · replace hP := hP.2 (Decidable.not_not.mp hc38)
          refine im_ld (q := 77) (i := 0) D328_76 rfl rfl rfl ?_
          refine im_gfR (q := 80) (b := 6986) D328_77 (im_fl cn_328 fl_12_112) sf_6952 rfl rfl tR_12_54 rf_6952_54 ?_
          refine im_ld (q := 81) (i := 1) D328_80 rfl rfl rfl ?_
          refine im_iald (q := 82) D328_81 sf_6986 hg11.1 hg11.2 (by decide) rfl ?_
          refine im_i2l (q := 83) D328_82 hr37 ?_
          exact im_lret (q := 84) D328_83 rfl hP
      · replace hP := hP.2 (Decidable.not_not.mp hc35)
        refine im_lconst (q := 53) (z := 0) D328_52 rfl ?_
        exact im_lret (q := 54) D328_53 rfl hP
set_option maxRecDepth 20000 in
set_option maxHeartbeats 4000000 in
theorem b_about_111 {g : im_g} {d : Nat} {e : im_E} {M : im_M} {K : im_K} {p2 p4 p5 p7 : Int} (hd : 1 ≤ d) (hP : (im_i32 p7) ∧ (im_i32 p4) ∧ ((((p4 ≤ p7 → (im_i32 p2)) ∧ (p7 < p4 → (0 ≤ p7 ∧ p7 < 5100) ∧ (((M 6960 p7) = 5 → (((M 6970 p7) = 0 → (im_i64 p5) ∧ ((p5 < (M 6969 p7) → (im_i32 p2) ∧ (((((p2 = 2) ∧ ((M 6960 p7) = 21)) ∨ ((p2 = 2) ∧ (¬ (M 6960 p7) = 21) ∧ ((M 6960 p7) = 5) ∧ (¬ (M 6970 p7) = 0))) → im_T g (d - 1) 331 0 [some (.ref 6952), some (vL (M 6961 p7)), none, some (vL 0), none, none, none] [] e M (im_r0 (fun  e_ M116 => e = e_ ∧ ((((p2 = 4 → (((M116 6960 p7) = 8 → im_T g (d - 1) 331 0 [some (.ref 6952), some (vL (M116 6961 p7)), none, some (vL (M116 6963 p7)), none, none, none] [] e M116 (im_r0 (fun  e_ M135 => e = e_ ∧ ((((p2 = 4 → (((M135 6960 p7) = 3 → im_T g (d - 1) 331 0 [some (.ref 6952), some (vL (M135 6962 p7)), none, some (vL (M135 6963 p7)), none, none, none] [] e M135 (im_r0 (fun  e_ M144 => e = e_ ∧ im_T g d 328 111 [some (.ref 6952), none, some (vI p2), none, some (vI p4), some (vL (M 6969 p7)), none, some (vI (p7 + 1))] [] e M144 K))))))) ∧ ((((¬ p2 = 4)) ∨ ((p2 = 4) ∧ (¬ (M135 6960 p7) = 3))) → im_T g d 328 111 [some (.ref 6952), none, some (vI p2), none, some (vI p4), some (vL (M 6969 p7)), none, some (vI (p7 + 1))] [] e M135 K))))))))) ∧ ((((¬ p2 = 4)) ∨ ((p2 = 4) ∧ (¬ (M116 6960 p7) = 8))) → ((((p2 = 4 → (((M116 6960 p7) = 3 → im_T g (d - 1) 331 0 [some (.ref 6952), some (vL (M116 6962 p7)), none, some (vL (M116 6963 p7)), none, none, none] [] e M116 (im_r0 (fun  e_ M133 => e = e_ ∧ im_T g d 328 111 [some (.ref 6952), none, some (vI p2), none, some (vI p4), some (vL (M 6969 p7)), none, some (vI (p7 + 1))] [] e M133 K))))))) ∧ ((((¬ p2 = 4)) ∨ ((p2 = 4) ∧ (¬ (M116 6960 p7) = 3))) → im_T g d 328 111 [some (.ref 6952), none, some (vI p2), none, some (vI p4), some (vL (M 6969 p7)), none, some (vI (p7 + 1))] [] e M116 K))))))) ∧ ((((¬ p2 = 2)) ∨ ((p2 = 2) ∧ (¬ (M 6960 p7) = 21) ∧ (¬ (M 6960 p7) = 5)) ∨ ((p2 = 2) ∧ (¬ (M 6960 p7) = 21) ∧ ((M 6960 p7) = 5) ∧ ((M 6970 p7) = 0))) → ((((p2 = 4 → (((M 6960 p7) = 8 → im_T g (d - 1) 331 0 [some (.ref 6952), some (vL (M 6961 p7)), none, some (vL (M 6963 p7)), none, none, none] [] e M (im_r0 (fun  e_ M169 => e = e_ ∧ ((((p2 = 4 → (((M169 6960 p7) = 3 → im_T g (d - 1) 331 0 [some (.ref 6952), some (vL (M169 6962 p7)), none, some (vL (M169 6963 p7)), none, none, none] [] e M169 (im_r0 (fun  e_ M178 => e = e_ ∧ im_T g d 328 111 [some (.ref 6952), none, some (vI p2), none, some (vI p4), some (vL (M 6969 p7)), none, some (vI (p7 + 1))] [] e M178 K))))))) ∧ ((((¬ p2 = 4)) ∨ ((p2 = 4) ∧ (¬ (M169 6960 p7) = 3))) → im_T g d 328 111 [some (.ref 6952), none, some (vI p2), none, some (vI p4), some (vL (M 6969 p7)), none, some (vI (p7 + 1))] [] e M169 K))))))))) ∧ ((((¬ p2 = 4)) ∨ ((p2 = 4) ∧ (¬ (M 6960 p7) = 8))) → ((((p2 = 4 → (((M 6960 p7) = 3 → im_T g (d - 1) 331 0 [some (.ref 6952), some (vL (M 6962 p7)), none, some (vL (M 6963 p7)), none, none, none] [] e M (im_r0 (fun  e_ M167 => e = e_ ∧ im_T g d 328 111 [some (.ref 6952), none, some (vI p2), none, some (vI p4), some (vL (M 6969 p7)), none, some (vI (p7 + 1))] [] e M167 K))))))) ∧ ((((¬ p2 = 4)) ∨ ((p2 = 4) ∧ (¬ (M 6960 p7) = 3))) → im_T g d 328 111 [some (.ref 6952), none, some (vI p2), none, some (vI p4), some (vL (M 6969 p7)), none, some (vI (p7 + 1))] [] e M K))))))))))))))) ∧ ((((p7 < p4) ∧ (¬ (M 6960 p7) = 5)) ∨ ((p7 < p4) ∧ ((M 6960 p7) = 5) ∧ (¬ (M 6970 p7) = 0)) ∨ ((p7 < p4) ∧ ((M 6960 p7) = 5) ∧ ((M 6970 p7) = 0) ∧ ((M 6969 p7) ≤ p5))) → (im_i32 p2) ∧ ((((p2 = 2 → (0 ≤ p7 ∧ p7 < 5100)))) ∧ ((((p2 = 2) ∧ ((M 6960 p7) = 21)) ∨ ((p2 = 2) ∧ (¬ (M 6960 p7) = 21) ∧ ((M 6960 p7) = 5) ∧ (¬ (M 6970 p7) = 0))) → (0 ≤ p7 ∧ p7 < 5100) ∧ im_T g (d - 1) 331 0 [some (.ref 6952), some (vL (M 6961 p7)), none, some (vL 0), none, none, none] [] e M (im_r0 (fun  e_ M34 => e = e_ ∧ ((((p2 = 4 → (((M34 6960 p7) = 8 → im_T g (d - 1) 331 0 [some (.ref 6952), some (vL (M34 6961 p7)), none, some (vL (M34 6963 p7)), none, none, none] [] e M34 (im_r0 (fun  e_ M53 => e = e_ ∧ ((((p2 = 4 → (((M53 6960 p7) = 3 → im_T g (d - 1) 331 0 [some (.ref 6952), some (vL (M53 6962 p7)), none, some (vL (M53 6963 p7)), none, none, none] [] e M53 (im_r0 (fun  e_ M62 => e = e_ ∧ im_T g d 328 111 [some (.ref 6952), none, some (vI p2), none, some (vI p4), some (vL p5), none, some (vI (p7 + 1))] [] e M62 K))))))) ∧ ((((¬ p2 = 4)) ∨ ((p2 = 4) ∧ (¬ (M53 6960 p7) = 3))) → im_T g d 328 111 [some (.ref 6952), none, some (vI p2), none, some (vI p4), some (vL p5), none, some (vI (p7 + 1))] [] e M53 K))))))))) ∧ ((((¬ p2 = 4)) ∨ ((p2 = 4) ∧ (¬ (M34 6960 p7) = 8))) → ((((p2 = 4 → (((M34 6960 p7) = 3 → im_T g (d - 1) 331 0 [some (.ref 6952), some (vL (M34 6962 p7)), none, some (vL (M34 6963 p7)), none, none, none] [] e M34 (im_r0 (fun  e_ M51 => e = e_ ∧ im_T g d 328 111 [some (.ref 6952), none, some (vI p2), none, some (vI p4), some (vL p5), none, some (vI (p7 + 1))] [] e M51 K))))))) ∧ ((((¬ p2 = 4)) ∨ ((p2 = 4) ∧ (¬ (M34 6960 p7) = 3))) → im_T g d 328 111 [some (.ref 6952), none, some (vI p2), none, some (vI p4), some (vL p5), none, some (vI (p7 + 1))] [] e M34 K))))))) ∧ ((((¬ p2 = 2)) ∨ ((p2 = 2) ∧ (¬ (M 6960 p7) = 21) ∧ (¬ (M 6960 p7) = 5)) ∨ ((p2 = 2) ∧ (¬ (M 6960 p7) = 21) ∧ ((M 6960 p7) = 5) ∧ ((M 6970 p7) = 0))) → ((((p2 = 4 → (0 ≤ p7 ∧ p7 < 5100) ∧ (((M 6960 p7) = 8 → im_T g (d - 1) 331 0 [some (.ref 6952), some (vL (M 6961 p7)), none, some (vL (M 6963 p7)), none, none, none] [] e M (im_r0 (fun  e_ M89 => e = e_ ∧ ((((p2 = 4 → (((M89 6960 p7) = 3 → im_T g (d - 1) 331 0 [some (.ref 6952), some (vL (M89 6962 p7)), none, some (vL (M89 6963 p7)), none, none, none] [] e M89 (im_r0 (fun  e_ M98 => e = e_ ∧ im_T g d 328 111 [some (.ref 6952), none, some (vI p2), none, some (vI p4), some (vL p5), none, some (vI (p7 + 1))] [] e M98 K))))))) ∧ ((((¬ p2 = 4)) ∨ ((p2 = 4) ∧ (¬ (M89 6960 p7) = 3))) → im_T g d 328 111 [some (.ref 6952), none, some (vI p2), none, some (vI p4), some (vL p5), none, some (vI (p7 + 1))] [] e M89 K))))))))) ∧ ((((¬ p2 = 4)) ∨ ((p2 = 4) ∧ (¬ (M 6960 p7) = 8))) → ((((p2 = 4 → (0 ≤ p7 ∧ p7 < 5100) ∧ (((M 6960 p7) = 3 → im_T g (d - 1) 331 0 [some (.ref 6952), some (vL (M 6962 p7)), none, some (vL (M 6963 p7)), none, none, none] [] e M (im_r0 (fun  e_ M87 => e = e_ ∧ im_T g d 328 111 [some (.ref 6952), none, some (vI p2), none, some (vI p4), some (vL p5), none, some (vI (p7 + 1))] [] e M87 K))))))) ∧ ((((¬ p2 = 4)) ∨ ((p2 = 4) ∧ (¬ (M 6960 p7) = 3))) → im_T g d 328 111 [some (.ref 6952), none, some (vI p2), none, some (vI p4), some (vL p5), none, some (vI (p7 + 1))] [] e M K))))))) ∧ (∀ x16 : Int, (((p4 ≤ p7) ∧ (¬ p2 = 0) ∧ x16 = (M 6952 60)) ∨ ((p4 ≤ p7) ∧ (p2 = 0) ∧ x16 = p5)) → K (.inl (some (vL x16))) e M))) : im_T g d 328 111 [some (.ref 6952), none, some (vI p2), none, some (vI p4), some (vL p5), none, some (vI p7)] [] e M K := by
  refine im_ld (q := 113) (i := 7) D328_111 rfl rfl rfl ?_
  refine im_ld (q := 115) (i := 4) D328_113 rfl rfl rfl ?_
  obtain ⟨hg1, hP⟩ := hP
  obtain ⟨hg2, hP⟩ := hP
  obtain ⟨hP, hJ17, hJ101⟩ := hP
  have kJ18 : (((p7 < p4) ∧ (¬ (M 6960 p7) = 5)) ∨ ((p7 < p4) ∧ ((M 6960 p7) = 5) ∧ (¬ (M 6970 p7) = 0)) ∨ ((p7 < p4) ∧ ((M 6960 p7) = 5) ∧ ((M 6970 p7) = 0) ∧ ((M 6969 p7) ≤ p5))) → im_T g d 328 162 [some (.ref 6952), none, some (vI p2), none, some (vI p4), some (vL p5), none, some (vI p7)] [] e M K := by
    intro  hx19
    have hP := hJ17  hx19
    refine im_ld (q := 164) (i := 5) D328_162 rfl rfl rfl ?_
    refine im_st2 (q := 166) (i := 5) (L' := [some (.ref 6952), none, some (vI p2), none, some (vI p4), some (vL p5), none, some (vI p7)]) D328_164 (Or.inr rfl) (Nat.le_of_ble_eq_true rfl) rfl ?_
    refine im_ld (q := 167) (i := 2) D328_166 rfl rfl rfl ?_
    refine im_iconst (q := 168) D328_167 ?_
    obtain ⟨hg20, hP⟩ := hP
    obtain ⟨hP, hJ29, hJ66⟩ := hP
    have kJ30 : (((p2 = 2) ∧ ((M 6960 p7) = 21)) ∨ ((p2 = 2) ∧ (¬ (M 6960 p7) = 21) ∧ ((M 6960 p7) = 5) ∧ (¬ (M 6970 p7) = 0))) → im_T g d 328 204 [some (.ref 6952), none, some (vI p2), none, some (vI p4), some (vL p5), none, some (vI p7)] [] e M K := by
      intro  hx31
      have hP := hJ29  hx31
      refine im_ld (q := 205) (i := 0) D328_204 rfl rfl rfl ?_
      refine im_ld (q := 206) (i := 0) D328_205 rfl rfl rfl ?_
      refine im_gfR (q := 209) (b := 6961) D328_206 (im_fl cn_328 fl_12_36) sf_6952 rfl rfl tR_12_22 rf_6952_22 ?_
      refine im_ld (q := 211) (i := 7) D328_209 rfl rfl rfl ?_
      obtain ⟨hg32, hP⟩ := hP
      refine im_rng (j := p7) sf_6961 hg32.1 hg32.2 (fun hr33 => ?_)
      refine im_lald (q := 212) D328_211 sf_6961 hg32.1 hg32.2 (by decide) rfl ?_
      refine im_lconst (q := 213) (z := 0) D328_212 rfl ?_
      refine im_callV (q := 216) (kd := 1) (y := 331) (n := 2) (ci := 12) (a := 6952) (vs := [.ref 6952, vL (M 6961 p7), vL 0]) (r := []) (L2 := [some (.ref 6952), some (vL (M 6961 p7)), none, some (vL 0), none, none, none]) D328_213 (im_cal cn_328 cl_12_790) (Or.inl rfl) rfl sf_6952 rfl rfl rfl rfl hd ⟨rfl, rfl, rfl, trivial⟩ ?_
      refine hP.mono ?_
      rintro _ e65 M34 ⟨rfl, rfl, hP⟩
      refine im_bkN ?_
      refine im_ld (q := 217) (i := 2) D328_216 rfl rfl rfl ?_
      refine im_iconst (q := 218) D328_217 ?_
      obtain ⟨hP, hJ40⟩ := hP
      have kJ41 : (((¬ p2 = 4)) ∨ ((p2 = 4) ∧ (¬ (M34 6960 p7) = 8))) → im_T g d 328 251 [some (.ref 6952), none, some (vI p2), none, some (vI p4), some (vL p5), none, some (vI p7)] [] e M34 K := by
        intro  hx42
        have hP := hJ40  hx42
        refine im_ld (q := 252) (i := 2) D328_251 rfl rfl rfl ?_
        refine im_iconst (q := 253) D328_252 ?_
        obtain ⟨hP, hJ48⟩ := hP
        have kJ49 : (((¬ p2 = 4)) ∨ ((p2 = 4) ∧ (¬ (M34 6960 p7) = 3))) → im_T g d 328 285 [some (.ref 6952), none, some (vI p2), none, some (vI p4), some (vL p5), none, some (vI p7)] [] e M34 K := by
          intro  hx50
          have hP := hJ48  hx50
          refine im_iinc (q := 288) (i := 7) (L' := [some (.ref 6952), none, some (vI p2), none, some (vI p4), some (vL p5), none, some (vI (p7 + 1))]) D328_285 rfl (Nat.le_of_ble_eq_true rfl) rfl ?_
          refine im_goto (q := 291) (t := 111) D328_288 rfl ?_
          exact hP.wk ⟨rfl, rfl, rfl, rfl, rfl, trivial⟩
        refine im_icmp (q := 256) (t := 285) D328_253 rfl hg20 (by decide) (fun hc43 => ?_) (fun hc43 => ?_)
        · exact (kJ49  (Or.inl hc43)).wk ⟨rfl, rfl, rfl, rfl, rfl, trivial⟩
        · replace hP := hP (Decidable.not_not.mp hc43)
          refine im_ld (q := 257) (i := 0) D328_256 rfl rfl rfl ?_
          refine im_gfR (q := 260) (b := 6960) D328_257 (im_fl cn_328 fl_12_33) sf_6952 rfl rfl tR_12_21 rf_6952_21 ?_
          refine im_ld (q := 262) (i := 7) D328_260 rfl rfl rfl ?_
          refine im_rng (j := p7) sf_6960 hg32.1 hg32.2 (fun hr44 => ?_)
          refine im_iald (q := 263) D328_262 sf_6960 hg32.1 hg32.2 (by decide) rfl ?_
          refine im_iconst (q := 264) D328_263 ?_
          refine im_icmp (q := 267) (t := 285) D328_264 rfl hr44 (by decide) (fun hc45 => ?_) (fun hc45 => ?_)
          · exact (kJ49  (Or.inr ⟨(Decidable.not_not.mp hc43), hc45⟩)).wk ⟨rfl, rfl, rfl, rfl, rfl, trivial⟩
          · replace hP := hP (Decidable.not_not.mp hc45)
            refine im_ld (q := 268) (i := 0) D328_267 rfl rfl rfl ?_
            refine im_ld (q := 269) (i := 0) D328_268 rfl rfl rfl ?_
            refine im_gfR (q := 272) (b := 6962) D328_269 (im_fl cn_328 fl_12_39) sf_6952 rfl rfl tR_12_23 rf_6952_23 ?_
            refine im_ld (q := 274) (i := 7) D328_272 rfl rfl rfl ?_
            refine im_rng (j := p7) sf_6962 hg32.1 hg32.2 (fun hr46 => ?_)
            refine im_lald (q := 275) D328_274 sf_6962 hg32.1 hg32.2 (by decide) rfl ?_
            refine im_ld (q := 276) (i := 0) D328_275 rfl rfl rfl ?_
            refine im_gfR (q := 279) (b := 6963) D328_276 (im_fl cn_328 fl_12_42) sf_6952 rfl rfl tR_12_24 rf_6952_24 ?_
            refine im_ld (q := 281) (i := 7) D328_279 rfl rfl rfl ?_
            refine im_rng (j := p7) sf_6963 hg32.1 hg32.2 (fun hr47 => ?_)
            refine im_lald (q := 282) D328_281 sf_6963 hg32.1 hg32.2 (by decide) rfl ?_
            refine im_callV (q := 285) (kd := 1) (y := 331) (n := 2) (ci := 12) (a := 6952) (vs := [.ref 6952, vL (M34 6962 p7), vL (M34 6963 p7)]) (r := []) (L2 := [some (.ref 6952), some (vL (M34 6962 p7)), none, some (vL (M34 6963 p7)), none, none, none]) D328_282 (im_cal cn_328 cl_12_790) (Or.inl rfl) rfl sf_6952 rfl rfl rfl rfl hd ⟨rfl, rfl, rfl, trivial⟩ ?_
            refine hP.mono ?_
            rintro _ e52 M51 ⟨rfl, rfl, hP⟩
            refine im_bkN ?_
            refine im_iinc (q := 288) (i := 7) (L' := [some (.ref 6952), none, some (vI p2), none, some (vI p4), some (vL p5), none, some (vI (p7 + 1))]) D328_285 rfl (Nat.le_of_ble_eq_true rfl) rfl ?_
            refine im_goto (q := 291) (t := 111) D328_288 rfl ?_
            exact hP.wk ⟨rfl, rfl, rfl, rfl, rfl, trivial⟩
      refine im_icmp (q := 221) (t := 251) D328_218 rfl hg20 (by decide) (fun hc35 => ?_) (fun hc35 => ?_)
      · exact (kJ41  (Or.inl hc35)).wk ⟨rfl, rfl, rfl, rfl, rfl, trivial⟩
      · replace hP := hP (Decidable.not_not.mp hc35)
        refine im_ld (q := 222) (i := 0) D328_221 rfl rfl rfl ?_
        refine im_gfR (q := 225) (b := 6960) D328_222 (im_fl cn_328 fl_12_33) sf_6952 rfl rfl tR_12_21 rf_6952_21 ?_
        refine im_ld (q := 227) (i := 7) D328_225 rfl rfl rfl ?_
        refine im_rng (j := p7) sf_6960 hg32.1 hg32.2 (fun hr36 => ?_)
        refine im_iald (q := 228) D328_227 sf_6960 hg32.1 hg32.2 (by decide) rfl ?_
        refine im_bipush (q := 230) D328_228 rfl ?_
        refine im_icmp (q := 233) (t := 251) D328_230 rfl hr36 (by decide) (fun hc37 => ?_) (fun hc37 => ?_)
        · exact (kJ41  (Or.inr ⟨(Decidable.not_not.mp hc35), hc37⟩)).wk ⟨rfl, rfl, rfl, rfl, rfl, trivial⟩
        · replace hP := hP (Decidable.not_not.mp hc37)
          refine im_ld (q := 234) (i := 0) D328_233 rfl rfl rfl ?_
          refine im_ld (q := 235) (i := 0) D328_234 rfl rfl rfl ?_
          refine im_gfR (q := 238) (b := 6961) D328_235 (im_fl cn_328 fl_12_36) sf_6952 rfl rfl tR_12_22 rf_6952_22 ?_
          refine im_ld (q := 240) (i := 7) D328_238 rfl rfl rfl ?_
          refine im_rng (j := p7) sf_6961 hg32.1 hg32.2 (fun hr38 => ?_)
          refine im_lald (q := 241) D328_240 sf_6961 hg32.1 hg32.2 (by decide) rfl ?_
          refine im_ld (q := 242) (i := 0) D328_241 rfl rfl rfl ?_
          refine im_gfR (q := 245) (b := 6963) D328_242 (im_fl cn_328 fl_12_42) sf_6952 rfl rfl tR_12_24 rf_6952_24 ?_
          refine im_ld (q := 247) (i := 7) D328_245 rfl rfl rfl ?_
          refine im_rng (j := p7) sf_6963 hg32.1 hg32.2 (fun hr39 => ?_)
          refine im_lald (q := 248) D328_247 sf_6963 hg32.1 hg32.2 (by decide) rfl ?_
          refine im_callV (q := 251) (kd := 1) (y := 331) (n := 2) (ci := 12) (a := 6952) (vs := [.ref 6952, vL (M34 6961 p7), vL (M34 6963 p7)]) (r := []) (L2 := [some (.ref 6952), some (vL (M34 6961 p7)), none, some (vL (M34 6963 p7)), none, none, none]) D328_248 (im_cal cn_328 cl_12_790) (Or.inl rfl) rfl sf_6952 rfl rfl rfl rfl hd ⟨rfl, rfl, rfl, trivial⟩ ?_
          refine hP.mono ?_
          rintro _ e64 M53 ⟨rfl, rfl, hP⟩
          refine im_bkN ?_
          refine im_ld (q := 252) (i := 2) D328_251 rfl rfl rfl ?_
          refine im_iconst (q := 253) D328_252 ?_
          obtain ⟨hP, hJ59⟩ := hP
          have kJ60 : (((¬ p2 = 4)) ∨ ((p2 = 4) ∧ (¬ (M53 6960 p7) = 3))) → im_T g d 328 285 [some (.ref 6952), none, some (vI p2), none, some (vI p4), some (vL p5), none, some (vI p7)] [] e M53 K := by
            intro  hx61
            have hP := hJ59  hx61
            refine im_iinc (q := 288) (i := 7) (L' := [some (.ref 6952), none, some (vI p2), none, some (vI p4), some (vL p5), none, some (vI (p7 + 1))]) D328_285 rfl (Nat.le_of_ble_eq_true rfl) rfl ?_
            refine im_goto (q := 291) (t := 111) D328_288 rfl ?_
            exact hP.wk ⟨rfl, rfl, rfl, rfl, rfl, trivial⟩
          refine im_icmp (q := 256) (t := 285) D328_253 rfl hg20 (by decide) (fun hc54 => ?_) (fun hc54 => ?_)
          · exact (kJ60  (Or.inl hc54)).wk ⟨rfl, rfl, rfl, rfl, rfl, trivial⟩
          · replace hP := hP (Decidable.not_not.mp hc54)
            refine im_ld (q := 257) (i := 0) D328_256 rfl rfl rfl ?_
            refine im_gfR (q := 260) (b := 6960) D328_257 (im_fl cn_328 fl_12_33) sf_6952 rfl rfl tR_12_21 rf_6952_21 ?_
            refine im_ld (q := 262) (i := 7) D328_260 rfl rfl rfl ?_
            refine im_rng (j := p7) sf_6960 hg32.1 hg32.2 (fun hr55 => ?_)
            refine im_iald (q := 263) D328_262 sf_6960 hg32.1 hg32.2 (by decide) rfl ?_
            refine im_iconst (q := 264) D328_263 ?_
            refine im_icmp (q := 267) (t := 285) D328_264 rfl hr55 (by decide) (fun hc56 => ?_) (fun hc56 => ?_)
            · exact (kJ60  (Or.inr ⟨(Decidable.not_not.mp hc54), hc56⟩)).wk ⟨rfl, rfl, rfl, rfl, rfl, trivial⟩
            · replace hP := hP (Decidable.not_not.mp hc56)
              refine im_ld (q := 268) (i := 0) D328_267 rfl rfl rfl ?_
              refine im_ld (q := 269) (i := 0) D328_268 rfl rfl rfl ?_
              refine im_gfR (q := 272) (b := 6962) D328_269 (im_fl cn_328 fl_12_39) sf_6952 rfl rfl tR_12_23 rf_6952_23 ?_
              refine im_ld (q := 274) (i := 7) D328_272 rfl rfl rfl ?_
              refine im_rng (j := p7) sf_6962 hg32.1 hg32.2 (fun hr57 => ?_)
              refine im_lald (q := 275) D328_274 sf_6962 hg32.1 hg32.2 (by decide) rfl ?_
              refine im_ld (q := 276) (i := 0) D328_275 rfl rfl rfl ?_
              refine im_gfR (q := 279) (b := 6963) D328_276 (im_fl cn_328 fl_12_42) sf_6952 rfl rfl tR_12_24 rf_6952_24 ?_
              refine im_ld (q := 281) (i := 7) D328_279 rfl rfl rfl ?_
              refine im_rng (j := p7) sf_6963 hg32.1 hg32.2 (fun hr58 => ?_)
              refine im_lald (q := 282) D328_281 sf_6963 hg32.1 hg32.2 (by decide) rfl ?_
              refine im_callV (q := 285) (kd := 1) (y := 331) (n := 2) (ci := 12) (a := 6952) (vs := [.ref 6952, vL (M53 6962 p7), vL (M53 6963 p7)]) (r := []) (L2 := [some (.ref 6952), some (vL (M53 6962 p7)), none, some (vL (M53 6963 p7)), none, none, none]) D328_282 (im_cal cn_328 cl_12_790) (Or.inl rfl) rfl sf_6952 rfl rfl rfl rfl hd ⟨rfl, rfl, rfl, trivial⟩ ?_
              refine hP.mono ?_
              rintro _ e63 M62 ⟨rfl, rfl, hP⟩
              refine im_bkN ?_
              refine im_iinc (q := 288) (i := 7) (L' := [some (.ref 6952), none, some (vI p2), none, some (vI p4), some (vL p5), none, some (vI (p7 + 1))]) D328_285 rfl (Nat.le_of_ble_eq_true rfl) rfl ?_
              refine im_goto (q := 291) (t := 111) D328_288 rfl ?_
              exact hP.wk ⟨rfl, rfl, rfl, rfl, rfl, trivial⟩
    have kJ67 : (((¬ p2 = 2)) ∨ ((p2 = 2) ∧ (¬ (M 6960 p7) = 21) ∧ (¬ (M 6960 p7) = 5)) ∨ ((p2 = 2) ∧ (¬ (M 6960 p7) = 21) ∧ ((M 6960 p7) = 5) ∧ ((M 6970 p7) = 0))) → im_T g d 328 216 [some (.ref 6952), none, some (vI p2), none, some (vI p4), some (vL p5), none, some (vI p7)] [] e M K := by
      intro  hx68
      have hP := hJ66  hx68
      refine im_ld (q := 217) (i := 2) D328_216 rfl rfl rfl ?_
      refine im_iconst (q := 218) D328_217 ?_
      obtain ⟨hP, hJ75⟩ := hP
      have kJ76 : (((¬ p2 = 4)) ∨ ((p2 = 4) ∧ (¬ (M 6960 p7) = 8))) → im_T g d 328 251 [some (.ref 6952), none, some (vI p2), none, some (vI p4), some (vL p5), none, some (vI p7)] [] e M K := by
        intro  hx77
        have hP := hJ75  hx77
        refine im_ld (q := 252) (i := 2) D328_251 rfl rfl rfl ?_
        refine im_iconst (q := 253) D328_252 ?_
        obtain ⟨hP, hJ84⟩ := hP
        have kJ85 : (((¬ p2 = 4)) ∨ ((p2 = 4) ∧ (¬ (M 6960 p7) = 3))) → im_T g d 328 285 [some (.ref 6952), none, some (vI p2), none, some (vI p4), some (vL p5), none, some (vI p7)] [] e M K := by
          intro  hx86
          have hP := hJ84  hx86
          refine im_iinc (q := 288) (i := 7) (L' := [some (.ref 6952), none, some (vI p2), none, some (vI p4), some (vL p5), none, some (vI (p7 + 1))]) D328_285 rfl (Nat.le_of_ble_eq_true rfl) rfl ?_
          refine im_goto (q := 291) (t := 111) D328_288 rfl ?_
          exact hP.wk ⟨rfl, rfl, rfl, rfl, rfl, trivial⟩
        refine im_icmp (q := 256) (t := 285) D328_253 rfl hg20 (by decide) (fun hc78 => ?_) (fun hc78 => ?_)
        · exact (kJ85  (Or.inl hc78)).wk ⟨rfl, rfl, rfl, rfl, rfl, trivial⟩
        · replace hP := hP (Decidable.not_not.mp hc78)
          refine im_ld (q := 257) (i := 0) D328_256 rfl rfl rfl ?_
          refine im_gfR (q := 260) (b := 6960) D328_257 (im_fl cn_328 fl_12_33) sf_6952 rfl rfl tR_12_21 rf_6952_21 ?_
          refine im_ld (q := 262) (i := 7) D328_260 rfl rfl rfl ?_
          obtain ⟨hg79, hP⟩ := hP
          refine im_rng (j := p7) sf_6960 hg79.1 hg79.2 (fun hr80 => ?_)
          refine im_iald (q := 263) D328_262 sf_6960 hg79.1 hg79.2 (by decide) rfl ?_
          refine im_iconst (q := 264) D328_263 ?_
          refine im_icmp (q := 267) (t := 285) D328_264 rfl hr80 (by decide) (fun hc81 => ?_) (fun hc81 => ?_)
          · exact (kJ85  (Or.inr ⟨(Decidable.not_not.mp hc78), hc81⟩)).wk ⟨rfl, rfl, rfl, rfl, rfl, trivial⟩
          · replace hP := hP (Decidable.not_not.mp hc81)
            refine im_ld (q := 268) (i := 0) D328_267 rfl rfl rfl ?_
            refine im_ld (q := 269) (i := 0) D328_268 rfl rfl rfl ?_
            refine im_gfR (q := 272) (b := 6962) D328_269 (im_fl cn_328 fl_12_39) sf_6952 rfl rfl tR_12_23 rf_6952_23 ?_
            refine im_ld (q := 274) (i := 7) D328_272 rfl rfl rfl ?_
            refine im_rng (j := p7) sf_6962 hg79.1 hg79.2 (fun hr82 => ?_)
            refine im_lald (q := 275) D328_274 sf_6962 hg79.1 hg79.2 (by decide) rfl ?_
            refine im_ld (q := 276) (i := 0) D328_275 rfl rfl rfl ?_
            refine im_gfR (q := 279) (b := 6963) D328_276 (im_fl cn_328 fl_12_42) sf_6952 rfl rfl tR_12_24 rf_6952_24 ?_
            refine im_ld (q := 281) (i := 7) D328_279 rfl rfl rfl ?_
            refine im_rng (j := p7) sf_6963 hg79.1 hg79.2 (fun hr83 => ?_)
            refine im_lald (q := 282) D328_281 sf_6963 hg79.1 hg79.2 (by decide) rfl ?_
            refine im_callV (q := 285) (kd := 1) (y := 331) (n := 2) (ci := 12) (a := 6952) (vs := [.ref 6952, vL (M 6962 p7), vL (M 6963 p7)]) (r := []) (L2 := [some (.ref 6952), some (vL (M 6962 p7)), none, some (vL (M 6963 p7)), none, none, none]) D328_282 (im_cal cn_328 cl_12_790) (Or.inl rfl) rfl sf_6952 rfl rfl rfl rfl hd ⟨rfl, rfl, rfl, trivial⟩ ?_
            refine hP.mono ?_
            rintro _ e88 M87 ⟨rfl, rfl, hP⟩
            refine im_bkN ?_
            refine im_iinc (q := 288) (i := 7) (L' := [some (.ref 6952), none, some (vI p2), none, some (vI p4), some (vL p5), none, some (vI (p7 + 1))]) D328_285 rfl (Nat.le_of_ble_eq_true rfl) rfl ?_
            refine im_goto (q := 291) (t := 111) D328_288 rfl ?_
            exact hP.wk ⟨rfl, rfl, rfl, rfl, rfl, trivial⟩
      refine im_icmp (q := 221) (t := 251) D328_218 rfl hg20 (by decide) (fun hc69 => ?_) (fun hc69 => ?_)
      · exact (kJ76  (Or.inl hc69)).wk ⟨rfl, rfl, rfl, rfl, rfl, trivial⟩
      · replace hP := hP (Decidable.not_not.mp hc69)
        refine im_ld (q := 222) (i := 0) D328_221 rfl rfl rfl ?_
        refine im_gfR (q := 225) (b := 6960) D328_222 (im_fl cn_328 fl_12_33) sf_6952 rfl rfl tR_12_21 rf_6952_21 ?_
        refine im_ld (q := 227) (i := 7) D328_225 rfl rfl rfl ?_
        obtain ⟨hg70, hP⟩ := hP
        refine im_rng (j := p7) sf_6960 hg70.1 hg70.2 (fun hr71 => ?_)
        refine im_iald (q := 228) D328_227 sf_6960 hg70.1 hg70.2 (by decide) rfl ?_
        refine im_bipush (q := 230) D328_228 rfl ?_
        refine im_icmp (q := 233) (t := 251) D328_230 rfl hr71 (by decide) (fun hc72 => ?_) (fun hc72 => ?_)
        · exact (kJ76  (Or.inr ⟨(Decidable.not_not.mp hc69), hc72⟩)).wk ⟨rfl, rfl, rfl, rfl, rfl, trivial⟩
        · replace hP := hP (Decidable.not_not.mp hc72)
          refine im_ld (q := 234) (i := 0) D328_233 rfl rfl rfl ?_
          refine im_ld (q := 235) (i := 0) D328_234 rfl rfl rfl ?_
          refine im_gfR (q := 238) (b := 6961) D328_235 (im_fl cn_328 fl_12_36) sf_6952 rfl rfl tR_12_22 rf_6952_22 ?_
          refine im_ld (q := 240) (i := 7) D328_238 rfl rfl rfl ?_
          refine im_rng (j := p7) sf_6961 hg70.1 hg70.2 (fun hr73 => ?_)
          refine im_lald (q := 241) D328_240 sf_6961 hg70.1 hg70.2 (by decide) rfl ?_
          refine im_ld (q := 242) (i := 0) D328_241 rfl rfl rfl ?_
          refine im_gfR (q := 245) (b := 6963) D328_242 (im_fl cn_328 fl_12_42) sf_6952 rfl rfl tR_12_24 rf_6952_24 ?_
          refine im_ld (q := 247) (i := 7) D328_245 rfl rfl rfl ?_
          refine im_rng (j := p7) sf_6963 hg70.1 hg70.2 (fun hr74 => ?_)
          refine im_lald (q := 248) D328_247 sf_6963 hg70.1 hg70.2 (by decide) rfl ?_
          refine im_callV (q := 251) (kd := 1) (y := 331) (n := 2) (ci := 12) (a := 6952) (vs := [.ref 6952, vL (M 6961 p7), vL (M 6963 p7)]) (r := []) (L2 := [some (.ref 6952), some (vL (M 6961 p7)), none, some (vL (M 6963 p7)), none, none, none]) D328_248 (im_cal cn_328 cl_12_790) (Or.inl rfl) rfl sf_6952 rfl rfl rfl rfl hd ⟨rfl, rfl, rfl, trivial⟩ ?_
          refine hP.mono ?_
          rintro _ e100 M89 ⟨rfl, rfl, hP⟩
          refine im_bkN ?_
          refine im_ld (q := 252) (i := 2) D328_251 rfl rfl rfl ?_
          refine im_iconst (q := 253) D328_252 ?_
          obtain ⟨hP, hJ95⟩ := hP
          have kJ96 : (((¬ p2 = 4)) ∨ ((p2 = 4) ∧ (¬ (M89 6960 p7) = 3))) → im_T g d 328 285 [some (.ref 6952), none, some (vI p2), none, some (vI p4), some (vL p5), none, some (vI p7)] [] e M89 K := by
            intro  hx97
            have hP := hJ95  hx97
            refine im_iinc (q := 288) (i := 7) (L' := [some (.ref 6952), none, some (vI p2), none, some (vI p4), some (vL p5), none, some (vI (p7 + 1))]) D328_285 rfl (Nat.le_of_ble_eq_true rfl) rfl ?_
            refine im_goto (q := 291) (t := 111) D328_288 rfl ?_
            exact hP.wk ⟨rfl, rfl, rfl, rfl, rfl, trivial⟩
          refine im_icmp (q := 256) (t := 285) D328_253 rfl hg20 (by decide) (fun hc90 => ?_) (fun hc90 => ?_)
          · exact (kJ96  (Or.inl hc90)).wk ⟨rfl, rfl, rfl, rfl, rfl, trivial⟩
          · replace hP := hP (Decidable.not_not.mp hc90)
            refine im_ld (q := 257) (i := 0) D328_256 rfl rfl rfl ?_
            refine im_gfR (q := 260) (b := 6960) D328_257 (im_fl cn_328 fl_12_33) sf_6952 rfl rfl tR_12_21 rf_6952_21 ?_
            refine im_ld (q := 262) (i := 7) D328_260 rfl rfl rfl ?_
            refine im_rng (j := p7) sf_6960 hg70.1 hg70.2 (fun hr91 => ?_)
            refine im_iald (q := 263) D328_262 sf_6960 hg70.1 hg70.2 (by decide) rfl ?_
            refine im_iconst (q := 264) D328_263 ?_
            refine im_icmp (q := 267) (t := 285) D328_264 rfl hr91 (by decide) (fun hc92 => ?_) (fun hc92 => ?_)
            · exact (kJ96  (Or.inr ⟨(Decidable.not_not.mp hc90), hc92⟩)).wk ⟨rfl, rfl, rfl, rfl, rfl, trivial⟩
            · replace hP := hP (Decidable.not_not.mp hc92)
              refine im_ld (q := 268) (i := 0) D328_267 rfl rfl rfl ?_
              refine im_ld (q := 269) (i := 0) D328_268 rfl rfl rfl ?_
              refine im_gfR (q := 272) (b := 6962) D328_269 (im_fl cn_328 fl_12_39) sf_6952 rfl rfl tR_12_23 rf_6952_23 ?_
              refine im_ld (q := 274) (i := 7) D328_272 rfl rfl rfl ?_
              refine im_rng (j := p7) sf_6962 hg70.1 hg70.2 (fun hr93 => ?_)
              refine im_lald (q := 275) D328_274 sf_6962 hg70.1 hg70.2 (by decide) rfl ?_
              refine im_ld (q := 276) (i := 0) D328_275 rfl rfl rfl ?_
              refine im_gfR (q := 279) (b := 6963) D328_276 (im_fl cn_328 fl_12_42) sf_6952 rfl rfl tR_12_24 rf_6952_24 ?_
              refine im_ld (q := 281) (i := 7) D328_279 rfl rfl rfl ?_
              refine im_rng (j := p7) sf_6963 hg70.1 hg70.2 (fun hr94 => ?_)
              refine im_lald (q := 282) D328_281 sf_6963 hg70.1 hg70.2 (by decide) rfl ?_
              refine im_callV (q := 285) (kd := 1) (y := 331) (n := 2) (ci := 12) (a := 6952) (vs := [.ref 6952, vL (M89 6962 p7), vL (M89 6963 p7)]) (r := []) (L2 := [some (.ref 6952), some (vL (M89 6962 p7)), none, some (vL (M89 6963 p7)), none, none, none]) D328_282 (im_cal cn_328 cl_12_790) (Or.inl rfl) rfl sf_6952 rfl rfl rfl rfl hd ⟨rfl, rfl, rfl, trivial⟩ ?_
              refine hP.mono ?_
              rintro _ e99 M98 ⟨rfl, rfl, hP⟩
              refine im_bkN ?_
              refine im_iinc (q := 288) (i := 7) (L' := [some (.ref 6952), none, some (vI p2), none, some (vI p4), some (vL p5), none, some (vI (p7 + 1))]) D328_285 rfl (Nat.le_of_ble_eq_true rfl) rfl ?_
              refine im_goto (q := 291) (t := 111) D328_288 rfl ?_
              exact hP.wk ⟨rfl, rfl, rfl, rfl, rfl, trivial⟩
    refine im_icmp (q := 171) (t := 216) D328_168 rfl hg20 (by decide) (fun hc21 => ?_) (fun hc21 => ?_)
    · exact (kJ67  (Or.inl hc21)).wk ⟨rfl, rfl, rfl, rfl, rfl, trivial⟩
    · replace hP := hP (Decidable.not_not.mp hc21)
      refine im_ld (q := 172) (i := 0) D328_171 rfl rfl rfl ?_
      refine im_gfR (q := 175) (b := 6960) D328_172 (im_fl cn_328 fl_12_33) sf_6952 rfl rfl tR_12_21 rf_6952_21 ?_
      refine im_ld (q := 177) (i := 7) D328_175 rfl rfl rfl ?_
      have hg22 := hP
      refine im_rng (j := p7) sf_6960 hg22.1 hg22.2 (fun hr23 => ?_)
      refine im_iald (q := 178) D328_177 sf_6960 hg22.1 hg22.2 (by decide) rfl ?_
      refine im_bipush (q := 180) D328_178 rfl ?_
      refine im_icmp (q := 183) (t := 204) D328_180 rfl hr23 (by decide) (fun hc24 => ?_) (fun hc24 => ?_)
      · exact (kJ30  (Or.inl ⟨(Decidable.not_not.mp hc21), hc24⟩)).wk ⟨rfl, rfl, rfl, rfl, rfl, trivial⟩
      · refine im_ld (q := 184) (i := 0) D328_183 rfl rfl rfl ?_
        refine im_gfR (q := 187) (b := 6960) D328_184 (im_fl cn_328 fl_12_33) sf_6952 rfl rfl tR_12_21 rf_6952_21 ?_
        refine im_ld (q := 189) (i := 7) D328_187 rfl rfl rfl ?_
        refine im_iald (q := 190) D328_189 sf_6960 hg22.1 hg22.2 (by decide) rfl ?_
        refine im_iconst (q := 191) D328_190 ?_
        refine im_icmp (q := 194) (t := 216) D328_191 rfl hr23 (by decide) (fun hc26 => ?_) (fun hc26 => ?_)
        · exact (kJ67  (Or.inr (Or.inl ⟨(Decidable.not_not.mp hc21), hc24, hc26⟩))).wk ⟨rfl, rfl, rfl, rfl, rfl, trivial⟩
        · refine im_ld (q := 195) (i := 0) D328_194 rfl rfl rfl ?_
          refine im_gfR (q := 198) (b := 6970) D328_195 (im_fl cn_328 fl_12_63) sf_6952 rfl rfl tR_12_31 rf_6952_31 ?_
          refine im_ld (q := 200) (i := 7) D328_198 rfl rfl rfl ?_
          refine im_rng (j := p7) sf_6970 hg22.1 hg22.2 (fun hr27 => ?_)
          refine im_bald (q := 201) D328_200 sf_6970 (Or.inr rfl) hg22.1 hg22.2 (by decide) rfl ?_
          refine im_ifc (q := 204) (t := 216) D328_201 rfl (im_z32 hr27) (fun hc28 => ?_) (fun hc28 => ?_)
          · exact (kJ67  (Or.inr (Or.inr ⟨(Decidable.not_not.mp hc21), hc24, (Decidable.not_not.mp hc26), hc28⟩))).wk ⟨rfl, rfl, rfl, rfl, rfl, trivial⟩
          · exact (kJ30  (Or.inr ⟨(Decidable.not_not.mp hc21), hc24, (Decidable.not_not.mp hc26), hc28⟩)).wk ⟨rfl, rfl, rfl, rfl, rfl, trivial⟩
  have kJ102 : ∀ x16 : Int, (((p4 ≤ p7) ∧ (¬ p2 = 0) ∧ x16 = (M 6952 60)) ∨ ((p4 ≤ p7) ∧ (p2 = 0) ∧ x16 = p5)) → im_T g d 328 305 [none, none, none, none, none, none, none, none] [vL x16] e M K := by
    intro x16 hx103
    have hP := hJ101 x16 hx103
    exact im_lret (q := 306) D328_305 rfl hP
  refine im_icmp (q := 118) (t := 291) D328_115 rfl hg1 hg2 (fun hc3 => ?_) (fun hc3 => ?_)
  · replace hP := hP.1 hc3
    refine im_ld (q := 292) (i := 2) D328_291 rfl rfl rfl ?_
    have hg4 := hP
    refine im_ifc (q := 295) (t := 300) D328_292 rfl hg4 (fun hc5 => ?_) (fun hc5 => ?_)
    · refine im_ld (q := 301) (i := 0) D328_300 rfl rfl rfl ?_
      refine im_rng (j := 60) sf_6952 (by decide) (by decide) (fun hr6 => ?_)
      refine im_gfI (q := 304) D328_301 (im_fl cn_328 fl_12_779) sf_6952 rfl rfl tI_12_60 rfl ?_
      refine im_i2l (q := 305) D328_304 hr6 ?_
      exact (kJ102 ((M 6952 60)) (Or.inl ⟨hc3, hc5, rfl⟩)).wk trivial
    · refine im_ld (q := 297) (i := 5) D328_295 rfl rfl rfl ?_
      refine im_goto (q := 300) (t := 305) D328_297 rfl ?_
      exact (kJ102 (p5) (Or.inr ⟨hc3, (Decidable.not_not.mp hc5), rfl⟩)).wk trivial
  · replace hP := hP.2 (Int.not_le.mp hc3)
    refine im_ld (q := 119) (i := 0) D328_118 rfl rfl rfl ?_
    refine im_gfR (q := 122) (b := 6960) D328_119 (im_fl cn_328 fl_12_33) sf_6952 rfl rfl tR_12_21 rf_6952_21 ?_
    refine im_ld (q := 124) (i := 7) D328_122 rfl rfl rfl ?_
    obtain ⟨hg7, hP⟩ := hP
    refine im_rng (j := p7) sf_6960 hg7.1 hg7.2 (fun hr8 => ?_)
    refine im_iald (q := 125) D328_124 sf_6960 hg7.1 hg7.2 (by decide) rfl ?_
    refine im_iconst (q := 126) D328_125 ?_
    refine im_icmp (q := 129) (t := 162) D328_126 rfl hr8 (by decide) (fun hc9 => ?_) (fun hc9 => ?_)
    · exact (kJ18  (Or.inl ⟨(Int.not_le.mp hc3), hc9⟩)).wk ⟨rfl, rfl, rfl, rfl, rfl, trivial⟩
    · replace hP := hP (Decidable.not_not.mp hc9)
      refine im_ld (q := 130) (i := 0) D328_129 rfl rfl rfl ?_
      refine im_gfR (q := 133) (b := 6970) D328_130 (im_fl cn_328 fl_12_63) sf_6952 rfl rfl tR_12_31 rf_6952_31 ?_
      refine im_ld (q := 135) (i := 7) D328_133 rfl rfl rfl ?_
      refine im_rng (j := p7) sf_6970 hg7.1 hg7.2 (fun hr10 => ?_)
      refine im_bald (q := 136) D328_135 sf_6970 (Or.inr rfl) hg7.1 hg7.2 (by decide) rfl ?_
      refine im_ifc (q := 139) (t := 162) D328_136 rfl (im_z32 hr10) (fun hc11 => ?_) (fun hc11 => ?_)
      · exact (kJ18  (Or.inr (Or.inl ⟨(Int.not_le.mp hc3), (Decidable.not_not.mp hc9), hc11⟩))).wk ⟨rfl, rfl, rfl, rfl, rfl, trivial⟩
      · replace hP := hP (Decidable.not_not.mp hc11)
        refine im_ld (q := 140) (i := 0) D328_139 rfl rfl rfl ?_
        refine im_gfR (q := 143) (b := 6969) D328_140 (im_fl cn_328 fl_12_60) sf_6952 rfl rfl tR_12_30 rf_6952_30 ?_
        refine im_ld (q := 145) (i := 7) D328_143 rfl rfl rfl ?_
        refine im_rng (j := p7) sf_6969 hg7.1 hg7.2 (fun hr12 => ?_)
        refine im_lald (q := 146) D328_145 sf_6969 hg7.1 hg7.2 (by decide) rfl ?_
        refine im_ld (q := 148) (i := 5) D328_146 rfl rfl rfl ?_
        obtain ⟨hg13, hP⟩ := hP
        refine im_lif (q := 149) (q2 := 152) (t := 162) D328_148 D328_149 rfl hr12 hg13 (fun hc14 => ?_) (fun hc14 => ?_)
        · exact (kJ18  (Or.inr (Or.inr ⟨(Int.not_le.mp hc3), (Decidable.not_not.mp hc9), (Decidable.not_not.mp hc11), hc14⟩))).wk ⟨rfl, rfl, rfl, rfl, rfl, trivial⟩
        · replace hP := hP (Int.not_le.mp hc14)
          refine im_ld (q := 153) (i := 0) D328_152 rfl rfl rfl ?_
          refine im_gfR (q := 156) (b := 6969) D328_153 (im_fl cn_328 fl_12_60) sf_6952 rfl rfl tR_12_30 rf_6952_30 ?_
          refine im_ld (q := 158) (i := 7) D328_156 rfl rfl rfl ?_
          refine im_lald (q := 159) D328_158 sf_6969 hg7.1 hg7.2 (by decide) rfl ?_
          refine im_goto (q := 162) (t := 164) D328_159 rfl ?_
          refine im_st2 (q := 166) (i := 5) (L' := [some (.ref 6952), none, some (vI p2), none, some (vI p4), some (vL (M 6969 p7)), none, some (vI p7)]) D328_164 (Or.inr rfl) (Nat.le_of_ble_eq_true rfl) rfl ?_
          refine im_ld (q := 167) (i := 2) D328_166 rfl rfl rfl ?_
          refine im_iconst (q := 168) D328_167 ?_
          obtain ⟨hg104, hP⟩ := hP
          obtain ⟨hJ112, hJ148⟩ := hP
          have kJ113 : (((p2 = 2) ∧ ((M 6960 p7) = 21)) ∨ ((p2 = 2) ∧ (¬ (M 6960 p7) = 21) ∧ ((M 6960 p7) = 5) ∧ (¬ (M 6970 p7) = 0))) → im_T g d 328 204 [some (.ref 6952), none, some (vI p2), none, some (vI p4), some (vL (M 6969 p7)), none, some (vI p7)] [] e M K := by
            intro  hx114
            have hP := hJ112  hx114
            refine im_ld (q := 205) (i := 0) D328_204 rfl rfl rfl ?_
            refine im_ld (q := 206) (i := 0) D328_205 rfl rfl rfl ?_
            refine im_gfR (q := 209) (b := 6961) D328_206 (im_fl cn_328 fl_12_36) sf_6952 rfl rfl tR_12_22 rf_6952_22 ?_
            refine im_ld (q := 211) (i := 7) D328_209 rfl rfl rfl ?_
            refine im_rng (j := p7) sf_6961 hg7.1 hg7.2 (fun hr115 => ?_)
            refine im_lald (q := 212) D328_211 sf_6961 hg7.1 hg7.2 (by decide) rfl ?_
            refine im_lconst (q := 213) (z := 0) D328_212 rfl ?_
            refine im_callV (q := 216) (kd := 1) (y := 331) (n := 2) (ci := 12) (a := 6952) (vs := [.ref 6952, vL (M 6961 p7), vL 0]) (r := []) (L2 := [some (.ref 6952), some (vL (M 6961 p7)), none, some (vL 0), none, none, none]) D328_213 (im_cal cn_328 cl_12_790) (Or.inl rfl) rfl sf_6952 rfl rfl rfl rfl hd ⟨rfl, rfl, rfl, trivial⟩ ?_
            refine hP.mono ?_
            rintro _ e147 M116 ⟨rfl, rfl, hP⟩
            refine im_bkN ?_
            refine im_ld (q := 217) (i := 2) D328_216 rfl rfl rfl ?_
            refine im_iconst (q := 218) D328_217 ?_
            obtain ⟨hP, hJ122⟩ := hP
            have kJ123 : (((¬ p2 = 4)) ∨ ((p2 = 4) ∧ (¬ (M116 6960 p7) = 8))) → im_T g d 328 251 [some (.ref 6952), none, some (vI p2), none, some (vI p4), some (vL (M 6969 p7)), none, some (vI p7)] [] e M116 K := by
              intro  hx124
              have hP := hJ122  hx124
              refine im_ld (q := 252) (i := 2) D328_251 rfl rfl rfl ?_
              refine im_iconst (q := 253) D328_252 ?_
              obtain ⟨hP, hJ130⟩ := hP
              have kJ131 : (((¬ p2 = 4)) ∨ ((p2 = 4) ∧ (¬ (M116 6960 p7) = 3))) → im_T g d 328 285 [some (.ref 6952), none, some (vI p2), none, some (vI p4), some (vL (M 6969 p7)), none, some (vI p7)] [] e M116 K := by
                intro  hx132
                have hP := hJ130  hx132
                refine im_iinc (q := 288) (i := 7) (L' := [some (.ref 6952), none, some (vI p2), none, some (vI p4), some (vL (M 6969 p7)), none, some (vI (p7 + 1))]) D328_285 rfl (Nat.le_of_ble_eq_true rfl) rfl ?_
                refine im_goto (q := 291) (t := 111) D328_288 rfl ?_
                exact hP.wk ⟨rfl, rfl, rfl, rfl, rfl, trivial⟩
              refine im_icmp (q := 256) (t := 285) D328_253 rfl hg104 (by decide) (fun hc125 => ?_) (fun hc125 => ?_)
              · exact (kJ131  (Or.inl hc125)).wk ⟨rfl, rfl, rfl, rfl, rfl, trivial⟩
              · replace hP := hP (Decidable.not_not.mp hc125)
                refine im_ld (q := 257) (i := 0) D328_256 rfl rfl rfl ?_
                refine im_gfR (q := 260) (b := 6960) D328_257 (im_fl cn_328 fl_12_33) sf_6952 rfl rfl tR_12_21 rf_6952_21 ?_
                refine im_ld (q := 262) (i := 7) D328_260 rfl rfl rfl ?_
                refine im_rng (j := p7) sf_6960 hg7.1 hg7.2 (fun hr126 => ?_)
                refine im_iald (q := 263) D328_262 sf_6960 hg7.1 hg7.2 (by decide) rfl ?_
                refine im_iconst (q := 264) D328_263 ?_
                refine im_icmp (q := 267) (t := 285) D328_264 rfl hr126 (by decide) (fun hc127 => ?_) (fun hc127 => ?_)
                · exact (kJ131  (Or.inr ⟨(Decidable.not_not.mp hc125), hc127⟩)).wk ⟨rfl, rfl, rfl, rfl, rfl, trivial⟩
                · replace hP := hP (Decidable.not_not.mp hc127)
                  refine im_ld (q := 268) (i := 0) D328_267 rfl rfl rfl ?_
                  refine im_ld (q := 269) (i := 0) D328_268 rfl rfl rfl ?_
                  refine im_gfR (q := 272) (b := 6962) D328_269 (im_fl cn_328 fl_12_39) sf_6952 rfl rfl tR_12_23 rf_6952_23 ?_
                  refine im_ld (q := 274) (i := 7) D328_272 rfl rfl rfl ?_
                  refine im_rng (j := p7) sf_6962 hg7.1 hg7.2 (fun hr128 => ?_)
                  refine im_lald (q := 275) D328_274 sf_6962 hg7.1 hg7.2 (by decide) rfl ?_
                  refine im_ld (q := 276) (i := 0) D328_275 rfl rfl rfl ?_
                  refine im_gfR (q := 279) (b := 6963) D328_276 (im_fl cn_328 fl_12_42) sf_6952 rfl rfl tR_12_24 rf_6952_24 ?_
                  refine im_ld (q := 281) (i := 7) D328_279 rfl rfl rfl ?_
                  refine im_rng (j := p7) sf_6963 hg7.1 hg7.2 (fun hr129 => ?_)
                  refine im_lald (q := 282) D328_281 sf_6963 hg7.1 hg7.2 (by decide) rfl ?_
                  refine im_callV (q := 285) (kd := 1) (y := 331) (n := 2) (ci := 12) (a := 6952) (vs := [.ref 6952, vL (M116 6962 p7), vL (M116 6963 p7)]) (r := []) (L2 := [some (.ref 6952), some (vL (M116 6962 p7)), none, some (vL (M116 6963 p7)), none, none, none]) D328_282 (im_cal cn_328 cl_12_790) (Or.inl rfl) rfl sf_6952 rfl rfl rfl rfl hd ⟨rfl, rfl, rfl, trivial⟩ ?_
                  refine hP.mono ?_
                  rintro _ e134 M133 ⟨rfl, rfl, hP⟩
                  refine im_bkN ?_
                  refine im_iinc (q := 288) (i := 7) (L' := [some (.ref 6952), none, some (vI p2), none, some (vI p4), some (vL (M 6969 p7)), none, some (vI (p7 + 1))]) D328_285 rfl (Nat.le_of_ble_eq_true rfl) rfl ?_
                  refine im_goto (q := 291) (t := 111) D328_288 rfl ?_
                  exact hP.wk ⟨rfl, rfl, rfl, rfl, rfl, trivial⟩
            refine im_icmp (q := 221) (t := 251) D328_218 rfl hg104 (by decide) (fun hc117 => ?_) (fun hc117 => ?_)
            · exact (kJ123  (Or.inl hc117)).wk ⟨rfl, rfl, rfl, rfl, rfl, trivial⟩
            · replace hP := hP (Decidable.not_not.mp hc117)
              refine im_ld (q := 222) (i := 0) D328_221 rfl rfl rfl ?_
              refine im_gfR (q := 225) (b := 6960) D328_222 (im_fl cn_328 fl_12_33) sf_6952 rfl rfl tR_12_21 rf_6952_21 ?_
              refine im_ld (q := 227) (i := 7) D328_225 rfl rfl rfl ?_
              refine im_rng (j := p7) sf_6960 hg7.1 hg7.2 (fun hr118 => ?_)
              refine im_iald (q := 228) D328_227 sf_6960 hg7.1 hg7.2 (by decide) rfl ?_
              refine im_bipush (q := 230) D328_228 rfl ?_
              refine im_icmp (q := 233) (t := 251) D328_230 rfl hr118 (by decide) (fun hc119 => ?_) (fun hc119 => ?_)
              · exact (kJ123  (Or.inr ⟨(Decidable.not_not.mp hc117), hc119⟩)).wk ⟨rfl, rfl, rfl, rfl, rfl, trivial⟩
              · replace hP := hP (Decidable.not_not.mp hc119)
                refine im_ld (q := 234) (i := 0) D328_233 rfl rfl rfl ?_
                refine im_ld (q := 235) (i := 0) D328_234 rfl rfl rfl ?_
                refine im_gfR (q := 238) (b := 6961) D328_235 (im_fl cn_328 fl_12_36) sf_6952 rfl rfl tR_12_22 rf_6952_22 ?_
                refine im_ld (q := 240) (i := 7) D328_238 rfl rfl rfl ?_
                refine im_rng (j := p7) sf_6961 hg7.1 hg7.2 (fun hr120 => ?_)
                refine im_lald (q := 241) D328_240 sf_6961 hg7.1 hg7.2 (by decide) rfl ?_
                refine im_ld (q := 242) (i := 0) D328_241 rfl rfl rfl ?_
                refine im_gfR (q := 245) (b := 6963) D328_242 (im_fl cn_328 fl_12_42) sf_6952 rfl rfl tR_12_24 rf_6952_24 ?_
                refine im_ld (q := 247) (i := 7) D328_245 rfl rfl rfl ?_
                refine im_rng (j := p7) sf_6963 hg7.1 hg7.2 (fun hr121 => ?_)
                refine im_lald (q := 248) D328_247 sf_6963 hg7.1 hg7.2 (by decide) rfl ?_
                refine im_callV (q := 251) (kd := 1) (y := 331) (n := 2) (ci := 12) (a := 6952) (vs := [.ref 6952, vL (M116 6961 p7), vL (M116 6963 p7)]) (r := []) (L2 := [some (.ref 6952), some (vL (M116 6961 p7)), none, some (vL (M116 6963 p7)), none, none, none]) D328_248 (im_cal cn_328 cl_12_790) (Or.inl rfl) rfl sf_6952 rfl rfl rfl rfl hd ⟨rfl, rfl, rfl, trivial⟩ ?_
                refine hP.mono ?_
                rintro _ e146 M135 ⟨rfl, rfl, hP⟩
                refine im_bkN ?_
                refine im_ld (q := 252) (i := 2) D328_251 rfl rfl rfl ?_
                refine im_iconst (q := 253) D328_252 ?_
                obtain ⟨hP, hJ141⟩ := hP
                have kJ142 : (((¬ p2 = 4)) ∨ ((p2 = 4) ∧ (¬ (M135 6960 p7) = 3))) → im_T g d 328 285 [some (.ref 6952), none, some (vI p2), none, some (vI p4), some (vL (M 6969 p7)), none, some (vI p7)] [] e M135 K := by
                  intro  hx143
                  have hP := hJ141  hx143
                  refine im_iinc (q := 288) (i := 7) (L' := [some (.ref 6952), none, some (vI p2), none, some (vI p4), some (vL (M 6969 p7)), none, some (vI (p7 + 1))]) D328_285 rfl (Nat.le_of_ble_eq_true rfl) rfl ?_
                  refine im_goto (q := 291) (t := 111) D328_288 rfl ?_
                  exact hP.wk ⟨rfl, rfl, rfl, rfl, rfl, trivial⟩
                refine im_icmp (q := 256) (t := 285) D328_253 rfl hg104 (by decide) (fun hc136 => ?_) (fun hc136 => ?_)
                · exact (kJ142  (Or.inl hc136)).wk ⟨rfl, rfl, rfl, rfl, rfl, trivial⟩
                · replace hP := hP (Decidable.not_not.mp hc136)
                  refine im_ld (q := 257) (i := 0) D328_256 rfl rfl rfl ?_
                  refine im_gfR (q := 260) (b := 6960) D328_257 (im_fl cn_328 fl_12_33) sf_6952 rfl rfl tR_12_21 rf_6952_21 ?_
                  refine im_ld (q := 262) (i := 7) D328_260 rfl rfl rfl ?_
                  refine im_rng (j := p7) sf_6960 hg7.1 hg7.2 (fun hr137 => ?_)
                  refine im_iald (q := 263) D328_262 sf_6960 hg7.1 hg7.2 (by decide) rfl ?_
                  refine im_iconst (q := 264) D328_263 ?_
                  refine im_icmp (q := 267) (t := 285) D328_264 rfl hr137 (by decide) (fun hc138 => ?_) (fun hc138 => ?_)
                  · exact (kJ142  (Or.inr ⟨(Decidable.not_not.mp hc136), hc138⟩)).wk ⟨rfl, rfl, rfl, rfl, rfl, trivial⟩
                  · replace hP := hP (Decidable.not_not.mp hc138)
                    refine im_ld (q := 268) (i := 0) D328_267 rfl rfl rfl ?_
                    refine im_ld (q := 269) (i := 0) D328_268 rfl rfl rfl ?_
                    refine im_gfR (q := 272) (b := 6962) D328_269 (im_fl cn_328 fl_12_39) sf_6952 rfl rfl tR_12_23 rf_6952_23 ?_
                    refine im_ld (q := 274) (i := 7) D328_272 rfl rfl rfl ?_
                    refine im_rng (j := p7) sf_6962 hg7.1 hg7.2 (fun hr139 => ?_)
                    refine im_lald (q := 275) D328_274 sf_6962 hg7.1 hg7.2 (by decide) rfl ?_
                    refine im_ld (q := 276) (i := 0) D328_275 rfl rfl rfl ?_
                    refine im_gfR (q := 279) (b := 6963) D328_276 (im_fl cn_328 fl_12_42) sf_6952 rfl rfl tR_12_24 rf_6952_24 ?_
                    refine im_ld (q := 281) (i := 7) D328_279 rfl rfl rfl ?_
                    refine im_rng (j := p7) sf_6963 hg7.1 hg7.2 (fun hr140 => ?_)
                    refine im_lald (q := 282) D328_281 sf_6963 hg7.1 hg7.2 (by decide) rfl ?_
                    refine im_callV (q := 285) (kd := 1) (y := 331) (n := 2) (ci := 12) (a := 6952) (vs := [.ref 6952, vL (M135 6962 p7), vL (M135 6963 p7)]) (r := []) (L2 := [some (.ref 6952), some (vL (M135 6962 p7)), none, some (vL (M135 6963 p7)), none, none, none]) D328_282 (im_cal cn_328 cl_12_790) (Or.inl rfl) rfl sf_6952 rfl rfl rfl rfl hd ⟨rfl, rfl, rfl, trivial⟩ ?_
                    refine hP.mono ?_
                    rintro _ e145 M144 ⟨rfl, rfl, hP⟩
                    refine im_bkN ?_
                    refine im_iinc (q := 288) (i := 7) (L' := [some (.ref 6952), none, some (vI p2), none, some (vI p4), some (vL (M 6969 p7)), none, some (vI (p7 + 1))]) D328_285 rfl (Nat.le_of_ble_eq_true rfl) rfl ?_
                    refine im_goto (q := 291) (t := 111) D328_288 rfl ?_
                    exact hP.wk ⟨rfl, rfl, rfl, rfl, rfl, trivial⟩
          have kJ149 : (((¬ p2 = 2)) ∨ ((p2 = 2) ∧ (¬ (M 6960 p7) = 21) ∧ (¬ (M 6960 p7) = 5)) ∨ ((p2 = 2) ∧ (¬ (M 6960 p7) = 21) ∧ ((M 6960 p7) = 5) ∧ ((M 6970 p7) = 0))) → im_T g d 328 216 [some (.ref 6952), none, some (vI p2), none, some (vI p4), some (vL (M 6969 p7)), none, some (vI p7)] [] e M K := by
            intro  hx150
            have hP := hJ148  hx150
            refine im_ld (q := 217) (i := 2) D328_216 rfl rfl rfl ?_
            refine im_iconst (q := 218) D328_217 ?_
            obtain ⟨hP, hJ156⟩ := hP
            have kJ157 : (((¬ p2 = 4)) ∨ ((p2 = 4) ∧ (¬ (M 6960 p7) = 8))) → im_T g d 328 251 [some (.ref 6952), none, some (vI p2), none, some (vI p4), some (vL (M 6969 p7)), none, some (vI p7)] [] e M K := by
              intro  hx158
              have hP := hJ156  hx158
              refine im_ld (q := 252) (i := 2) D328_251 rfl rfl rfl ?_
              refine im_iconst (q := 253) D328_252 ?_
              obtain ⟨hP, hJ164⟩ := hP
              have kJ165 : (((¬ p2 = 4)) ∨ ((p2 = 4) ∧ (¬ (M 6960 p7) = 3))) → im_T g d 328 285 [some (.ref 6952), none, some (vI p2), none, some (vI p4), some (vL (M 6969 p7)), none, some (vI p7)] [] e M K := by
                intro  hx166
                have hP := hJ164  hx166
                refine im_iinc (q := 288) (i := 7) (L' := [some (.ref 6952), none, some (vI p2), none, some (vI p4), some (vL (M 6969 p7)), none, some (vI (p7 + 1))]) D328_285 rfl (Nat.le_of_ble_eq_true rfl) rfl ?_
                refine im_goto (q := 291) (t := 111) D328_288 rfl ?_
                exact hP.wk ⟨rfl, rfl, rfl, rfl, rfl, trivial⟩
              refine im_icmp (q := 256) (t := 285) D328_253 rfl hg104 (by decide) (fun hc159 => ?_) (fun hc159 => ?_)
              · exact (kJ165  (Or.inl hc159)).wk ⟨rfl, rfl, rfl, rfl, rfl, trivial⟩
              · replace hP := hP (Decidable.not_not.mp hc159)
                refine im_ld (q := 257) (i := 0) D328_256 rfl rfl rfl ?_
                refine im_gfR (q := 260) (b := 6960) D328_257 (im_fl cn_328 fl_12_33) sf_6952 rfl rfl tR_12_21 rf_6952_21 ?_
                refine im_ld (q := 262) (i := 7) D328_260 rfl rfl rfl ?_
                refine im_iald (q := 263) D328_262 sf_6960 hg7.1 hg7.2 (by decide) rfl ?_
                refine im_iconst (q := 264) D328_263 ?_
                refine im_icmp (q := 267) (t := 285) D328_264 rfl hr8 (by decide) (fun hc161 => ?_) (fun hc161 => ?_)
                · exact (kJ165  (Or.inr ⟨(Decidable.not_not.mp hc159), hc161⟩)).wk ⟨rfl, rfl, rfl, rfl, rfl, trivial⟩
                · replace hP := hP (Decidable.not_not.mp hc161)
                  refine im_ld (q := 268) (i := 0) D328_267 rfl rfl rfl ?_
                  refine im_ld (q := 269) (i := 0) D328_268 rfl rfl rfl ?_
                  refine im_gfR (q := 272) (b := 6962) D328_269 (im_fl cn_328 fl_12_39) sf_6952 rfl rfl tR_12_23 rf_6952_23 ?_
                  refine im_ld (q := 274) (i := 7) D328_272 rfl rfl rfl ?_
                  refine im_rng (j := p7) sf_6962 hg7.1 hg7.2 (fun hr162 => ?_)
                  refine im_lald (q := 275) D328_274 sf_6962 hg7.1 hg7.2 (by decide) rfl ?_
                  refine im_ld (q := 276) (i := 0) D328_275 rfl rfl rfl ?_
                  refine im_gfR (q := 279) (b := 6963) D328_276 (im_fl cn_328 fl_12_42) sf_6952 rfl rfl tR_12_24 rf_6952_24 ?_
                  refine im_ld (q := 281) (i := 7) D328_279 rfl rfl rfl ?_
                  refine im_rng (j := p7) sf_6963 hg7.1 hg7.2 (fun hr163 => ?_)
                  refine im_lald (q := 282) D328_281 sf_6963 hg7.1 hg7.2 (by decide) rfl ?_
                  refine im_callV (q := 285) (kd := 1) (y := 331) (n := 2) (ci := 12) (a := 6952) (vs := [.ref 6952, vL (M 6962 p7), vL (M 6963 p7)]) (r := []) (L2 := [some (.ref 6952), some (vL (M 6962 p7)), none, some (vL (M 6963 p7)), none, none, none]) D328_282 (im_cal cn_328 cl_12_790) (Or.inl rfl) rfl sf_6952 rfl rfl rfl rfl hd ⟨rfl, rfl, rfl, trivial⟩ ?_
                  refine hP.mono ?_
                  rintro _ e168 M167 ⟨rfl, rfl, hP⟩
                  refine im_bkN ?_
                  refine im_iinc (q := 288) (i := 7) (L' := [some (.ref 6952), none, some (vI p2), none, some (vI p4), some (vL (M 6969 p7)), none, some (vI (p7 + 1))]) D328_285 rfl (Nat.le_of_ble_eq_true rfl) rfl ?_
                  refine im_goto (q := 291) (t := 111) D328_288 rfl ?_
                  exact hP.wk ⟨rfl, rfl, rfl, rfl, rfl, trivial⟩
            refine im_icmp (q := 221) (t := 251) D328_218 rfl hg104 (by decide) (fun hc151 => ?_) (fun hc151 => ?_)
            · exact (kJ157  (Or.inl hc151)).wk ⟨rfl, rfl, rfl, rfl, rfl, trivial⟩
            · replace hP := hP (Decidable.not_not.mp hc151)
              refine im_ld (q := 222) (i := 0) D328_221 rfl rfl rfl ?_
              refine im_gfR (q := 225) (b := 6960) D328_222 (im_fl cn_328 fl_12_33) sf_6952 rfl rfl tR_12_21 rf_6952_21 ?_
              refine im_ld (q := 227) (i := 7) D328_225 rfl rfl rfl ?_
              refine im_iald (q := 228) D328_227 sf_6960 hg7.1 hg7.2 (by decide) rfl ?_
              refine im_bipush (q := 230) D328_228 rfl ?_
              refine im_icmp (q := 233) (t := 251) D328_230 rfl hr8 (by decide) (fun hc153 => ?_) (fun hc153 => ?_)
              · exact (kJ157  (Or.inr ⟨(Decidable.not_not.mp hc151), hc153⟩)).wk ⟨rfl, rfl, rfl, rfl, rfl, trivial⟩
              · replace hP := hP (Decidable.not_not.mp hc153)
                refine im_ld (q := 234) (i := 0) D328_233 rfl rfl rfl ?_
                refine im_ld (q := 235) (i := 0) D328_234 rfl rfl rfl ?_
                refine im_gfR (q := 238) (b := 6961) D328_235 (im_fl cn_328 fl_12_36) sf_6952 rfl rfl tR_12_22 rf_6952_22 ?_
                refine im_ld (q := 240) (i := 7) D328_238 rfl rfl rfl ?_
                refine im_rng (j := p7) sf_6961 hg7.1 hg7.2 (fun hr154 => ?_)
                refine im_lald (q := 241) D328_240 sf_6961 hg7.1 hg7.2 (by decide) rfl ?_
                refine im_ld (q := 242) (i := 0) D328_241 rfl rfl rfl ?_
                refine im_gfR (q := 245) (b := 6963) D328_242 (im_fl cn_328 fl_12_42) sf_6952 rfl rfl tR_12_24 rf_6952_24 ?_
                refine im_ld (q := 247) (i := 7) D328_245 rfl rfl rfl ?_
                refine im_rng (j := p7) sf_6963 hg7.1 hg7.2 (fun hr155 => ?_)
                refine im_lald (q := 248) D328_247 sf_6963 hg7.1 hg7.2 (by decide) rfl ?_
                refine im_callV (q := 251) (kd := 1) (y := 331) (n := 2) (ci := 12) (a := 6952) (vs := [.ref 6952, vL (M 6961 p7), vL (M 6963 p7)]) (r := []) (L2 := [some (.ref 6952), some (vL (M 6961 p7)), none, some (vL (M 6963 p7)), none, none, none]) D328_248 (im_cal cn_328 cl_12_790) (Or.inl rfl) rfl sf_6952 rfl rfl rfl rfl hd ⟨rfl, rfl, rfl, trivial⟩ ?_
                refine hP.mono ?_
                rintro _ e180 M169 ⟨rfl, rfl, hP⟩
                refine im_bkN ?_
                refine im_ld (q := 252) (i := 2) D328_251 rfl rfl rfl ?_
                refine im_iconst (q := 253) D328_252 ?_
                obtain ⟨hP, hJ175⟩ := hP
                have kJ176 : (((¬ p2 = 4)) ∨ ((p2 = 4) ∧ (¬ (M169 6960 p7) = 3))) → im_T g d 328 285 [some (.ref 6952), none, some (vI p2), none, some (vI p4), some (vL (M 6969 p7)), none, some (vI p7)] [] e M169 K := by
                  intro  hx177
                  have hP := hJ175  hx177
                  refine im_iinc (q := 288) (i := 7) (L' := [some (.ref 6952), none, some (vI p2), none, some (vI p4), some (vL (M 6969 p7)), none, some (vI (p7 + 1))]) D328_285 rfl (Nat.le_of_ble_eq_true rfl) rfl ?_
                  refine im_goto (q := 291) (t := 111) D328_288 rfl ?_
                  exact hP.wk ⟨rfl, rfl, rfl, rfl, rfl, trivial⟩
                refine im_icmp (q := 256) (t := 285) D328_253 rfl hg104 (by decide) (fun hc170 => ?_) (fun hc170 => ?_)
                · exact (kJ176  (Or.inl hc170)).wk ⟨rfl, rfl, rfl, rfl, rfl, trivial⟩
                · replace hP := hP (Decidable.not_not.mp hc170)
                  refine im_ld (q := 257) (i := 0) D328_256 rfl rfl rfl ?_
                  refine im_gfR (q := 260) (b := 6960) D328_257 (im_fl cn_328 fl_12_33) sf_6952 rfl rfl tR_12_21 rf_6952_21 ?_
                  refine im_ld (q := 262) (i := 7) D328_260 rfl rfl rfl ?_
                  refine im_rng (j := p7) sf_6960 hg7.1 hg7.2 (fun hr171 => ?_)
                  refine im_iald (q := 263) D328_262 sf_6960 hg7.1 hg7.2 (by decide) rfl ?_
                  refine im_iconst (q := 264) D328_263 ?_
                  refine im_icmp (q := 267) (t := 285) D328_264 rfl hr171 (by decide) (fun hc172 => ?_) (fun hc172 => ?_)
                  · exact (kJ176  (Or.inr ⟨(Decidable.not_not.mp hc170), hc172⟩)).wk ⟨rfl, rfl, rfl, rfl, rfl, trivial⟩
                  · replace hP := hP (Decidable.not_not.mp hc172)
                    refine im_ld (q := 268) (i := 0) D328_267 rfl rfl rfl ?_
                    refine im_ld (q := 269) (i := 0) D328_268 rfl rfl rfl ?_
                    refine im_gfR (q := 272) (b := 6962) D328_269 (im_fl cn_328 fl_12_39) sf_6952 rfl rfl tR_12_23 rf_6952_23 ?_
                    refine im_ld (q := 274) (i := 7) D328_272 rfl rfl rfl ?_
                    refine im_rng (j := p7) sf_6962 hg7.1 hg7.2 (fun hr173 => ?_)
                    refine im_lald (q := 275) D328_274 sf_6962 hg7.1 hg7.2 (by decide) rfl ?_
                    refine im_ld (q := 276) (i := 0) D328_275 rfl rfl rfl ?_
                    refine im_gfR (q := 279) (b := 6963) D328_276 (im_fl cn_328 fl_12_42) sf_6952 rfl rfl tR_12_24 rf_6952_24 ?_
                    refine im_ld (q := 281) (i := 7) D328_279 rfl rfl rfl ?_
                    refine im_rng (j := p7) sf_6963 hg7.1 hg7.2 (fun hr174 => ?_)
                    refine im_lald (q := 282) D328_281 sf_6963 hg7.1 hg7.2 (by decide) rfl ?_
                    refine im_callV (q := 285) (kd := 1) (y := 331) (n := 2) (ci := 12) (a := 6952) (vs := [.ref 6952, vL (M169 6962 p7), vL (M169 6963 p7)]) (r := []) (L2 := [some (.ref 6952), some (vL (M169 6962 p7)), none, some (vL (M169 6963 p7)), none, none, none]) D328_282 (im_cal cn_328 cl_12_790) (Or.inl rfl) rfl sf_6952 rfl rfl rfl rfl hd ⟨rfl, rfl, rfl, trivial⟩ ?_
                    refine hP.mono ?_
                    rintro _ e179 M178 ⟨rfl, rfl, hP⟩
                    refine im_bkN ?_
                    refine im_iinc (q := 288) (i := 7) (L' := [some (.ref 6952), none, some (vI p2), none, some (vI p4), some (vL (M 6969 p7)), none, some (vI (p7 + 1))]) D328_285 rfl (Nat.le_of_ble_eq_true rfl) rfl ?_
                    refine im_goto (q := 291) (t := 111) D328_288 rfl ?_
                    exact hP.wk ⟨rfl, rfl, rfl, rfl, rfl, trivial⟩
          refine im_icmp (q := 171) (t := 216) D328_168 rfl hg104 (by decide) (fun hc105 => ?_) (fun hc105 => ?_)
          · exact (kJ149  (Or.inl hc105)).wk ⟨rfl, rfl, rfl, rfl, rfl, trivial⟩
          · refine im_ld (q := 172) (i := 0) D328_171 rfl rfl rfl ?_
            refine im_gfR (q := 175) (b := 6960) D328_172 (im_fl cn_328 fl_12_33) sf_6952 rfl rfl tR_12_21 rf_6952_21 ?_
            refine im_ld (q := 177) (i := 7) D328_175 rfl rfl rfl ?_
            refine im_iald (q := 178) D328_177 sf_6960 hg7.1 hg7.2 (by decide) rfl ?_
            refine im_bipush (q := 180) D328_178 rfl ?_
            refine im_icmp (q := 183) (t := 204) D328_180 rfl hr8 (by decide) (fun hc107 => ?_) (fun hc107 => ?_)
            · exact (kJ113  (Or.inl ⟨(Decidable.not_not.mp hc105), hc107⟩)).wk ⟨rfl, rfl, rfl, rfl, rfl, trivial⟩
            · refine im_ld (q := 184) (i := 0) D328_183 rfl rfl rfl ?_
              refine im_gfR (q := 187) (b := 6960) D328_184 (im_fl cn_328 fl_12_33) sf_6952 rfl rfl tR_12_21 rf_6952_21 ?_
              refine im_ld (q := 189) (i := 7) D328_187 rfl rfl rfl ?_
              refine im_iald (q := 190) D328_189 sf_6960 hg7.1 hg7.2 (by decide) rfl ?_
              refine im_iconst (q := 191) D328_190 ?_
              refine im_icmp (q := 194) (t := 216) D328_191 rfl hr8 (by decide) (fun hc109 => ?_) (fun hc109 => ?_)
              · exact (kJ149  (Or.inr (Or.inl ⟨(Decidable.not_not.mp hc105), hc107, hc109⟩))).wk ⟨rfl, rfl, rfl, rfl, rfl, trivial⟩
              · refine im_ld (q := 195) (i := 0) D328_194 rfl rfl rfl ?_
                refine im_gfR (q := 198) (b := 6970) D328_195 (im_fl cn_328 fl_12_63) sf_6952 rfl rfl tR_12_31 rf_6952_31 ?_
                refine im_ld (q := 200) (i := 7) D328_198 rfl rfl rfl ?_
                refine im_bald (q := 201) D328_200 sf_6970 (Or.inr rfl) hg7.1 hg7.2 (by decide) rfl ?_
                refine im_ifc (q := 204) (t := 216) D328_201 rfl (im_z32 hr10) (fun hc111 => ?_) (fun hc111 => ?_)
                · exact (kJ149  (Or.inr (Or.inr ⟨(Decidable.not_not.mp hc105), hc107, (Decidable.not_not.mp hc109), hc111⟩))).wk ⟨rfl, rfl, rfl, rfl, rfl, trivial⟩
                · exact (kJ113  (Or.inr ⟨(Decidable.not_not.mp hc105), hc107, (Decidable.not_not.mp hc109), hc111⟩)).wk ⟨rfl, rfl, rfl, rfl, rfl, trivial⟩
set_option maxRecDepth 20000 in
set_option maxHeartbeats 4000000 in
theorem b_mostWhens_0 {g : im_g} {d : Nat} {e : im_E} {M : im_M} {K : im_K} {p1 p2 : Int} (hP : (0 ≤ p1 ∧ p1 < 5100) ∧ ((∀ x4 : Int, (((¬ (M 6960 p1) = 5) ∧ x4 = 0) ∨ (((M 6960 p1) = 5) ∧ x4 = 1)) → im_T g d 329 26 [some (.ref 6952), none, some (vI p2), some (vI 0), some (vI p1)] [] e (im_u M 6991 p1 x4) K))) : im_T g d 329 0 [some (.ref 6952), some (vI p1), some (vI p2), none, none] [] e M K := by
  refine im_iconst (q := 1) D329_0 ?_
  refine im_st1 (q := 2) (i := 3) (L' := [some (.ref 6952), some (vI p1), some (vI p2), some (vI 0), none]) D329_1 (Or.inl ⟨_, rfl, rfl⟩) (Nat.le_of_ble_eq_true rfl) rfl ?_
  refine im_ld (q := 3) (i := 0) D329_2 rfl rfl rfl ?_
  refine im_gfR (q := 6) (b := 6991) D329_3 (im_fl cn_329 fl_12_127) sf_6952 rfl rfl tR_12_61 rf_6952_61 ?_
  refine im_ld (q := 7) (i := 1) D329_6 rfl rfl rfl ?_
  refine im_ld (q := 8) (i := 0) D329_7 rfl rfl rfl ?_
  refine im_gfR (q := 11) (b := 6960) D329_8 (im_fl cn_329 fl_12_33) sf_6952 rfl rfl tR_12_21 rf_6952_21 ?_
  refine im_ld (q := 12) (i := 1) D329_11 rfl rfl rfl ?_
  obtain ⟨hg1, hP⟩ := hP
  refine im_rng (j := p1) sf_6960 hg1.1 hg1.2 (fun hr2 => ?_)
  refine im_iald (q := 13) D329_12 sf_6960 hg1.1 hg1.2 (by decide) rfl ?_
  refine im_iconst (q := 14) D329_13 ?_
  have hJ5 := hP
  have kJ6 : ∀ x4 : Int, (((¬ (M 6960 p1) = 5) ∧ x4 = 0) ∨ (((M 6960 p1) = 5) ∧ x4 = 1)) → im_T g d 329 22 [some (.ref 6952), some (vI p1), some (vI p2), some (vI 0), none] [vI x4, vI p1, .ref 6991] e M K := by
    intro x4 hx7
    have hP := hJ5 x4 hx7
    refine im_iast (q := 23) D329_22 sf_6991 hg1.1 hg1.2 (by decide) (by omega) ?_
    refine im_ld (q := 24) (i := 1) D329_23 rfl rfl rfl ?_
    refine im_st1 (q := 26) (i := 4) (L' := [some (.ref 6952), some (vI p1), some (vI p2), some (vI 0), some (vI p1)]) D329_24 (Or.inr rfl) (Nat.le_of_ble_eq_true rfl) rfl ?_
    exact hP.wk ⟨rfl, rfl, rfl, rfl, trivial⟩
  refine im_icmp (q := 17) (t := 21) D329_14 rfl hr2 (by decide) (fun hc3 => ?_) (fun hc3 => ?_)
  · refine im_iconst (q := 22) D329_21 ?_
    exact (kJ6 (0) (Or.inl ⟨hc3, rfl⟩)).wk ⟨rfl, rfl, rfl, rfl, trivial⟩
  · refine im_iconst (q := 18) D329_17 ?_
    refine im_goto (q := 21) (t := 22) D329_18 rfl ?_
    exact (kJ6 (1) (Or.inr ⟨(Decidable.not_not.mp hc3), rfl⟩)).wk ⟨rfl, rfl, rfl, rfl, trivial⟩
set_option maxRecDepth 20000 in
set_option maxHeartbeats 4000000 in
theorem b_mostWhens_26 {g : im_g} {d : Nat} {e : im_E} {M : im_M} {K : im_K} {p2 p3 p4 : Int} (hd : 1 ≤ d) (hP : (im_i32 p4) ∧ (im_i32 p2) ∧ ((((p2 ≤ p4 → K (.inl (some (vI p3))) e M) ∧ (p4 < p2 → (0 ≤ p4 ∧ p4 < 5100) ∧ (im_i32 p3)))) ∧ (∀ x9 : Int, (((p4 < p2) ∧ ((M 6991 p4) ≤ p3) ∧ x9 = p3) ∨ ((p4 < p2) ∧ (p3 < (M 6991 p4)) ∧ x9 = (M 6991 p4))) → (0 ≤ p4 ∧ p4 < 5100) ∧ im_T g (d - 1) 330 0 [some (.ref 6952), some (vI (M 6964 p4)), some (vI (M 6991 p4))] [] e M (im_r0 (fun  e_ M16 => e = e_ ∧ im_T g (d - 1) 330 0 [some (.ref 6952), some (vI (M16 6965 p4)), some (vI (M16 6991 p4))] [] e M16 (im_r0 (fun  e_ M19 => e = e_ ∧ (((M19 6960 p4) = 5 → (((M19 6967 p4) = (-1) → im_T g d 329 26 [some (.ref 6952), none, some (vI p2), some (vI x9), some (vI (p4 + 1))] [] e M19 K) ∧ (¬ (M19 6967 p4) = (-1) → (0 ≤ (M19 6967 p4) ∧ (M19 6967 p4) < 5100) ∧ im_T g d 329 26 [some (.ref 6952), none, some (vI p2), some (vI x9), some (vI (p4 + 1))] [] e (im_u M19 6991 (M19 6967 p4) (M19 6991 p4)) K))) ∧ (¬ (M19 6960 p4) = 5 → im_T g (d - 1) 330 0 [some (.ref 6952), some (vI (M19 6966 p4)), some (vI (M19 6991 p4))] [] e M19 (im_r0 (fun  e_ M29 => e = e_ ∧ (((M29 6967 p4) = (-1) → im_T g d 329 26 [some (.ref 6952), none, some (vI p2), some (vI x9), some (vI (p4 + 1))] [] e M29 K) ∧ (¬ (M29 6967 p4) = (-1) → (0 ≤ (M29 6967 p4) ∧ (M29 6967 p4) < 5100) ∧ im_T g d 329 26 [some (.ref 6952), none, some (vI p2), some (vI x9), some (vI (p4 + 1))] [] e (im_u M29 6991 (M29 6967 p4) (M29 6991 p4)) K))))))))))))) : im_T g d 329 26 [some (.ref 6952), none, some (vI p2), some (vI p3), some (vI p4)] [] e M K := by
  refine im_ld (q := 28) (i := 4) D329_26 rfl rfl rfl ?_
  refine im_ld (q := 29) (i := 2) D329_28 rfl rfl rfl ?_
  obtain ⟨hg1, hP⟩ := hP
  obtain ⟨hg2, hP⟩ := hP
  obtain ⟨hP, hJ10⟩ := hP
  have kJ11 : ∀ x9 : Int, (((p4 < p2) ∧ ((M 6991 p4) ≤ p3) ∧ x9 = p3) ∨ ((p4 < p2) ∧ (p3 < (M 6991 p4)) ∧ x9 = (M 6991 p4))) → im_T g d 329 54 [some (.ref 6952), none, some (vI p2), none, some (vI p4)] [vI x9] e M K := by
    intro x9 hx12
    have hP := hJ10 x9 hx12
    refine im_st1 (q := 55) (i := 3) (L' := [some (.ref 6952), none, some (vI p2), some (vI x9), some (vI p4)]) D329_54 (Or.inl ⟨_, rfl, rfl⟩) (Nat.le_of_ble_eq_true rfl) rfl ?_
    refine im_ld (q := 56) (i := 0) D329_55 rfl rfl rfl ?_
    refine im_ld (q := 57) (i := 0) D329_56 rfl rfl rfl ?_
    refine im_gfR (q := 60) (b := 6964) D329_57 (im_fl cn_329 fl_12_45) sf_6952 rfl rfl tR_12_25 rf_6952_25 ?_
    refine im_ld (q := 62) (i := 4) D329_60 rfl rfl rfl ?_
    obtain ⟨hg13, hP⟩ := hP
    refine im_rng (j := p4) sf_6964 hg13.1 hg13.2 (fun hr14 => ?_)
    refine im_iald (q := 63) D329_62 sf_6964 hg13.1 hg13.2 (by decide) rfl ?_
    refine im_ld (q := 64) (i := 0) D329_63 rfl rfl rfl ?_
    refine im_gfR (q := 67) (b := 6991) D329_64 (im_fl cn_329 fl_12_127) sf_6952 rfl rfl tR_12_61 rf_6952_61 ?_
    refine im_ld (q := 69) (i := 4) D329_67 rfl rfl rfl ?_
    refine im_rng (j := p4) sf_6991 hg13.1 hg13.2 (fun hr15 => ?_)
    refine im_iald (q := 70) D329_69 sf_6991 hg13.1 hg13.2 (by decide) rfl ?_
    refine im_callV (q := 73) (kd := 1) (y := 330) (n := 2) (ci := 12) (a := 6952) (vs := [.ref 6952, vI (M 6964 p4), vI (M 6991 p4)]) (r := []) (L2 := [some (.ref 6952), some (vI (M 6964 p4)), some (vI (M 6991 p4))]) D329_70 (im_cal cn_329 cl_12_782) (Or.inl rfl) rfl sf_6952 rfl rfl rfl rfl hd ⟨rfl, rfl, rfl, trivial⟩ ?_
    refine hP.mono ?_
    rintro _ e37 M16 ⟨rfl, rfl, hP⟩
    refine im_bkN ?_
    refine im_ld (q := 74) (i := 0) D329_73 rfl rfl rfl ?_
    refine im_ld (q := 75) (i := 0) D329_74 rfl rfl rfl ?_
    refine im_gfR (q := 78) (b := 6965) D329_75 (im_fl cn_329 fl_12_48) sf_6952 rfl rfl tR_12_26 rf_6952_26 ?_
    refine im_ld (q := 80) (i := 4) D329_78 rfl rfl rfl ?_
    refine im_rng (j := p4) sf_6965 hg13.1 hg13.2 (fun hr17 => ?_)
    refine im_iald (q := 81) D329_80 sf_6965 hg13.1 hg13.2 (by decide) rfl ?_
    refine im_ld (q := 82) (i := 0) D329_81 rfl rfl rfl ?_
    refine im_gfR (q := 85) (b := 6991) D329_82 (im_fl cn_329 fl_12_127) sf_6952 rfl rfl tR_12_61 rf_6952_61 ?_
    refine im_ld (q := 87) (i := 4) D329_85 rfl rfl rfl ?_
    refine im_rng (j := p4) sf_6991 hg13.1 hg13.2 (fun hr18 => ?_)
    refine im_iald (q := 88) D329_87 sf_6991 hg13.1 hg13.2 (by decide) rfl ?_
    refine im_callV (q := 91) (kd := 1) (y := 330) (n := 2) (ci := 12) (a := 6952) (vs := [.ref 6952, vI (M16 6965 p4), vI (M16 6991 p4)]) (r := []) (L2 := [some (.ref 6952), some (vI (M16 6965 p4)), some (vI (M16 6991 p4))]) D329_88 (im_cal cn_329 cl_12_782) (Or.inl rfl) rfl sf_6952 rfl rfl rfl rfl hd ⟨rfl, rfl, rfl, trivial⟩ ?_
    refine hP.mono ?_
    rintro _ e36 M19 ⟨rfl, rfl, hP⟩
    refine im_bkN ?_
    refine im_ld (q := 92) (i := 0) D329_91 rfl rfl rfl ?_
    refine im_gfR (q := 95) (b := 6960) D329_92 (im_fl cn_329 fl_12_33) sf_6952 rfl rfl tR_12_21 rf_6952_21 ?_
    refine im_ld (q := 97) (i := 4) D329_95 rfl rfl rfl ?_
    refine im_rng (j := p4) sf_6960 hg13.1 hg13.2 (fun hr20 => ?_)
    refine im_iald (q := 98) D329_97 sf_6960 hg13.1 hg13.2 (by decide) rfl ?_
    refine im_iconst (q := 99) D329_98 ?_
    refine im_icmp (q := 102) (t := 120) D329_99 rfl hr20 (by decide) (fun hc21 => ?_) (fun hc21 => ?_)
    · replace hP := hP.1 hc21
      refine im_ld (q := 121) (i := 0) D329_120 rfl rfl rfl ?_
      refine im_gfR (q := 124) (b := 6967) D329_121 (im_fl cn_329 fl_12_54) sf_6952 rfl rfl tR_12_28 rf_6952_28 ?_
      refine im_ld (q := 126) (i := 4) D329_124 rfl rfl rfl ?_
      refine im_rng (j := p4) sf_6967 hg13.1 hg13.2 (fun hr24 => ?_)
      refine im_iald (q := 127) D329_126 sf_6967 hg13.1 hg13.2 (by decide) rfl ?_
      refine im_iconst (q := 128) D329_127 ?_
      refine im_icmp (q := 131) (t := 150) D329_128 rfl hr24 (by decide) (fun hc25 => ?_) (fun hc25 => ?_)
      · replace hP := hP.1 hc25
        refine im_iinc (q := 153) (i := 4) (L' := [some (.ref 6952), none, some (vI p2), some (vI x9), some (vI (p4 + 1))]) D329_150 rfl (Nat.le_of_ble_eq_true rfl) rfl ?_
        refine im_goto (q := 156) (t := 26) D329_153 rfl ?_
        exact hP.wk ⟨rfl, rfl, rfl, rfl, trivial⟩
      · replace hP := hP.2 hc25
        refine im_ld (q := 132) (i := 0) D329_131 rfl rfl rfl ?_
        refine im_gfR (q := 135) (b := 6991) D329_132 (im_fl cn_329 fl_12_127) sf_6952 rfl rfl tR_12_61 rf_6952_61 ?_
        refine im_ld (q := 136) (i := 0) D329_135 rfl rfl rfl ?_
        refine im_gfR (q := 139) (b := 6967) D329_136 (im_fl cn_329 fl_12_54) sf_6952 rfl rfl tR_12_28 rf_6952_28 ?_
        refine im_ld (q := 141) (i := 4) D329_139 rfl rfl rfl ?_
        refine im_iald (q := 142) D329_141 sf_6967 hg13.1 hg13.2 (by decide) rfl ?_
        refine im_ld (q := 143) (i := 0) D329_142 rfl rfl rfl ?_
        refine im_gfR (q := 146) (b := 6991) D329_143 (im_fl cn_329 fl_12_127) sf_6952 rfl rfl tR_12_61 rf_6952_61 ?_
        refine im_ld (q := 148) (i := 4) D329_146 rfl rfl rfl ?_
        refine im_rng (j := p4) sf_6991 hg13.1 hg13.2 (fun hr27 => ?_)
        refine im_iald (q := 149) D329_148 sf_6991 hg13.1 hg13.2 (by decide) rfl ?_
        obtain ⟨hg28, hP⟩ := hP
        refine im_iast (q := 150) D329_149 sf_6991 hg28.1 hg28.2 (by decide) hr27 ?_
        refine im_iinc (q := 153) (i := 4) (L' := [some (.ref 6952), none, some (vI p2), some (vI x9), some (vI (p4 + 1))]) D329_150 rfl (Nat.le_of_ble_eq_true rfl) rfl ?_
        refine im_goto (q := 156) (t := 26) D329_153 rfl ?_
        exact hP.wk ⟨rfl, rfl, rfl, rfl, trivial⟩
    · replace hP := hP.2 hc21
      refine im_ld (q := 103) (i := 0) D329_102 rfl rfl rfl ?_
      refine im_ld (q := 104) (i := 0) D329_103 rfl rfl rfl ?_
      refine im_gfR (q := 107) (b := 6966) D329_104 (im_fl cn_329 fl_12_51) sf_6952 rfl rfl tR_12_27 rf_6952_27 ?_
      refine im_ld (q := 109) (i := 4) D329_107 rfl rfl rfl ?_
      refine im_rng (j := p4) sf_6966 hg13.1 hg13.2 (fun hr22 => ?_)
      refine im_iald (q := 110) D329_109 sf_6966 hg13.1 hg13.2 (by decide) rfl ?_
      refine im_ld (q := 111) (i := 0) D329_110 rfl rfl rfl ?_
      refine im_gfR (q := 114) (b := 6991) D329_111 (im_fl cn_329 fl_12_127) sf_6952 rfl rfl tR_12_61 rf_6952_61 ?_
      refine im_ld (q := 116) (i := 4) D329_114 rfl rfl rfl ?_
      refine im_rng (j := p4) sf_6991 hg13.1 hg13.2 (fun hr23 => ?_)
      refine im_iald (q := 117) D329_116 sf_6991 hg13.1 hg13.2 (by decide) rfl ?_
      refine im_callV (q := 120) (kd := 1) (y := 330) (n := 2) (ci := 12) (a := 6952) (vs := [.ref 6952, vI (M19 6966 p4), vI (M19 6991 p4)]) (r := []) (L2 := [some (.ref 6952), some (vI (M19 6966 p4)), some (vI (M19 6991 p4))]) D329_117 (im_cal cn_329 cl_12_782) (Or.inl rfl) rfl sf_6952 rfl rfl rfl rfl hd ⟨rfl, rfl, rfl, trivial⟩ ?_
      refine hP.mono ?_
      rintro _ e35 M29 ⟨rfl, rfl, hP⟩
      refine im_bkN ?_
      refine im_ld (q := 121) (i := 0) D329_120 rfl rfl rfl ?_
      refine im_gfR (q := 124) (b := 6967) D329_121 (im_fl cn_329 fl_12_54) sf_6952 rfl rfl tR_12_28 rf_6952_28 ?_
      refine im_ld (q := 126) (i := 4) D329_124 rfl rfl rfl ?_
      refine im_rng (j := p4) sf_6967 hg13.1 hg13.2 (fun hr30 => ?_)
      refine im_iald (q := 127) D329_126 sf_6967 hg13.1 hg13.2 (by decide) rfl ?_
      refine im_iconst (q := 128) D329_127 ?_
      refine im_icmp (q := 131) (t := 150) D329_128 rfl hr30 (by decide) (fun hc31 => ?_) (fun hc31 => ?_)
      · replace hP := hP.1 hc31
        refine im_iinc (q := 153) (i := 4) (L' := [some (.ref 6952), none, some (vI p2), some (vI x9), some (vI (p4 + 1))]) D329_150 rfl (Nat.le_of_ble_eq_true rfl) rfl ?_
        refine im_goto (q := 156) (t := 26) D329_153 rfl ?_
        exact hP.wk ⟨rfl, rfl, rfl, rfl, trivial⟩
      · replace hP := hP.2 hc31
        refine im_ld (q := 132) (i := 0) D329_131 rfl rfl rfl ?_
        refine im_gfR (q := 135) (b := 6991) D329_132 (im_fl cn_329 fl_12_127) sf_6952 rfl rfl tR_12_61 rf_6952_61 ?_
        refine im_ld (q := 136) (i := 0) D329_135 rfl rfl rfl ?_
        refine im_gfR (q := 139) (b := 6967) D329_136 (im_fl cn_329 fl_12_54) sf_6952 rfl rfl tR_12_28 rf_6952_28 ?_
        refine im_ld (q := 141) (i := 4) D329_139 rfl rfl rfl ?_
        refine im_iald (q := 142) D329_141 sf_6967 hg13.1 hg13.2 (by decide) rfl ?_
        refine im_ld (q := 143) (i := 0) D329_142 rfl rfl rfl ?_
        refine im_gfR (q := 146) (b := 6991) D329_143 (im_fl cn_329 fl_12_127) sf_6952 rfl rfl tR_12_61 rf_6952_61 ?_
        refine im_ld (q := 148) (i := 4) D329_146 rfl rfl rfl ?_
        refine im_rng (j := p4) sf_6991 hg13.1 hg13.2 (fun hr33 => ?_)
        refine im_iald (q := 149) D329_148 sf_6991 hg13.1 hg13.2 (by decide) rfl ?_
        obtain ⟨hg34, hP⟩ := hP
        refine im_iast (q := 150) D329_149 sf_6991 hg34.1 hg34.2 (by decide) hr33 ?_
        refine im_iinc (q := 153) (i := 4) (L' := [some (.ref 6952), none, some (vI p2), some (vI x9), some (vI (p4 + 1))]) D329_150 rfl (Nat.le_of_ble_eq_true rfl) rfl ?_
        refine im_goto (q := 156) (t := 26) D329_153 rfl ?_
        exact hP.wk ⟨rfl, rfl, rfl, rfl, trivial⟩
  refine im_icmp (q := 32) (t := 156) D329_29 rfl hg1 hg2 (fun hc3 => ?_) (fun hc3 => ?_)
  · replace hP := hP.1 hc3
    refine im_ld (q := 157) (i := 3) D329_156 rfl rfl rfl ?_
    exact im_iret (q := 158) D329_157 rfl hP
  · replace hP := hP.2 (Int.not_le.mp hc3)
    refine im_ld (q := 33) (i := 0) D329_32 rfl rfl rfl ?_
    refine im_gfR (q := 36) (b := 6991) D329_33 (im_fl cn_329 fl_12_127) sf_6952 rfl rfl tR_12_61 rf_6952_61 ?_
    refine im_ld (q := 38) (i := 4) D329_36 rfl rfl rfl ?_
    obtain ⟨hg4, hP⟩ := hP
    refine im_rng (j := p4) sf_6991 hg4.1 hg4.2 (fun hr5 => ?_)
    refine im_iald (q := 39) D329_38 sf_6991 hg4.1 hg4.2 (by decide) rfl ?_
    refine im_ld (q := 40) (i := 3) D329_39 rfl rfl rfl ?_
    have hg6 := hP
    refine im_icmp (q := 43) (t := 53) D329_40 rfl hr5 hg6 (fun hc7 => ?_) (fun hc7 => ?_)
    · refine im_ld (q := 54) (i := 3) D329_53 rfl rfl rfl ?_
      exact (kJ11 (p3) (Or.inl ⟨(Int.not_le.mp hc3), hc7, rfl⟩)).wk ⟨rfl, rfl, rfl, trivial⟩
    · refine im_ld (q := 44) (i := 0) D329_43 rfl rfl rfl ?_
      refine im_gfR (q := 47) (b := 6991) D329_44 (im_fl cn_329 fl_12_127) sf_6952 rfl rfl tR_12_61 rf_6952_61 ?_
      refine im_ld (q := 49) (i := 4) D329_47 rfl rfl rfl ?_
      refine im_iald (q := 50) D329_49 sf_6991 hg4.1 hg4.2 (by decide) rfl ?_
      refine im_goto (q := 53) (t := 54) D329_50 rfl ?_
      exact (kJ11 ((M 6991 p4)) (Or.inr ⟨(Int.not_le.mp hc3), (Int.not_le.mp hc7), rfl⟩)).wk ⟨rfl, rfl, rfl, trivial⟩
set_option maxRecDepth 20000 in
set_option maxHeartbeats 4000000 in
theorem b_standIn_0 {g : im_g} {d : Nat} {e : im_E} {M : im_M} {K : im_K} {p1 p2 : Int} (hP : (im_i32 p1) ∧ ((((p1 = (-1) → K (.inl none) e M) ∧ (¬ p1 = (-1) → (0 ≤ p1 ∧ p1 < 5100)))) ∧ (∀ x6 : Int, (((¬ p1 = (-1)) ∧ (¬ (M 6960 p1) = 5) ∧ x6 = 0) ∨ ((¬ p1 = (-1)) ∧ ((M 6960 p1) = 5) ∧ x6 = 1)) → (0 ≤ p1 ∧ p1 < 5100) ∧ (im_i32 (p2 + x6)) ∧ K (.inl none) e (im_u M 6991 p1 (p2 + x6))))) : im_T g d 330 0 [some (.ref 6952), some (vI p1), some (vI p2)] [] e M K := by
  refine im_ld (q := 1) (i := 1) D330_0 rfl rfl rfl ?_
  refine im_iconst (q := 2) D330_1 ?_
  obtain ⟨hg1, hP⟩ := hP
  obtain ⟨hP, hJ7⟩ := hP
  have kJ8 : ∀ x6 : Int, (((¬ p1 = (-1)) ∧ (¬ (M 6960 p1) = 5) ∧ x6 = 0) ∨ ((¬ p1 = (-1)) ∧ ((M 6960 p1) = 5) ∧ x6 = 1)) → im_T g d 330 26 [none, none, none] [vI x6, vI p2, vI p1, .ref 6991] e M K := by
    intro x6 hx9
    have hP := hJ7 x6 hx9
    refine im_iadd (q := 27) D330_26 ?_
    obtain ⟨hg10, hP⟩ := hP
    obtain ⟨hg11, hP⟩ := hP
    refine im_iast (q := 28) D330_27 sf_6991 hg10.1 hg10.2 (by decide) hg11 ?_
    exact im_vret (q := 29) D330_28 rfl hP
  refine im_icmp (q := 5) (t := 28) D330_2 rfl hg1 (by decide) (fun hc2 => ?_) (fun hc2 => ?_)
  · replace hP := hP.1 hc2
    exact im_vret (q := 29) D330_28 rfl hP
  · replace hP := hP.2 hc2
    refine im_ld (q := 6) (i := 0) D330_5 rfl rfl rfl ?_
    refine im_gfR (q := 9) (b := 6991) D330_6 (im_fl cn_330 fl_12_127) sf_6952 rfl rfl tR_12_61 rf_6952_61 ?_
    refine im_ld (q := 10) (i := 1) D330_9 rfl rfl rfl ?_
    refine im_ld (q := 11) (i := 2) D330_10 rfl rfl rfl ?_
    refine im_ld (q := 12) (i := 0) D330_11 rfl rfl rfl ?_
    refine im_gfR (q := 15) (b := 6960) D330_12 (im_fl cn_330 fl_12_33) sf_6952 rfl rfl tR_12_21 rf_6952_21 ?_
    refine im_ld (q := 16) (i := 1) D330_15 rfl rfl rfl ?_
    have hg3 := hP
    refine im_rng (j := p1) sf_6960 hg3.1 hg3.2 (fun hr4 => ?_)
    refine im_iald (q := 17) D330_16 sf_6960 hg3.1 hg3.2 (by decide) rfl ?_
    refine im_iconst (q := 18) D330_17 ?_
    refine im_icmp (q := 21) (t := 25) D330_18 rfl hr4 (by decide) (fun hc5 => ?_) (fun hc5 => ?_)
    · refine im_iconst (q := 26) D330_25 ?_
      exact (kJ8 (0) (Or.inl ⟨hc2, hc5, rfl⟩)).wk trivial
    · refine im_iconst (q := 22) D330_21 ?_
      refine im_goto (q := 25) (t := 26) D330_22 rfl ?_
      exact (kJ8 (1) (Or.inr ⟨hc2, (Decidable.not_not.mp hc5), rfl⟩)).wk trivial
set_option maxRecDepth 20000 in
set_option maxHeartbeats 4000000 in
theorem b_see_0 {g : im_g} {d : Nat} {e : im_E} {M : im_M} {K : im_K} {p1 p3 : Int} (hP : im_T g d 331 6 [some (.ref 6952), some (vL p1), none, some (vL p3), none, some (vI 0), some (vI 0)] [] e M K) : im_T g d 331 0 [some (.ref 6952), some (vL p1), none, some (vL p3), none, none, none] [] e M K := by
  refine im_iconst (q := 1) D331_0 ?_
  refine im_st1 (q := 3) (i := 5) (L' := [some (.ref 6952), some (vL p1), none, some (vL p3), none, some (vI 0), none]) D331_1 (Or.inr rfl) (Nat.le_of_ble_eq_true rfl) rfl ?_
  refine im_iconst (q := 4) D331_3 ?_
  refine im_st1 (q := 6) (i := 6) (L' := [some (.ref 6952), some (vL p1), none, some (vL p3), none, some (vI 0), some (vI 0)]) D331_4 (Or.inr rfl) (Nat.le_of_ble_eq_true rfl) rfl ?_
  exact hP.wk ⟨rfl, rfl, rfl, rfl, rfl, trivial⟩
set_option maxRecDepth 20000 in
set_option maxHeartbeats 4000000 in
theorem b_see_6 {g : im_g} {d : Nat} {e : im_E} {M : im_M} {K : im_K} {p1 p3 p5 p6 : Int} (hP : (im_i32 p6) ∧ ((((p6 < (M 6952 60) → (im_i32 p5) ∧ ((p5 = 0 → (0 ≤ p6 ∧ p6 < 1100) ∧ (im_i64 p1) ∧ (((M 6989 p6) = p1 → (im_i64 p3) ∧ (((M 6990 p6) = p3 → im_T g d 331 6 [some (.ref 6952), some (vL p1), none, some (vL p3), none, some (vI 1), some (vI (p6 + 1))] [] e M K))))))))) ∧ ((((p6 < (M 6952 60)) ∧ (p5 = 0) ∧ (¬ (M 6989 p6) = p1)) ∨ ((p6 < (M 6952 60)) ∧ (p5 = 0) ∧ ((M 6989 p6) = p1) ∧ (¬ (M 6990 p6) = p3))) → im_T g d 331 6 [some (.ref 6952), some (vL p1), none, some (vL p3), none, some (vI 0), some (vI (p6 + 1))] [] e M K) ∧ (((((M 6952 60) ≤ p6)) ∨ ((p6 < (M 6952 60)) ∧ (¬ p5 = 0))) → (im_i32 p5) ∧ ((¬ p5 = 0 → K (.inl none) e M) ∧ (p5 = 0 → (0 ≤ (M 6952 60) ∧ (M 6952 60) < 1100) ∧ (im_i64 p1) ∧ (im_i64 p3) ∧ (im_i32 ((M 6952 60) + 1)) ∧ K (.inl none) e (im_u (im_u (im_u M 6989 (M 6952 60) p1) 6990 (M 6952 60) p3) 6952 60 ((M 6952 60) + 1))))))) : im_T g d 331 6 [some (.ref 6952), some (vL p1), none, some (vL p3), none, some (vI p5), some (vI p6)] [] e M K := by
  refine im_ld (q := 8) (i := 6) D331_6 rfl rfl rfl ?_
  refine im_ld (q := 9) (i := 0) D331_8 rfl rfl rfl ?_
  refine im_rng (j := 60) sf_6952 (by decide) (by decide) (fun hr1 => ?_)
  refine im_gfI (q := 12) D331_9 (im_fl cn_331 fl_12_779) sf_6952 rfl rfl tI_12_60 rfl ?_
  obtain ⟨hg2, hP⟩ := hP
  obtain ⟨hP, hJ13, hJ16⟩ := hP
  have kJ14 : (((p6 < (M 6952 60)) ∧ (p5 = 0) ∧ (¬ (M 6989 p6) = p1)) ∨ ((p6 < (M 6952 60)) ∧ (p5 = 0) ∧ ((M 6989 p6) = p1) ∧ (¬ (M 6990 p6) = p3))) → im_T g d 331 48 [some (.ref 6952), some (vL p1), none, some (vL p3), none, none, some (vI p6)] [] e M K := by
    intro  hx15
    have hP := hJ13  hx15
    refine im_iconst (q := 49) D331_48 ?_
    refine im_st1 (q := 51) (i := 5) (L' := [some (.ref 6952), some (vL p1), none, some (vL p3), none, some (vI 0), some (vI p6)]) D331_49 (Or.inr rfl) (Nat.le_of_ble_eq_true rfl) rfl ?_
    refine im_iinc (q := 54) (i := 6) (L' := [some (.ref 6952), some (vL p1), none, some (vL p3), none, some (vI 0), some (vI (p6 + 1))]) D331_51 rfl (Nat.le_of_ble_eq_true rfl) rfl ?_
    refine im_goto (q := 57) (t := 6) D331_54 rfl ?_
    exact hP.wk ⟨rfl, rfl, rfl, rfl, rfl, trivial⟩
  have kJ17 : ((((M 6952 60) ≤ p6)) ∨ ((p6 < (M 6952 60)) ∧ (¬ p5 = 0))) → im_T g d 331 57 [some (.ref 6952), some (vL p1), none, some (vL p3), none, some (vI p5), none] [] e M K := by
    intro  hx18
    have hP := hJ16  hx18
    refine im_ld (q := 59) (i := 5) D331_57 rfl rfl rfl ?_
    obtain ⟨hg19, hP⟩ := hP
    refine im_ifc (q := 62) (t := 92) D331_59 rfl hg19 (fun hc20 => ?_) (fun hc20 => ?_)
    · replace hP := hP.1 hc20
      exact im_vret (q := 93) D331_92 rfl hP
    · replace hP := hP.2 (Decidable.not_not.mp hc20)
      refine im_ld (q := 63) (i := 0) D331_62 rfl rfl rfl ?_
      refine im_gfR (q := 66) (b := 6989) D331_63 (im_fl cn_331 fl_12_121) sf_6952 rfl rfl tR_12_58 rf_6952_58 ?_
      refine im_ld (q := 67) (i := 0) D331_66 rfl rfl rfl ?_
      refine im_gfI (q := 70) D331_67 (im_fl cn_331 fl_12_779) sf_6952 rfl rfl tI_12_60 rfl ?_
      refine im_ld (q := 71) (i := 1) D331_70 rfl rfl rfl ?_
      obtain ⟨hg22, hP⟩ := hP
      obtain ⟨hg23, hP⟩ := hP
      refine im_last (q := 72) D331_71 sf_6989 hg22.1 hg22.2 (by decide) hg23 ?_
      refine im_ld (q := 73) (i := 0) D331_72 rfl rfl rfl ?_
      refine im_gfR (q := 76) (b := 6990) D331_73 (im_fl cn_331 fl_12_124) sf_6952 rfl rfl tR_12_59 rf_6952_59 ?_
      refine im_ld (q := 77) (i := 0) D331_76 rfl rfl rfl ?_
      refine im_gfI (q := 80) D331_77 (im_fl cn_331 fl_12_779) sf_6952 rfl rfl tI_12_60 (im_rdn _ _ _ _ (by decide)) ?_
      refine im_ld (q := 81) (i := 3) D331_80 rfl rfl rfl ?_
      obtain ⟨hg25, hP⟩ := hP
      refine im_last (q := 82) D331_81 sf_6990 hg22.1 hg22.2 (by decide) hg25 ?_
      refine im_ld (q := 83) (i := 0) D331_82 rfl rfl rfl ?_
      refine im_dup (q := 84) D331_83 rfl ?_
      refine im_gfI (q := 87) D331_84 (im_fl cn_331 fl_12_779) sf_6952 rfl rfl tI_12_60 ((im_rdn _ _ _ _ (by decide)).trans (im_rdn _ _ _ _ (by decide))) ?_
      refine im_iconst (q := 88) D331_87 ?_
      refine im_iadd (q := 89) D331_88 ?_
      obtain ⟨hg27, hP⟩ := hP
      refine im_pfI (q := 92) D331_89 (im_fl cn_331 fl_12_779) sf_6952 rfl rfl ti_12_60 hg27 ?_
      exact im_vret (q := 93) D331_92 rfl hP
  refine im_icmp (q := 15) (t := 57) D331_12 rfl hg2 hr1 (fun hc3 => ?_) (fun hc3 => ?_)
  · exact (kJ17  (Or.inl hc3)).wk ⟨rfl, rfl, rfl, rfl, trivial⟩
  · replace hP := hP (Int.not_le.mp hc3)
    refine im_ld (q := 17) (i := 5) D331_15 rfl rfl rfl ?_
    obtain ⟨hg4, hP⟩ := hP
    refine im_ifc (q := 20) (t := 57) D331_17 rfl hg4 (fun hc5 => ?_) (fun hc5 => ?_)
    · exact (kJ17  (Or.inr ⟨(Int.not_le.mp hc3), hc5⟩)).wk ⟨rfl, rfl, rfl, rfl, trivial⟩
    · replace hP := hP (Decidable.not_not.mp hc5)
      refine im_ld (q := 21) (i := 0) D331_20 rfl rfl rfl ?_
      refine im_gfR (q := 24) (b := 6989) D331_21 (im_fl cn_331 fl_12_121) sf_6952 rfl rfl tR_12_58 rf_6952_58 ?_
      refine im_ld (q := 26) (i := 6) D331_24 rfl rfl rfl ?_
      obtain ⟨hg6, hP⟩ := hP
      refine im_rng (j := p6) sf_6989 hg6.1 hg6.2 (fun hr7 => ?_)
      refine im_lald (q := 27) D331_26 sf_6989 hg6.1 hg6.2 (by decide) rfl ?_
      refine im_ld (q := 28) (i := 1) D331_27 rfl rfl rfl ?_
      obtain ⟨hg8, hP⟩ := hP
      refine im_lif (q := 29) (q2 := 32) (t := 48) D331_28 D331_29 rfl hr7 hg8 (fun hc9 => ?_) (fun hc9 => ?_)
      · exact (kJ14  (Or.inl ⟨(Int.not_le.mp hc3), (Decidable.not_not.mp hc5), hc9⟩)).wk ⟨rfl, rfl, rfl, rfl, trivial⟩
      · replace hP := hP (Decidable.not_not.mp hc9)
        refine im_ld (q := 33) (i := 0) D331_32 rfl rfl rfl ?_
        refine im_gfR (q := 36) (b := 6990) D331_33 (im_fl cn_331 fl_12_124) sf_6952 rfl rfl tR_12_59 rf_6952_59 ?_
        refine im_ld (q := 38) (i := 6) D331_36 rfl rfl rfl ?_
        refine im_rng (j := p6) sf_6990 hg6.1 hg6.2 (fun hr10 => ?_)
        refine im_lald (q := 39) D331_38 sf_6990 hg6.1 hg6.2 (by decide) rfl ?_
        refine im_ld (q := 40) (i := 3) D331_39 rfl rfl rfl ?_
        obtain ⟨hg11, hP⟩ := hP
        refine im_lif (q := 41) (q2 := 44) (t := 48) D331_40 D331_41 rfl hr10 hg11 (fun hc12 => ?_) (fun hc12 => ?_)
        · exact (kJ14  (Or.inr ⟨(Int.not_le.mp hc3), (Decidable.not_not.mp hc5), (Decidable.not_not.mp hc9), hc12⟩)).wk ⟨rfl, rfl, rfl, rfl, trivial⟩
        · replace hP := hP (Decidable.not_not.mp hc12)
          refine im_iconst (q := 45) D331_44 ?_
          refine im_goto (q := 48) (t := 49) D331_45 rfl ?_
          refine im_st1 (q := 51) (i := 5) (L' := [some (.ref 6952), some (vL p1), none, some (vL p3), none, some (vI 1), some (vI p6)]) D331_49 (Or.inr rfl) (Nat.le_of_ble_eq_true rfl) rfl ?_
          refine im_iinc (q := 54) (i := 6) (L' := [some (.ref 6952), some (vL p1), none, some (vL p3), none, some (vI 1), some (vI (p6 + 1))]) D331_51 rfl (Nat.le_of_ble_eq_true rfl) rfl ?_
          refine im_goto (q := 57) (t := 6) D331_54 rfl ?_
          exact hP.wk ⟨rfl, rfl, rfl, rfl, rfl, trivial⟩
set_option maxRecDepth 20000 in
set_option maxHeartbeats 4000000 in
theorem b_parameter_0 {g : im_g} {d : Nat} {e : im_E} {M : im_M} {K : im_K} {p1 : Int} (hd : 1 ≤ d) (hP : (((M 6952 180) = 0 → im_T g (d - 1) 271 0 [some (.ref 6952), none] [] e M (im_r0 (fun  e_ M3 => e = e_ ∧ im_T g (d - 1) 333 0 [some (vL p1), none, none, none, none, none, none] [] e M3 (im_ri (fun x5 e_ M4 => e = e_ ∧ im_T g (d - 1) 264 0 [some (.ref 6952), some (vI 2), some (vI x5), some (vI 1), some (vI 1)] [] e M4 (im_ri (fun x7 e_ M6 => e = e_ ∧ (im_i32 x7) ∧ ((¬ x7 = 0 → im_T g (d - 1) 334 0 [some (.ref 6952), some (vL p1), none] [] e M6 (im_ri (fun x11 e_ M10 => e = e_ ∧ (im_i32 x11) ∧ ((¬ x11 = 0 → ((¬ x11 = (-100) → ((0 ≤ x11 → im_T g (d - 1) 338 0 [some (.ref 6952), some (vL p1), none, none, none] [] e M10 (im_ri (fun x17 e_ M16 => e = e_ ∧ K (.inl (some (vI x17))) e M16))) ∧ (x11 < 0 → K (.inl (some (vI x11))) e M10))) ∧ (x11 = (-100) → K (.inl (some (vI 0))) e (im_u M10 6952 0 2)))) ∧ (x11 = 0 → im_T g (d - 1) 307 0 [some (.ref 6952), some (vI 7), some (vI 1), some (vL p1), none, some (vL 0), none, some (vL 0), none, some (vI 1), none, none, none, none] [] e M10 (im_ri (fun x20 e_ M19 => e = e_ ∧ (im_i32 x20) ∧ ((¬ x20 = (-100) → ((0 ≤ x20 → im_T g (d - 1) 338 0 [some (.ref 6952), some (vL p1), none, none, none] [] e M19 (im_ri (fun x25 e_ M24 => e = e_ ∧ K (.inl (some (vI x25))) e M24))) ∧ (x20 < 0 → K (.inl (some (vI x20))) e M19))) ∧ (x20 = (-100) → K (.inl (some (vI 0))) e (im_u M19 6952 0 2)))))))))) ∧ (x7 = 0 → K (.inl (some (vI 0))) e M6))))))))) ∧ (¬ (M 6952 180) = 0 → K (.inl (some (vI 0))) e (im_u M 6952 0 2)))) : im_T g d 332 0 [some (.ref 6952), some (vL p1), none, none] [] e M K := by
  refine im_ld (q := 1) (i := 0) D332_0 rfl rfl rfl ?_
  refine im_rng (j := 180) sf_6952 (by decide) (by decide) (fun hr1 => ?_)
  refine im_gfI (q := 4) D332_1 (im_fl cn_332 fl_12_412) sf_6952 rfl rfl tI_12_180 rfl ?_
  refine im_ifc (q := 7) (t := 14) D332_4 rfl (im_z32 hr1) (fun hc2 => ?_) (fun hc2 => ?_)
  · replace hP := hP.1 hc2
    refine im_ld (q := 15) (i := 0) D332_14 rfl rfl rfl ?_
    refine im_callV (q := 18) (kd := 1) (y := 271) (n := 0) (ci := 12) (a := 6952) (vs := [.ref 6952]) (r := []) (L2 := [some (.ref 6952), none]) D332_15 (im_cal cn_332 cl_12_734) (Or.inl rfl) rfl sf_6952 rfl rfl rfl rfl hd ⟨rfl, trivial⟩ ?_
    refine hP.mono ?_
    rintro _ e31 M3 ⟨rfl, rfl, hP⟩
    refine im_bkN ?_
    refine im_ld (q := 19) (i := 0) D332_18 rfl rfl rfl ?_
    refine im_iconst (q := 20) D332_19 ?_
    refine im_ld (q := 21) (i := 1) D332_20 rfl rfl rfl ?_
    refine im_callS (q := 24) (kd := 0) (y := 333) (n := 1) (z := 12) (vs := [vL p1]) (r := [vI 2, .ref 6952]) (L2 := [some (vL p1), none, none, none, none, none, none]) D332_21 rfl (im_cal cn_332 cl_12_800) (Or.inl rfl) rfl rfl rfl rfl rfl hd ⟨rfl, trivial⟩ ?_
    refine hP.mono ?_
    rintro _ e30 M4 ⟨x5, rfl, rfl, hP⟩
    refine im_bkS ?_
    refine im_iconst (q := 25) D332_24 ?_
    refine im_iconst (q := 26) D332_25 ?_
    refine im_callV (q := 29) (kd := 1) (y := 264) (n := 4) (ci := 12) (a := 6952) (vs := [.ref 6952, vI 2, vI x5, vI 1, vI 1]) (r := []) (L2 := [some (.ref 6952), some (vI 2), some (vI x5), some (vI 1), some (vI 1)]) D332_26 (im_cal cn_332 cl_12_419) (Or.inl rfl) rfl sf_6952 rfl rfl rfl rfl hd ⟨rfl, rfl, rfl, rfl, rfl, trivial⟩ ?_
    refine hP.mono ?_
    rintro _ e29 M6 ⟨x7, rfl, rfl, hP⟩
    refine im_bkS ?_
    obtain ⟨hg8, hP⟩ := hP
    refine im_ifc (q := 32) (t := 34) D332_29 rfl hg8 (fun hc9 => ?_) (fun hc9 => ?_)
    · replace hP := hP.1 hc9
      refine im_ld (q := 35) (i := 0) D332_34 rfl rfl rfl ?_
      refine im_ld (q := 36) (i := 1) D332_35 rfl rfl rfl ?_
      refine im_callV (q := 39) (kd := 1) (y := 334) (n := 1) (ci := 12) (a := 6952) (vs := [.ref 6952, vL p1]) (r := []) (L2 := [some (.ref 6952), some (vL p1), none]) D332_36 (im_cal cn_332 cl_12_819) (Or.inl rfl) rfl sf_6952 rfl rfl rfl rfl hd ⟨rfl, rfl, trivial⟩ ?_
      refine hP.mono ?_
      rintro _ e28 M10 ⟨x11, rfl, rfl, hP⟩
      refine im_bkS ?_
      refine im_st1 (q := 40) (i := 3) (L' := [some (.ref 6952), some (vL p1), none, some (vI x11)]) D332_39 (Or.inl ⟨_, rfl, rfl⟩) (Nat.le_of_ble_eq_true rfl) rfl ?_
      refine im_ld (q := 41) (i := 3) D332_40 rfl rfl rfl ?_
      obtain ⟨hg12, hP⟩ := hP
      refine im_ifc (q := 44) (t := 56) D332_41 rfl hg12 (fun hc13 => ?_) (fun hc13 => ?_)
      · replace hP := hP.1 hc13
        refine im_ld (q := 57) (i := 3) D332_56 rfl rfl rfl ?_
        refine im_bipush (q := 59) D332_57 rfl ?_
        refine im_icmp (q := 62) (t := 69) D332_59 rfl hg12 (by decide) (fun hc14 => ?_) (fun hc14 => ?_)
        · replace hP := hP.1 hc14
          refine im_ld (q := 70) (i := 3) D332_69 rfl rfl rfl ?_
          refine im_ifc (q := 73) (t := 77) D332_70 rfl hg12 (fun hc15 => ?_) (fun hc15 => ?_)
          · replace hP := hP.1 hc15
            refine im_ld (q := 78) (i := 0) D332_77 rfl rfl rfl ?_
            refine im_ld (q := 79) (i := 1) D332_78 rfl rfl rfl ?_
            refine im_callV (q := 82) (kd := 1) (y := 338) (n := 1) (ci := 12) (a := 6952) (vs := [.ref 6952, vL p1]) (r := []) (L2 := [some (.ref 6952), some (vL p1), none, none, none]) D332_79 (im_cal cn_332 cl_12_822) (Or.inl rfl) rfl sf_6952 rfl rfl rfl rfl hd ⟨rfl, rfl, trivial⟩ ?_
            refine hP.mono ?_
            rintro _ e18 M16 ⟨x17, rfl, rfl, hP⟩
            refine im_bkS ?_
            exact im_iret (q := 83) D332_82 rfl hP
          · replace hP := hP.2 (Int.not_le.mp hc15)
            refine im_ld (q := 74) (i := 3) D332_73 rfl rfl rfl ?_
            refine im_goto (q := 77) (t := 82) D332_74 rfl ?_
            exact im_iret (q := 83) D332_82 rfl hP
        · replace hP := hP.2 (Decidable.not_not.mp hc14)
          refine im_ld (q := 63) (i := 0) D332_62 rfl rfl rfl ?_
          refine im_iconst (q := 64) D332_63 ?_
          refine im_pfI (q := 67) D332_64 (im_fl cn_332 fl_12_409) sf_6952 rfl rfl ti_12_0 (by decide) ?_
          refine im_iconst (q := 68) D332_67 ?_
          exact im_iret (q := 69) D332_68 rfl hP
      · replace hP := hP.2 (Decidable.not_not.mp hc13)
        refine im_ld (q := 45) (i := 0) D332_44 rfl rfl rfl ?_
        refine im_bipush (q := 47) D332_45 rfl ?_
        refine im_iconst (q := 48) D332_47 ?_
        refine im_ld (q := 49) (i := 1) D332_48 rfl rfl rfl ?_
        refine im_lconst (q := 50) (z := 0) D332_49 rfl ?_
        refine im_lconst (q := 51) (z := 0) D332_50 rfl ?_
        refine im_iconst (q := 52) D332_51 ?_
        refine im_callV (q := 55) (kd := 1) (y := 307) (n := 6) (ci := 12) (a := 6952) (vs := [.ref 6952, vI 7, vI 1, vL p1, vL 0, vL 0, vI 1]) (r := []) (L2 := [some (.ref 6952), some (vI 7), some (vI 1), some (vL p1), none, some (vL 0), none, some (vL 0), none, some (vI 1), none, none, none, none]) D332_52 (im_cal cn_332 cl_12_740) (Or.inl rfl) rfl sf_6952 rfl rfl rfl rfl hd ⟨rfl, rfl, rfl, rfl, rfl, rfl, rfl, trivial⟩ ?_
        refine hP.mono ?_
        rintro _ e27 M19 ⟨x20, rfl, rfl, hP⟩
        refine im_bkS ?_
        refine im_st1 (q := 56) (i := 3) (L' := [some (.ref 6952), some (vL p1), none, some (vI x20)]) D332_55 (Or.inl ⟨_, rfl, rfl⟩) (Nat.le_of_ble_eq_true rfl) rfl ?_
        refine im_ld (q := 57) (i := 3) D332_56 rfl rfl rfl ?_
        refine im_bipush (q := 59) D332_57 rfl ?_
        obtain ⟨hg21, hP⟩ := hP
        refine im_icmp (q := 62) (t := 69) D332_59 rfl hg21 (by decide) (fun hc22 => ?_) (fun hc22 => ?_)
        · replace hP := hP.1 hc22
          refine im_ld (q := 70) (i := 3) D332_69 rfl rfl rfl ?_
          refine im_ifc (q := 73) (t := 77) D332_70 rfl hg21 (fun hc23 => ?_) (fun hc23 => ?_)
          · replace hP := hP.1 hc23
            refine im_ld (q := 78) (i := 0) D332_77 rfl rfl rfl ?_
            refine im_ld (q := 79) (i := 1) D332_78 rfl rfl rfl ?_
            refine im_callV (q := 82) (kd := 1) (y := 338) (n := 1) (ci := 12) (a := 6952) (vs := [.ref 6952, vL p1]) (r := []) (L2 := [some (.ref 6952), some (vL p1), none, none, none]) D332_79 (im_cal cn_332 cl_12_822) (Or.inl rfl) rfl sf_6952 rfl rfl rfl rfl hd ⟨rfl, rfl, trivial⟩ ?_
            refine hP.mono ?_
            rintro _ e26 M24 ⟨x25, rfl, rfl, hP⟩
            refine im_bkS ?_
            exact im_iret (q := 83) D332_82 rfl hP
          · replace hP := hP.2 (Int.not_le.mp hc23)
            refine im_ld (q := 74) (i := 3) D332_73 rfl rfl rfl ?_
            refine im_goto (q := 77) (t := 82) D332_74 rfl ?_
            exact im_iret (q := 83) D332_82 rfl hP
        · replace hP := hP.2 (Decidable.not_not.mp hc22)
          refine im_ld (q := 63) (i := 0) D332_62 rfl rfl rfl ?_
          refine im_iconst (q := 64) D332_63 ?_
          refine im_pfI (q := 67) D332_64 (im_fl cn_332 fl_12_409) sf_6952 rfl rfl ti_12_0 (by decide) ?_
          refine im_iconst (q := 68) D332_67 ?_
          exact im_iret (q := 69) D332_68 rfl hP
    · replace hP := hP.2 (Decidable.not_not.mp hc9)
      refine im_iconst (q := 33) D332_32 ?_
      exact im_iret (q := 34) D332_33 rfl hP
  · replace hP := hP.2 hc2
    refine im_ld (q := 8) (i := 0) D332_7 rfl rfl rfl ?_
    refine im_iconst (q := 9) D332_8 ?_
    refine im_pfI (q := 12) D332_9 (im_fl cn_332 fl_12_409) sf_6952 rfl rfl ti_12_0 (by decide) ?_
    refine im_iconst (q := 13) D332_12 ?_
    exact im_iret (q := 14) D332_13 rfl hP

/-! blocks of the reference -/
theorem D326_0 {g : im_g} : im_D g 326 0 (.iload_n 0) 1 := im_D.of (by decide +kernel)
theorem D326_1 {g : im_g} : im_D g 326 1 (.iconst 1) 2 := im_D.of (by decide +kernel)
theorem D326_2 {g : im_g} : im_D g 326 2 (.if_icmp .ne 9) 5 := im_D.of (by decide +kernel)
theorem D326_5 {g : im_g} : im_D g 326 5 (.ldc2_w 505) 8 := im_D.of (by decide +kernel)
theorem D326_8 {g : im_g} : im_D g 326 8 (.goto 66) 11 := im_D.of (by decide +kernel)
theorem D326_11 {g : im_g} : im_D g 326 11 (.iload_n 0) 12 := im_D.of (by decide +kernel)
theorem D326_12 {g : im_g} : im_D g 326 12 (.iconst 2) 13 := im_D.of (by decide +kernel)
theorem D326_13 {g : im_g} : im_D g 326 13 (.if_icmp .eq 8) 16 := im_D.of (by decide +kernel)
theorem D326_16 {g : im_g} : im_D g 326 16 (.iload_n 0) 17 := im_D.of (by decide +kernel)
theorem D326_17 {g : im_g} : im_D g 326 17 (.iconst 3) 18 := im_D.of (by decide +kernel)
theorem D326_18 {g : im_g} : im_D g 326 18 (.if_icmp .ne 9) 21 := im_D.of (by decide +kernel)
theorem D326_21 {g : im_g} : im_D g 326 21 (.ldc2_w 507) 24 := im_D.of (by decide +kernel)
theorem D326_24 {g : im_g} : im_D g 326 24 (.goto 50) 27 := im_D.of (by decide +kernel)
theorem D326_27 {g : im_g} : im_D g 326 27 (.iload_n 0) 28 := im_D.of (by decide +kernel)
theorem D326_28 {g : im_g} : im_D g 326 28 (.iconst 4) 29 := im_D.of (by decide +kernel)
theorem D326_29 {g : im_g} : im_D g 326 29 (.if_icmp .ne 9) 32 := im_D.of (by decide +kernel)
theorem D326_32 {g : im_g} : im_D g 326 32 (.ldc2_w 513) 35 := im_D.of (by decide +kernel)
theorem D326_35 {g : im_g} : im_D g 326 35 (.goto 39) 38 := im_D.of (by decide +kernel)
theorem D326_38 {g : im_g} : im_D g 326 38 (.iload_n 0) 39 := im_D.of (by decide +kernel)
theorem D326_39 {g : im_g} : im_D g 326 39 (.iconst 5) 40 := im_D.of (by decide +kernel)
theorem D326_40 {g : im_g} : im_D g 326 40 (.if_icmp .ne 9) 43 := im_D.of (by decide +kernel)
theorem D326_43 {g : im_g} : im_D g 326 43 (.ldc2_w 515) 46 := im_D.of (by decide +kernel)
theorem D326_46 {g : im_g} : im_D g 326 46 (.goto 28) 49 := im_D.of (by decide +kernel)
theorem D326_49 {g : im_g} : im_D g 326 49 (.iload_n 0) 50 := im_D.of (by decide +kernel)
theorem D326_50 {g : im_g} : im_D g 326 50 (.bipush 6) 52 := im_D.of (by decide +kernel)
theorem D326_52 {g : im_g} : im_D g 326 52 (.if_icmp .ne 9) 55 := im_D.of (by decide +kernel)
theorem D326_55 {g : im_g} : im_D g 326 55 (.ldc2_w 525) 58 := im_D.of (by decide +kernel)
theorem D326_58 {g : im_g} : im_D g 326 58 (.goto 16) 61 := im_D.of (by decide +kernel)
theorem D326_61 {g : im_g} : im_D g 326 61 (.iload_n 0) 62 := im_D.of (by decide +kernel)
theorem D326_62 {g : im_g} : im_D g 326 62 (.bipush 7) 64 := im_D.of (by decide +kernel)
theorem D326_64 {g : im_g} : im_D g 326 64 (.if_icmp .ne 9) 67 := im_D.of (by decide +kernel)
theorem D326_67 {g : im_g} : im_D g 326 67 (.ldc2_w 527) 70 := im_D.of (by decide +kernel)
theorem D326_70 {g : im_g} : im_D g 326 70 (.goto 4) 73 := im_D.of (by decide +kernel)
theorem D326_73 {g : im_g} : im_D g 326 73 (.lconst 0) 74 := im_D.of (by decide +kernel)
theorem D326_74 {g : im_g} : im_D g 326 74 (.lstore_n 1) 75 := im_D.of (by decide +kernel)
theorem D326_75 {g : im_g} : im_D g 326 75 (.iload_n 0) 76 := im_D.of (by decide +kernel)
theorem D326_76 {g : im_g} : im_D g 326 76 (.bipush 22) 78 := im_D.of (by decide +kernel)
theorem D326_78 {g : im_g} : im_D g 326 78 (.if_icmp .ne 9) 81 := im_D.of (by decide +kernel)
theorem D326_81 {g : im_g} : im_D g 326 81 (.ldc2_w 529) 84 := im_D.of (by decide +kernel)
theorem D326_84 {g : im_g} : im_D g 326 84 (.goto 64) 87 := im_D.of (by decide +kernel)
theorem D326_87 {g : im_g} : im_D g 326 87 (.iload_n 0) 88 := im_D.of (by decide +kernel)
theorem D326_88 {g : im_g} : im_D g 326 88 (.bipush 23) 90 := im_D.of (by decide +kernel)
theorem D326_90 {g : im_g} : im_D g 326 90 (.if_icmp .ne 9) 93 := im_D.of (by decide +kernel)
theorem D326_93 {g : im_g} : im_D g 326 93 (.ldc2_w 531) 96 := im_D.of (by decide +kernel)
theorem D326_96 {g : im_g} : im_D g 326 96 (.goto 52) 99 := im_D.of (by decide +kernel)
theorem D326_99 {g : im_g} : im_D g 326 99 (.iload_n 0) 100 := im_D.of (by decide +kernel)
theorem D326_100 {g : im_g} : im_D g 326 100 (.bipush 24) 102 := im_D.of (by decide +kernel)
theorem D326_102 {g : im_g} : im_D g 326 102 (.if_icmp .ne 9) 105 := im_D.of (by decide +kernel)
theorem D326_105 {g : im_g} : im_D g 326 105 (.ldc2_w 533) 108 := im_D.of (by decide +kernel)
theorem D326_108 {g : im_g} : im_D g 326 108 (.goto 40) 111 := im_D.of (by decide +kernel)
theorem D326_111 {g : im_g} : im_D g 326 111 (.iload_n 0) 112 := im_D.of (by decide +kernel)
theorem D326_112 {g : im_g} : im_D g 326 112 (.bipush 25) 114 := im_D.of (by decide +kernel)
theorem D326_114 {g : im_g} : im_D g 326 114 (.if_icmp .ne 9) 117 := im_D.of (by decide +kernel)
theorem D326_117 {g : im_g} : im_D g 326 117 (.ldc2_w 535) 120 := im_D.of (by decide +kernel)
theorem D326_120 {g : im_g} : im_D g 326 120 (.goto 28) 123 := im_D.of (by decide +kernel)
theorem D326_123 {g : im_g} : im_D g 326 123 (.iload_n 0) 124 := im_D.of (by decide +kernel)
theorem D326_124 {g : im_g} : im_D g 326 124 (.bipush 26) 126 := im_D.of (by decide +kernel)
theorem D326_126 {g : im_g} : im_D g 326 126 (.if_icmp .ne 9) 129 := im_D.of (by decide +kernel)
theorem D326_129 {g : im_g} : im_D g 326 129 (.ldc2_w 537) 132 := im_D.of (by decide +kernel)
theorem D326_132 {g : im_g} : im_D g 326 132 (.goto 16) 135 := im_D.of (by decide +kernel)
theorem D326_135 {g : im_g} : im_D g 326 135 (.iload_n 0) 136 := im_D.of (by decide +kernel)
theorem D326_136 {g : im_g} : im_D g 326 136 (.bipush 27) 138 := im_D.of (by decide +kernel)
theorem D326_138 {g : im_g} : im_D g 326 138 (.if_icmp .ne 9) 141 := im_D.of (by decide +kernel)
theorem D326_141 {g : im_g} : im_D g 326 141 (.ldc2_w 539) 144 := im_D.of (by decide +kernel)
theorem D326_144 {g : im_g} : im_D g 326 144 (.goto 4) 147 := im_D.of (by decide +kernel)
theorem D326_147 {g : im_g} : im_D g 326 147 (.lconst 0) 148 := im_D.of (by decide +kernel)
theorem D326_148 {g : im_g} : im_D g 326 148 (.lstore_n 3) 149 := im_D.of (by decide +kernel)
theorem D326_149 {g : im_g} : im_D g 326 149 (.iload_n 0) 150 := im_D.of (by decide +kernel)
theorem D326_150 {g : im_g} : im_D g 326 150 (.bipush 28) 152 := im_D.of (by decide +kernel)
theorem D326_152 {g : im_g} : im_D g 326 152 (.if_icmp .ne 9) 155 := im_D.of (by decide +kernel)
theorem D326_155 {g : im_g} : im_D g 326 155 (.ldc2_w 541) 158 := im_D.of (by decide +kernel)
theorem D326_158 {g : im_g} : im_D g 326 158 (.goto 52) 161 := im_D.of (by decide +kernel)
theorem D326_161 {g : im_g} : im_D g 326 161 (.iload_n 0) 162 := im_D.of (by decide +kernel)
theorem D326_162 {g : im_g} : im_D g 326 162 (.bipush 29) 164 := im_D.of (by decide +kernel)
theorem D326_164 {g : im_g} : im_D g 326 164 (.if_icmp .ne 9) 167 := im_D.of (by decide +kernel)
theorem D326_167 {g : im_g} : im_D g 326 167 (.ldc2_w 543) 170 := im_D.of (by decide +kernel)
theorem D326_170 {g : im_g} : im_D g 326 170 (.goto 40) 173 := im_D.of (by decide +kernel)
theorem D326_173 {g : im_g} : im_D g 326 173 (.iload_n 0) 174 := im_D.of (by decide +kernel)
theorem D326_174 {g : im_g} : im_D g 326 174 (.bipush 30) 176 := im_D.of (by decide +kernel)
theorem D326_176 {g : im_g} : im_D g 326 176 (.if_icmp .ne 9) 179 := im_D.of (by decide +kernel)
theorem D326_179 {g : im_g} : im_D g 326 179 (.ldc2_w 545) 182 := im_D.of (by decide +kernel)
theorem D326_182 {g : im_g} : im_D g 326 182 (.goto 28) 185 := im_D.of (by decide +kernel)
theorem D326_185 {g : im_g} : im_D g 326 185 (.iload_n 0) 186 := im_D.of (by decide +kernel)
theorem D326_186 {g : im_g} : im_D g 326 186 (.bipush 31) 188 := im_D.of (by decide +kernel)
theorem D326_188 {g : im_g} : im_D g 326 188 (.if_icmp .ne 9) 191 := im_D.of (by decide +kernel)
theorem D326_191 {g : im_g} : im_D g 326 191 (.ldc2_w 547) 194 := im_D.of (by decide +kernel)
theorem D326_194 {g : im_g} : im_D g 326 194 (.goto 16) 197 := im_D.of (by decide +kernel)
theorem D326_197 {g : im_g} : im_D g 326 197 (.iload_n 0) 198 := im_D.of (by decide +kernel)
theorem D326_198 {g : im_g} : im_D g 326 198 (.bipush 32) 200 := im_D.of (by decide +kernel)
theorem D326_200 {g : im_g} : im_D g 326 200 (.if_icmp .ne 9) 203 := im_D.of (by decide +kernel)
theorem D326_203 {g : im_g} : im_D g 326 203 (.ldc2_w 549) 206 := im_D.of (by decide +kernel)
theorem D326_206 {g : im_g} : im_D g 326 206 (.goto 4) 209 := im_D.of (by decide +kernel)
theorem D326_209 {g : im_g} : im_D g 326 209 (.lconst 0) 210 := im_D.of (by decide +kernel)
theorem D326_210 {g : im_g} : im_D g 326 210 (.lstore 5) 212 := im_D.of (by decide +kernel)
theorem D326_212 {g : im_g} : im_D g 326 212 (.iload_n 0) 213 := im_D.of (by decide +kernel)
theorem D326_213 {g : im_g} : im_D g 326 213 (.bipush 40) 215 := im_D.of (by decide +kernel)
theorem D326_215 {g : im_g} : im_D g 326 215 (.if_icmp .ne 9) 218 := im_D.of (by decide +kernel)
theorem D326_218 {g : im_g} : im_D g 326 218 (.ldc2_w 551) 221 := im_D.of (by decide +kernel)
theorem D326_221 {g : im_g} : im_D g 326 221 (.goto 64) 224 := im_D.of (by decide +kernel)
theorem D326_224 {g : im_g} : im_D g 326 224 (.iload_n 0) 225 := im_D.of (by decide +kernel)
theorem D326_225 {g : im_g} : im_D g 326 225 (.bipush 41) 227 := im_D.of (by decide +kernel)
theorem D326_227 {g : im_g} : im_D g 326 227 (.if_icmp .ne 9) 230 := im_D.of (by decide +kernel)
theorem D326_230 {g : im_g} : im_D g 326 230 (.ldc2_w 553) 233 := im_D.of (by decide +kernel)
theorem D326_233 {g : im_g} : im_D g 326 233 (.goto 52) 236 := im_D.of (by decide +kernel)
theorem D326_236 {g : im_g} : im_D g 326 236 (.iload_n 0) 237 := im_D.of (by decide +kernel)
theorem D326_237 {g : im_g} : im_D g 326 237 (.bipush 42) 239 := im_D.of (by decide +kernel)
theorem D326_239 {g : im_g} : im_D g 326 239 (.if_icmp .ne 9) 242 := im_D.of (by decide +kernel)
theorem D326_242 {g : im_g} : im_D g 326 242 (.ldc2_w 555) 245 := im_D.of (by decide +kernel)
theorem D326_245 {g : im_g} : im_D g 326 245 (.goto 40) 248 := im_D.of (by decide +kernel)
theorem D326_248 {g : im_g} : im_D g 326 248 (.iload_n 0) 249 := im_D.of (by decide +kernel)
theorem D326_249 {g : im_g} : im_D g 326 249 (.bipush 43) 251 := im_D.of (by decide +kernel)
theorem D326_251 {g : im_g} : im_D g 326 251 (.if_icmp .ne 9) 254 := im_D.of (by decide +kernel)
theorem D326_254 {g : im_g} : im_D g 326 254 (.ldc2_w 557) 257 := im_D.of (by decide +kernel)
theorem D326_257 {g : im_g} : im_D g 326 257 (.goto 28) 260 := im_D.of (by decide +kernel)
theorem D326_260 {g : im_g} : im_D g 326 260 (.iload_n 0) 261 := im_D.of (by decide +kernel)
theorem D326_261 {g : im_g} : im_D g 326 261 (.bipush 49) 263 := im_D.of (by decide +kernel)
theorem D326_263 {g : im_g} : im_D g 326 263 (.if_icmp .ne 9) 266 := im_D.of (by decide +kernel)
theorem D326_266 {g : im_g} : im_D g 326 266 (.ldc2_w 569) 269 := im_D.of (by decide +kernel)
theorem D326_269 {g : im_g} : im_D g 326 269 (.goto 16) 272 := im_D.of (by decide +kernel)
theorem D326_272 {g : im_g} : im_D g 326 272 (.iload_n 0) 273 := im_D.of (by decide +kernel)
theorem D326_273 {g : im_g} : im_D g 326 273 (.bipush 50) 275 := im_D.of (by decide +kernel)
theorem D326_275 {g : im_g} : im_D g 326 275 (.if_icmp .ne 9) 278 := im_D.of (by decide +kernel)
theorem D326_278 {g : im_g} : im_D g 326 278 (.ldc2_w 571) 281 := im_D.of (by decide +kernel)
theorem D326_281 {g : im_g} : im_D g 326 281 (.goto 4) 284 := im_D.of (by decide +kernel)
theorem D326_284 {g : im_g} : im_D g 326 284 (.lconst 0) 285 := im_D.of (by decide +kernel)
theorem D326_285 {g : im_g} : im_D g 326 285 (.lstore 7) 287 := im_D.of (by decide +kernel)
theorem D326_287 {g : im_g} : im_D g 326 287 (.iload_n 0) 288 := im_D.of (by decide +kernel)
theorem D326_288 {g : im_g} : im_D g 326 288 (.bipush 44) 290 := im_D.of (by decide +kernel)
theorem D326_290 {g : im_g} : im_D g 326 290 (.if_icmp .ne 9) 293 := im_D.of (by decide +kernel)
theorem D326_293 {g : im_g} : im_D g 326 293 (.ldc2_w 559) 296 := im_D.of (by decide +kernel)
theorem D326_296 {g : im_g} : im_D g 326 296 (.goto 52) 299 := im_D.of (by decide +kernel)
theorem D326_299 {g : im_g} : im_D g 326 299 (.iload_n 0) 300 := im_D.of (by decide +kernel)
theorem D326_300 {g : im_g} : im_D g 326 300 (.bipush 45) 302 := im_D.of (by decide +kernel)
theorem D326_302 {g : im_g} : im_D g 326 302 (.if_icmp .ne 9) 305 := im_D.of (by decide +kernel)
theorem D326_305 {g : im_g} : im_D g 326 305 (.ldc2_w 561) 308 := im_D.of (by decide +kernel)
theorem D326_308 {g : im_g} : im_D g 326 308 (.goto 40) 311 := im_D.of (by decide +kernel)
theorem D326_311 {g : im_g} : im_D g 326 311 (.iload_n 0) 312 := im_D.of (by decide +kernel)
theorem D326_312 {g : im_g} : im_D g 326 312 (.bipush 46) 314 := im_D.of (by decide +kernel)
theorem D326_314 {g : im_g} : im_D g 326 314 (.if_icmp .ne 9) 317 := im_D.of (by decide +kernel)
theorem D326_317 {g : im_g} : im_D g 326 317 (.ldc2_w 563) 320 := im_D.of (by decide +kernel)
theorem D326_320 {g : im_g} : im_D g 326 320 (.goto 28) 323 := im_D.of (by decide +kernel)
theorem D326_323 {g : im_g} : im_D g 326 323 (.iload_n 0) 324 := im_D.of (by decide +kernel)
theorem D326_324 {g : im_g} : im_D g 326 324 (.bipush 47) 326 := im_D.of (by decide +kernel)
theorem D326_326 {g : im_g} : im_D g 326 326 (.if_icmp .ne 9) 329 := im_D.of (by decide +kernel)
theorem D326_329 {g : im_g} : im_D g 326 329 (.ldc2_w 565) 332 := im_D.of (by decide +kernel)
theorem D326_332 {g : im_g} : im_D g 326 332 (.goto 16) 335 := im_D.of (by decide +kernel)
theorem D326_335 {g : im_g} : im_D g 326 335 (.iload_n 0) 336 := im_D.of (by decide +kernel)
theorem D326_336 {g : im_g} : im_D g 326 336 (.bipush 48) 338 := im_D.of (by decide +kernel)
theorem D326_338 {g : im_g} : im_D g 326 338 (.if_icmp .ne 9) 341 := im_D.of (by decide +kernel)
theorem D326_341 {g : im_g} : im_D g 326 341 (.ldc2_w 567) 344 := im_D.of (by decide +kernel)
theorem D326_344 {g : im_g} : im_D g 326 344 (.goto 4) 347 := im_D.of (by decide +kernel)
theorem D326_347 {g : im_g} : im_D g 326 347 (.lconst 0) 348 := im_D.of (by decide +kernel)
theorem D326_348 {g : im_g} : im_D g 326 348 (.lstore 9) 350 := im_D.of (by decide +kernel)
theorem D326_350 {g : im_g} : im_D g 326 350 (.lload_n 1) 351 := im_D.of (by decide +kernel)
theorem D326_351 {g : im_g} : im_D g 326 351 (.lload_n 3) 352 := im_D.of (by decide +kernel)
theorem D326_352 {g : im_g} : im_D g 326 352 (.ladd) 353 := im_D.of (by decide +kernel)
theorem D326_353 {g : im_g} : im_D g 326 353 (.lload 5) 355 := im_D.of (by decide +kernel)
theorem D326_355 {g : im_g} : im_D g 326 355 (.ladd) 356 := im_D.of (by decide +kernel)
theorem D326_356 {g : im_g} : im_D g 326 356 (.lload 7) 358 := im_D.of (by decide +kernel)
theorem D326_358 {g : im_g} : im_D g 326 358 (.ladd) 359 := im_D.of (by decide +kernel)
theorem D326_359 {g : im_g} : im_D g 326 359 (.lload 9) 361 := im_D.of (by decide +kernel)
theorem D326_361 {g : im_g} : im_D g 326 361 (.ladd) 362 := im_D.of (by decide +kernel)
theorem D326_362 {g : im_g} : im_D g 326 362 (.lreturn) 363 := im_D.of (by decide +kernel)
theorem D327_0 {g : im_g} : im_D g 327 0 (.lconst 1) 1 := im_D.of (by decide +kernel)
theorem D327_1 {g : im_g} : im_D g 327 1 (.lstore_n 3) 2 := im_D.of (by decide +kernel)
theorem D327_2 {g : im_g} : im_D g 327 2 (.lload_n 1) 3 := im_D.of (by decide +kernel)
theorem D327_3 {g : im_g} : im_D g 327 3 (.lload_n 3) 4 := im_D.of (by decide +kernel)
theorem D327_4 {g : im_g} : im_D g 327 4 (.ldiv) 5 := im_D.of (by decide +kernel)
theorem D327_5 {g : im_g} : im_D g 327 5 (.ldc2_w 445) 8 := im_D.of (by decide +kernel)
theorem D327_8 {g : im_g} : im_D g 327 8 (.lcmp) 9 := im_D.of (by decide +kernel)
theorem D327_9 {g : im_g} : im_D g 327 9 (.ifCond .le 12) 12 := im_D.of (by decide +kernel)
theorem D327_12 {g : im_g} : im_D g 327 12 (.lload_n 3) 13 := im_D.of (by decide +kernel)
theorem D327_13 {g : im_g} : im_D g 327 13 (.ldc2_w 447) 16 := im_D.of (by decide +kernel)
theorem D327_16 {g : im_g} : im_D g 327 16 (.lmul) 17 := im_D.of (by decide +kernel)
theorem D327_17 {g : im_g} : im_D g 327 17 (.lstore_n 3) 18 := im_D.of (by decide +kernel)
theorem D327_18 {g : im_g} : im_D g 327 18 (.goto (-16)) 21 := im_D.of (by decide +kernel)
theorem D327_21 {g : im_g} : im_D g 327 21 (.lload_n 3) 22 := im_D.of (by decide +kernel)
theorem D327_22 {g : im_g} : im_D g 327 22 (.lstore 5) 24 := im_D.of (by decide +kernel)
theorem D327_24 {g : im_g} : im_D g 327 24 (.lload 5) 26 := im_D.of (by decide +kernel)
theorem D327_26 {g : im_g} : im_D g 327 26 (.lconst 0) 27 := im_D.of (by decide +kernel)
theorem D327_27 {g : im_g} : im_D g 327 27 (.lcmp) 28 := im_D.of (by decide +kernel)
theorem D327_28 {g : im_g} : im_D g 327 28 (.ifCond .le 30) 31 := im_D.of (by decide +kernel)
theorem D327_31 {g : im_g} : im_D g 327 31 (.aload_n 0) 32 := im_D.of (by decide +kernel)
theorem D327_32 {g : im_g} : im_D g 327 32 (.bipush 48) 34 := im_D.of (by decide +kernel)
theorem D327_34 {g : im_g} : im_D g 327 34 (.lload_n 1) 35 := im_D.of (by decide +kernel)
theorem D327_35 {g : im_g} : im_D g 327 35 (.lload 5) 37 := im_D.of (by decide +kernel)
theorem D327_37 {g : im_g} : im_D g 327 37 (.ldiv) 38 := im_D.of (by decide +kernel)
theorem D327_38 {g : im_g} : im_D g 327 38 (.ldc2_w 447) 41 := im_D.of (by decide +kernel)
theorem D327_41 {g : im_g} : im_D g 327 41 (.lrem) 42 := im_D.of (by decide +kernel)
theorem D327_42 {g : im_g} : im_D g 327 42 (.l2i) 43 := im_D.of (by decide +kernel)
theorem D327_43 {g : im_g} : im_D g 327 43 (.iadd) 44 := im_D.of (by decide +kernel)
theorem D327_44 {g : im_g} : im_D g 327 44 (.invokevirtual 432) 47 := im_D.of (by decide +kernel)
theorem D327_47 {g : im_g} : im_D g 327 47 (.lload 5) 49 := im_D.of (by decide +kernel)
theorem D327_49 {g : im_g} : im_D g 327 49 (.ldc2_w 447) 52 := im_D.of (by decide +kernel)
theorem D327_52 {g : im_g} : im_D g 327 52 (.ldiv) 53 := im_D.of (by decide +kernel)
theorem D327_53 {g : im_g} : im_D g 327 53 (.lstore 5) 55 := im_D.of (by decide +kernel)
theorem D327_55 {g : im_g} : im_D g 327 55 (.goto (-31)) 58 := im_D.of (by decide +kernel)
theorem D327_58 {g : im_g} : im_D g 327 58 (.return_) 59 := im_D.of (by decide +kernel)
set_option maxRecDepth 20000 in
set_option maxHeartbeats 4000000 in
theorem b_wordOf_0 {g : im_g} {d : Nat} {e : im_E} {M : im_M} {K : im_K} {p0 : Int} (hP : (im_i32 p0) ∧ (((((¬ p0 = 1) ∧ (p0 = 2)) ∨ ((¬ p0 = 1) ∧ (¬ p0 = 2) ∧ (p0 = 3))) → ((∀ x19 : Int, (((¬ p0 = 22) ∧ (¬ p0 = 23) ∧ (¬ p0 = 24) ∧ (¬ p0 = 25) ∧ (¬ p0 = 26) ∧ (¬ p0 = 27) ∧ x19 = 0) ∨ ((¬ p0 = 22) ∧ (¬ p0 = 23) ∧ (¬ p0 = 24) ∧ (¬ p0 = 25) ∧ (¬ p0 = 26) ∧ (p0 = 27) ∧ x19 = 6580598) ∨ ((¬ p0 = 22) ∧ (¬ p0 = 23) ∧ (¬ p0 = 24) ∧ (¬ p0 = 25) ∧ (p0 = 26) ∧ x19 = 7173484) ∨ ((¬ p0 = 22) ∧ (¬ p0 = 23) ∧ (¬ p0 = 24) ∧ (p0 = 25) ∧ x19 = 7566690) ∨ ((¬ p0 = 22) ∧ (¬ p0 = 23) ∧ (p0 = 24) ∧ x19 = 6382692) ∨ ((¬ p0 = 22) ∧ (p0 = 23) ∧ x19 = 7234919) ∨ ((p0 = 22) ∧ x19 = 1751477348)) → ((∀ x28 : Int, (((¬ p0 = 28) ∧ (¬ p0 = 29) ∧ (¬ p0 = 30) ∧ (¬ p0 = 31) ∧ (¬ p0 = 32) ∧ x28 = 0) ∨ ((¬ p0 = 28) ∧ (¬ p0 = 29) ∧ (¬ p0 = 30) ∧ (¬ p0 = 31) ∧ (p0 = 32) ∧ x28 = 1668247140) ∨ ((¬ p0 = 28) ∧ (¬ p0 = 29) ∧ (¬ p0 = 30) ∧ (p0 = 31) ∧ x28 = 7697253) ∨ ((¬ p0 = 28) ∧ (¬ p0 = 29) ∧ (p0 = 30) ∧ x28 = 6647396) ∨ ((¬ p0 = 28) ∧ (p0 = 29) ∧ x28 = 495873782388) ∨ ((p0 = 28) ∧ x28 = 109300197582190)) → ((∀ x38 : Int, (((¬ p0 = 40) ∧ (¬ p0 = 41) ∧ (¬ p0 = 42) ∧ (¬ p0 = 43) ∧ (¬ p0 = 49) ∧ (¬ p0 = 50) ∧ x38 = 0) ∨ ((¬ p0 = 40) ∧ (¬ p0 = 41) ∧ (¬ p0 = 42) ∧ (¬ p0 = 43) ∧ (¬ p0 = 49) ∧ (p0 = 50) ∧ x38 = 439721161573) ∨ ((¬ p0 = 40) ∧ (¬ p0 = 41) ∧ (¬ p0 = 42) ∧ (¬ p0 = 43) ∧ (p0 = 49) ∧ x38 = 1953658213) ∨ ((¬ p0 = 40) ∧ (¬ p0 = 41) ∧ (¬ p0 = 42) ∧ (p0 = 43) ∧ x38 = 426953896805) ∨ ((¬ p0 = 40) ∧ (¬ p0 = 41) ∧ (p0 = 42) ∧ x38 = 7237492) ∨ ((¬ p0 = 40) ∧ (p0 = 41) ∧ x38 = 28530) ∨ ((p0 = 40) ∧ x38 = 6385252)) → ((∀ x47 : Int, (((¬ p0 = 44) ∧ (¬ p0 = 45) ∧ (¬ p0 = 46) ∧ (¬ p0 = 47) ∧ (¬ p0 = 48) ∧ x47 = 0) ∨ ((¬ p0 = 44) ∧ (¬ p0 = 45) ∧ (¬ p0 = 46) ∧ (¬ p0 = 47) ∧ (p0 = 48) ∧ x47 = 25969) ∨ ((¬ p0 = 44) ∧ (¬ p0 = 45) ∧ (¬ p0 = 46) ∧ (p0 = 47) ∧ x47 = 27764) ∨ ((¬ p0 = 44) ∧ (¬ p0 = 45) ∧ (p0 = 46) ∧ x47 = 27749) ∨ ((¬ p0 = 44) ∧ (p0 = 45) ∧ x47 = 26484) ∨ ((p0 = 44) ∧ x47 = 26469)) → K (.inl (some (vL ((((7364985 + x19) + x28) + x38) + x47)))) e M))))))))) ∧ (∀ x9 : Int, (((¬ p0 = 1) ∧ (¬ p0 = 2) ∧ (¬ p0 = 3) ∧ (¬ p0 = 4) ∧ (¬ p0 = 5) ∧ (¬ p0 = 6) ∧ (¬ p0 = 7) ∧ x9 = 0) ∨ ((¬ p0 = 1) ∧ (¬ p0 = 2) ∧ (¬ p0 = 3) ∧ (¬ p0 = 4) ∧ (¬ p0 = 5) ∧ (¬ p0 = 6) ∧ (p0 = 7) ∧ x9 = 107148485161588) ∨ ((¬ p0 = 1) ∧ (¬ p0 = 2) ∧ (¬ p0 = 3) ∧ (¬ p0 = 4) ∧ (¬ p0 = 5) ∧ (p0 = 6) ∧ x9 = 7103860) ∨ ((¬ p0 = 1) ∧ (¬ p0 = 2) ∧ (¬ p0 = 3) ∧ (¬ p0 = 4) ∧ (p0 = 5) ∧ x9 = 2003330414) ∨ ((¬ p0 = 1) ∧ (¬ p0 = 2) ∧ (¬ p0 = 3) ∧ (p0 = 4) ∧ x9 = 26982) ∨ ((p0 = 1) ∧ x9 = 427021005669)) → ((∀ x60 : Int, (((¬ p0 = 22) ∧ (¬ p0 = 23) ∧ (¬ p0 = 24) ∧ (¬ p0 = 25) ∧ (¬ p0 = 26) ∧ (¬ p0 = 27) ∧ x60 = 0) ∨ ((¬ p0 = 22) ∧ (¬ p0 = 23) ∧ (¬ p0 = 24) ∧ (¬ p0 = 25) ∧ (¬ p0 = 26) ∧ (p0 = 27) ∧ x60 = 6580598) ∨ ((¬ p0 = 22) ∧ (¬ p0 = 23) ∧ (¬ p0 = 24) ∧ (¬ p0 = 25) ∧ (p0 = 26) ∧ x60 = 7173484) ∨ ((¬ p0 = 22) ∧ (¬ p0 = 23) ∧ (¬ p0 = 24) ∧ (p0 = 25) ∧ x60 = 7566690) ∨ ((¬ p0 = 22) ∧ (¬ p0 = 23) ∧ (p0 = 24) ∧ x60 = 6382692) ∨ ((¬ p0 = 22) ∧ (p0 = 23) ∧ x60 = 7234919) ∨ ((p0 = 22) ∧ x60 = 1751477348)) → ((∀ x69 : Int, (((¬ p0 = 28) ∧ (¬ p0 = 29) ∧ (¬ p0 = 30) ∧ (¬ p0 = 31) ∧ (¬ p0 = 32) ∧ x69 = 0) ∨ ((¬ p0 = 28) ∧ (¬ p0 = 29) ∧ (¬ p0 = 30) ∧ (¬ p0 = 31) ∧ (p0 = 32) ∧ x69 = 1668247140) ∨ ((¬ p0 = 28) ∧ (¬ p0 = 29) ∧ (¬ p0 = 30) ∧ (p0 = 31) ∧ x69 = 7697253) ∨ ((¬ p0 = 28) ∧ (¬ p0 = 29) ∧ (p0 = 30) ∧ x69 = 6647396) ∨ ((¬ p0 = 28) ∧ (p0 = 29) ∧ x69 = 495873782388) ∨ ((p0 = 28) ∧ x69 = 109300197582190)) → ((∀ x79 : Int, (((¬ p0 = 40) ∧ (¬ p0 = 41) ∧ (¬ p0 = 42) ∧ (¬ p0 = 43) ∧ (¬ p0 = 49) ∧ (¬ p0 = 50) ∧ x79 = 0) ∨ ((¬ p0 = 40) ∧ (¬ p0 = 41) ∧ (¬ p0 = 42) ∧ (¬ p0 = 43) ∧ (¬ p0 = 49) ∧ (p0 = 50) ∧ x79 = 439721161573) ∨ ((¬ p0 = 40) ∧ (¬ p0 = 41) ∧ (¬ p0 = 42) ∧ (¬ p0 = 43) ∧ (p0 = 49) ∧ x79 = 1953658213) ∨ ((¬ p0 = 40) ∧ (¬ p0 = 41) ∧ (¬ p0 = 42) ∧ (p0 = 43) ∧ x79 = 426953896805) ∨ ((¬ p0 = 40) ∧ (¬ p0 = 41) ∧ (p0 = 42) ∧ x79 = 7237492) ∨ ((¬ p0 = 40) ∧ (p0 = 41) ∧ x79 = 28530) ∨ ((p0 = 40) ∧ x79 = 6385252)) → ((∀ x88 : Int, (((¬ p0 = 44) ∧ (¬ p0 = 45) ∧ (¬ p0 = 46) ∧ (¬ p0 = 47) ∧ (¬ p0 = 48) ∧ x88 = 0) ∨ ((¬ p0 = 44) ∧ (¬ p0 = 45) ∧ (¬ p0 = 46) ∧ (¬ p0 = 47) ∧ (p0 = 48) ∧ x88 = 25969) ∨ ((¬ p0 = 44) ∧ (¬ p0 = 45) ∧ (¬ p0 = 46) ∧ (p0 = 47) ∧ x88 = 27764) ∨ ((¬ p0 = 44) ∧ (¬ p0 = 45) ∧ (p0 = 46) ∧ x88 = 27749) ∨ ((¬ p0 = 44) ∧ (p0 = 45) ∧ x88 = 26484) ∨ ((p0 = 44) ∧ x88 = 26469)) → K (.inl (some (vL ((((x9 + x60) + x69) + x79) + x88)))) e M))))))))))) : im_T g d 326 0 [some (vI p0), none, none, none, none, none, none, none, none, none, none] [] e M K := by
  refine im_ld (q := 1) (i := 0) D326_0 rfl rfl rfl ?_
  refine im_iconst (q := 2) D326_1 ?_
  obtain ⟨hg1, hP⟩ := hP
  obtain ⟨hJ10, hJ51⟩ := hP
  have kJ11 : (((¬ p0 = 1) ∧ (p0 = 2)) ∨ ((¬ p0 = 1) ∧ (¬ p0 = 2) ∧ (p0 = 3))) → im_T g d 326 21 [some (vI p0), none, none, none, none, none, none, none, none, none, none] [] e M K := by
    intro  hx12
    have hP := hJ10  hx12
    refine im_ldc2 (q := 24) (n := 7364985) D326_21 rfl ?_
    refine im_goto (q := 27) (t := 74) D326_24 rfl ?_
    refine im_st2 (q := 75) (i := 1) (L' := [some (vI p0), some (vL 7364985), none, none, none, none, none, none, none, none, none]) D326_74 (Or.inl ⟨_, rfl, rfl⟩) (Nat.le_of_ble_eq_true rfl) rfl ?_
    refine im_ld (q := 76) (i := 0) D326_75 rfl rfl rfl ?_
    refine im_bipush (q := 78) D326_76 rfl ?_
    have hJ20 := hP
    have kJ21 : ∀ x19 : Int, (((¬ p0 = 22) ∧ (¬ p0 = 23) ∧ (¬ p0 = 24) ∧ (¬ p0 = 25) ∧ (¬ p0 = 26) ∧ (¬ p0 = 27) ∧ x19 = 0) ∨ ((¬ p0 = 22) ∧ (¬ p0 = 23) ∧ (¬ p0 = 24) ∧ (¬ p0 = 25) ∧ (¬ p0 = 26) ∧ (p0 = 27) ∧ x19 = 6580598) ∨ ((¬ p0 = 22) ∧ (¬ p0 = 23) ∧ (¬ p0 = 24) ∧ (¬ p0 = 25) ∧ (p0 = 26) ∧ x19 = 7173484) ∨ ((¬ p0 = 22) ∧ (¬ p0 = 23) ∧ (¬ p0 = 24) ∧ (p0 = 25) ∧ x19 = 7566690) ∨ ((¬ p0 = 22) ∧ (¬ p0 = 23) ∧ (p0 = 24) ∧ x19 = 6382692) ∨ ((¬ p0 = 22) ∧ (p0 = 23) ∧ x19 = 7234919) ∨ ((p0 = 22) ∧ x19 = 1751477348)) → im_T g d 326 148 [some (vI p0), some (vL 7364985), none, none, none, none, none, none, none, none, none] [vL x19] e M K := by
      intro x19 hx22
      have hP := hJ20 x19 hx22
      refine im_st2 (q := 149) (i := 3) (L' := [some (vI p0), some (vL 7364985), none, some (vL x19), none, none, none, none, none, none, none]) D326_148 (Or.inl ⟨_, rfl, rfl⟩) (Nat.le_of_ble_eq_true rfl) rfl ?_
      refine im_ld (q := 150) (i := 0) D326_149 rfl rfl rfl ?_
      refine im_bipush (q := 152) D326_150 rfl ?_
      have hJ29 := hP
      have kJ30 : ∀ x28 : Int, (((¬ p0 = 28) ∧ (¬ p0 = 29) ∧ (¬ p0 = 30) ∧ (¬ p0 = 31) ∧ (¬ p0 = 32) ∧ x28 = 0) ∨ ((¬ p0 = 28) ∧ (¬ p0 = 29) ∧ (¬ p0 = 30) ∧ (¬ p0 = 31) ∧ (p0 = 32) ∧ x28 = 1668247140) ∨ ((¬ p0 = 28) ∧ (¬ p0 = 29) ∧ (¬ p0 = 30) ∧ (p0 = 31) ∧ x28 = 7697253) ∨ ((¬ p0 = 28) ∧ (¬ p0 = 29) ∧ (p0 = 30) ∧ x28 = 6647396) ∨ ((¬ p0 = 28) ∧ (p0 = 29) ∧ x28 = 495873782388) ∨ ((p0 = 28) ∧ x28 = 109300197582190)) → im_T g d 326 210 [some (vI p0), some (vL 7364985), none, some (vL x19), none, none, none, none, none, none, none] [vL x28] e M K := by
        intro x28 hx31
        have hP := hJ29 x28 hx31
        refine im_st2 (q := 212) (i := 5) (L' := [some (vI p0), some (vL 7364985), none, some (vL x19), none, some (vL x28), none, none, none, none, none]) D326_210 (Or.inr rfl) (Nat.le_of_ble_eq_true rfl) rfl ?_
        refine im_ld (q := 213) (i := 0) D326_212 rfl rfl rfl ?_
        refine im_bipush (q := 215) D326_213 rfl ?_
        have hJ39 := hP
        have kJ40 : ∀ x38 : Int, (((¬ p0 = 40) ∧ (¬ p0 = 41) ∧ (¬ p0 = 42) ∧ (¬ p0 = 43) ∧ (¬ p0 = 49) ∧ (¬ p0 = 50) ∧ x38 = 0) ∨ ((¬ p0 = 40) ∧ (¬ p0 = 41) ∧ (¬ p0 = 42) ∧ (¬ p0 = 43) ∧ (¬ p0 = 49) ∧ (p0 = 50) ∧ x38 = 439721161573) ∨ ((¬ p0 = 40) ∧ (¬ p0 = 41) ∧ (¬ p0 = 42) ∧ (¬ p0 = 43) ∧ (p0 = 49) ∧ x38 = 1953658213) ∨ ((¬ p0 = 40) ∧ (¬ p0 = 41) ∧ (¬ p0 = 42) ∧ (p0 = 43) ∧ x38 = 426953896805) ∨ ((¬ p0 = 40) ∧ (¬ p0 = 41) ∧ (p0 = 42) ∧ x38 = 7237492) ∨ ((¬ p0 = 40) ∧ (p0 = 41) ∧ x38 = 28530) ∨ ((p0 = 40) ∧ x38 = 6385252)) → im_T g d 326 285 [some (vI p0), some (vL 7364985), none, some (vL x19), none, some (vL x28), none, none, none, none, none] [vL x38] e M K := by
          intro x38 hx41
          have hP := hJ39 x38 hx41
          refine im_st2 (q := 287) (i := 7) (L' := [some (vI p0), some (vL 7364985), none, some (vL x19), none, some (vL x28), none, some (vL x38), none, none, none]) D326_285 (Or.inr rfl) (Nat.le_of_ble_eq_true rfl) rfl ?_
          refine im_ld (q := 288) (i := 0) D326_287 rfl rfl rfl ?_
          refine im_bipush (q := 290) D326_288 rfl ?_
          have hJ48 := hP
          have kJ49 : ∀ x47 : Int, (((¬ p0 = 44) ∧ (¬ p0 = 45) ∧ (¬ p0 = 46) ∧ (¬ p0 = 47) ∧ (¬ p0 = 48) ∧ x47 = 0) ∨ ((¬ p0 = 44) ∧ (¬ p0 = 45) ∧ (¬ p0 = 46) ∧ (¬ p0 = 47) ∧ (p0 = 48) ∧ x47 = 25969) ∨ ((¬ p0 = 44) ∧ (¬ p0 = 45) ∧ (¬ p0 = 46) ∧ (p0 = 47) ∧ x47 = 27764) ∨ ((¬ p0 = 44) ∧ (¬ p0 = 45) ∧ (p0 = 46) ∧ x47 = 27749) ∨ ((¬ p0 = 44) ∧ (p0 = 45) ∧ x47 = 26484) ∨ ((p0 = 44) ∧ x47 = 26469)) → im_T g d 326 348 [none, some (vL 7364985), none, some (vL x19), none, some (vL x28), none, some (vL x38), none, none, none] [vL x47] e M K := by
            intro x47 hx50
            have hP := hJ48 x47 hx50
            refine im_st2 (q := 350) (i := 9) (L' := [none, some (vL 7364985), none, some (vL x19), none, some (vL x28), none, some (vL x38), none, some (vL x47), none]) D326_348 (Or.inr rfl) (Nat.le_of_ble_eq_true rfl) rfl ?_
            refine im_ld (q := 351) (i := 1) D326_350 rfl rfl rfl ?_
            refine im_ld (q := 352) (i := 3) D326_351 rfl rfl rfl ?_
            refine im_ladd (q := 353) D326_352 ?_
            refine im_ld (q := 355) (i := 5) D326_353 rfl rfl rfl ?_
            refine im_ladd (q := 356) D326_355 ?_
            refine im_ld (q := 358) (i := 7) D326_356 rfl rfl rfl ?_
            refine im_ladd (q := 359) D326_358 ?_
            refine im_ld (q := 361) (i := 9) D326_359 rfl rfl rfl ?_
            refine im_ladd (q := 362) D326_361 ?_
            exact im_lret (q := 363) D326_362 rfl hP
          refine im_icmp (q := 293) (t := 299) D326_290 rfl hg1 (by decide) (fun hc42 => ?_) (fun hc42 => ?_)
          · refine im_ld (q := 300) (i := 0) D326_299 rfl rfl rfl ?_
            refine im_bipush (q := 302) D326_300 rfl ?_
            refine im_icmp (q := 305) (t := 311) D326_302 rfl hg1 (by decide) (fun hc43 => ?_) (fun hc43 => ?_)
            · refine im_ld (q := 312) (i := 0) D326_311 rfl rfl rfl ?_
              refine im_bipush (q := 314) D326_312 rfl ?_
              refine im_icmp (q := 317) (t := 323) D326_314 rfl hg1 (by decide) (fun hc44 => ?_) (fun hc44 => ?_)
              · refine im_ld (q := 324) (i := 0) D326_323 rfl rfl rfl ?_
                refine im_bipush (q := 326) D326_324 rfl ?_
                refine im_icmp (q := 329) (t := 335) D326_326 rfl hg1 (by decide) (fun hc45 => ?_) (fun hc45 => ?_)
                · refine im_ld (q := 336) (i := 0) D326_335 rfl rfl rfl ?_
                  refine im_bipush (q := 338) D326_336 rfl ?_
                  refine im_icmp (q := 341) (t := 347) D326_338 rfl hg1 (by decide) (fun hc46 => ?_) (fun hc46 => ?_)
                  · refine im_lconst (q := 348) (z := 0) D326_347 rfl ?_
                    exact (kJ49 (0) (Or.inl ⟨hc42, hc43, hc44, hc45, hc46, rfl⟩)).wk ⟨rfl, rfl, rfl, rfl, trivial⟩
                  · refine im_ldc2 (q := 344) (n := 25969) D326_341 rfl ?_
                    refine im_goto (q := 347) (t := 348) D326_344 rfl ?_
                    exact (kJ49 (25969) (Or.inr (Or.inl ⟨hc42, hc43, hc44, hc45, (Decidable.not_not.mp hc46), rfl⟩))).wk ⟨rfl, rfl, rfl, rfl, trivial⟩
                · refine im_ldc2 (q := 332) (n := 27764) D326_329 rfl ?_
                  refine im_goto (q := 335) (t := 348) D326_332 rfl ?_
                  exact (kJ49 (27764) (Or.inr (Or.inr (Or.inl ⟨hc42, hc43, hc44, (Decidable.not_not.mp hc45), rfl⟩)))).wk ⟨rfl, rfl, rfl, rfl, trivial⟩
              · refine im_ldc2 (q := 320) (n := 27749) D326_317 rfl ?_
                refine im_goto (q := 323) (t := 348) D326_320 rfl ?_
                exact (kJ49 (27749) (Or.inr (Or.inr (Or.inr (Or.inl ⟨hc42, hc43, (Decidable.not_not.mp hc44), rfl⟩))))).wk ⟨rfl, rfl, rfl, rfl, trivial⟩
            · refine im_ldc2 (q := 308) (n := 26484) D326_305 rfl ?_
              refine im_goto (q := 311) (t := 348) D326_308 rfl ?_
              exact (kJ49 (26484) (Or.inr (Or.inr (Or.inr (Or.inr (Or.inl ⟨hc42, (Decidable.not_not.mp hc43), rfl⟩)))))).wk ⟨rfl, rfl, rfl, rfl, trivial⟩
          · refine im_ldc2 (q := 296) (n := 26469) D326_293 rfl ?_
            refine im_goto (q := 299) (t := 348) D326_296 rfl ?_
            exact (kJ49 (26469) (Or.inr (Or.inr (Or.inr (Or.inr (Or.inr ⟨(Decidable.not_not.mp hc42), rfl⟩)))))).wk ⟨rfl, rfl, rfl, rfl, trivial⟩
        refine im_icmp (q := 218) (t := 224) D326_215 rfl hg1 (by decide) (fun hc32 => ?_) (fun hc32 => ?_)
        · refine im_ld (q := 225) (i := 0) D326_224 rfl rfl rfl ?_
          refine im_bipush (q := 227) D326_225 rfl ?_
          refine im_icmp (q := 230) (t := 236) D326_227 rfl hg1 (by decide) (fun hc33 => ?_) (fun hc33 => ?_)
          · refine im_ld (q := 237) (i := 0) D326_236 rfl rfl rfl ?_
            refine im_bipush (q := 239) D326_237 rfl ?_
            refine im_icmp (q := 242) (t := 248) D326_239 rfl hg1 (by decide) (fun hc34 => ?_) (fun hc34 => ?_)
            · refine im_ld (q := 249) (i := 0) D326_248 rfl rfl rfl ?_
              refine im_bipush (q := 251) D326_249 rfl ?_
              refine im_icmp (q := 254) (t := 260) D326_251 rfl hg1 (by decide) (fun hc35 => ?_) (fun hc35 => ?_)
              · refine im_ld (q := 261) (i := 0) D326_260 rfl rfl rfl ?_
                refine im_bipush (q := 263) D326_261 rfl ?_
                refine im_icmp (q := 266) (t := 272) D326_263 rfl hg1 (by decide) (fun hc36 => ?_) (fun hc36 => ?_)
                · refine im_ld (q := 273) (i := 0) D326_272 rfl rfl rfl ?_
                  refine im_bipush (q := 275) D326_273 rfl ?_
                  refine im_icmp (q := 278) (t := 284) D326_275 rfl hg1 (by decide) (fun hc37 => ?_) (fun hc37 => ?_)
                  · refine im_lconst (q := 285) (z := 0) D326_284 rfl ?_
                    exact (kJ40 (0) (Or.inl ⟨hc32, hc33, hc34, hc35, hc36, hc37, rfl⟩)).wk ⟨rfl, rfl, rfl, rfl, trivial⟩
                  · refine im_ldc2 (q := 281) (n := 439721161573) D326_278 rfl ?_
                    refine im_goto (q := 284) (t := 285) D326_281 rfl ?_
                    exact (kJ40 (439721161573) (Or.inr (Or.inl ⟨hc32, hc33, hc34, hc35, hc36, (Decidable.not_not.mp hc37), rfl⟩))).wk ⟨rfl, rfl, rfl, rfl, trivial⟩
                · refine im_ldc2 (q := 269) (n := 1953658213) D326_266 rfl ?_
                  refine im_goto (q := 272) (t := 285) D326_269 rfl ?_
                  exact (kJ40 (1953658213) (Or.inr (Or.inr (Or.inl ⟨hc32, hc33, hc34, hc35, (Decidable.not_not.mp hc36), rfl⟩)))).wk ⟨rfl, rfl, rfl, rfl, trivial⟩
              · refine im_ldc2 (q := 257) (n := 426953896805) D326_254 rfl ?_
                refine im_goto (q := 260) (t := 285) D326_257 rfl ?_
                exact (kJ40 (426953896805) (Or.inr (Or.inr (Or.inr (Or.inl ⟨hc32, hc33, hc34, (Decidable.not_not.mp hc35), rfl⟩))))).wk ⟨rfl, rfl, rfl, rfl, trivial⟩
            · refine im_ldc2 (q := 245) (n := 7237492) D326_242 rfl ?_
              refine im_goto (q := 248) (t := 285) D326_245 rfl ?_
              exact (kJ40 (7237492) (Or.inr (Or.inr (Or.inr (Or.inr (Or.inl ⟨hc32, hc33, (Decidable.not_not.mp hc34), rfl⟩)))))).wk ⟨rfl, rfl, rfl, rfl, trivial⟩
          · refine im_ldc2 (q := 233) (n := 28530) D326_230 rfl ?_
            refine im_goto (q := 236) (t := 285) D326_233 rfl ?_
            exact (kJ40 (28530) (Or.inr (Or.inr (Or.inr (Or.inr (Or.inr (Or.inl ⟨hc32, (Decidable.not_not.mp hc33), rfl⟩))))))).wk ⟨rfl, rfl, rfl, rfl, trivial⟩
        · refine im_ldc2 (q := 221) (n := 6385252) D326_218 rfl ?_
          refine im_goto (q := 224) (t := 285) D326_221 rfl ?_
          exact (kJ40 (6385252) (Or.inr (Or.inr (Or.inr (Or.inr (Or.inr (Or.inr ⟨(Decidable.not_not.mp hc32), rfl⟩))))))).wk ⟨rfl, rfl, rfl, rfl, trivial⟩
      refine im_icmp (q := 155) (t := 161) D326_152 rfl hg1 (by decide) (fun hc23 => ?_) (fun hc23 => ?_)
      · refine im_ld (q := 162) (i := 0) D326_161 rfl rfl rfl ?_
        refine im_bipush (q := 164) D326_162 rfl ?_
        refine im_icmp (q := 167) (t := 173) D326_164 rfl hg1 (by decide) (fun hc24 => ?_) (fun hc24 => ?_)
        · refine im_ld (q := 174) (i := 0) D326_173 rfl rfl rfl ?_
          refine im_bipush (q := 176) D326_174 rfl ?_
          refine im_icmp (q := 179) (t := 185) D326_176 rfl hg1 (by decide) (fun hc25 => ?_) (fun hc25 => ?_)
          · refine im_ld (q := 186) (i := 0) D326_185 rfl rfl rfl ?_
            refine im_bipush (q := 188) D326_186 rfl ?_
            refine im_icmp (q := 191) (t := 197) D326_188 rfl hg1 (by decide) (fun hc26 => ?_) (fun hc26 => ?_)
            · refine im_ld (q := 198) (i := 0) D326_197 rfl rfl rfl ?_
              refine im_bipush (q := 200) D326_198 rfl ?_
              refine im_icmp (q := 203) (t := 209) D326_200 rfl hg1 (by decide) (fun hc27 => ?_) (fun hc27 => ?_)
              · refine im_lconst (q := 210) (z := 0) D326_209 rfl ?_
                exact (kJ30 (0) (Or.inl ⟨hc23, hc24, hc25, hc26, hc27, rfl⟩)).wk ⟨rfl, rfl, rfl, trivial⟩
              · refine im_ldc2 (q := 206) (n := 1668247140) D326_203 rfl ?_
                refine im_goto (q := 209) (t := 210) D326_206 rfl ?_
                exact (kJ30 (1668247140) (Or.inr (Or.inl ⟨hc23, hc24, hc25, hc26, (Decidable.not_not.mp hc27), rfl⟩))).wk ⟨rfl, rfl, rfl, trivial⟩
            · refine im_ldc2 (q := 194) (n := 7697253) D326_191 rfl ?_
              refine im_goto (q := 197) (t := 210) D326_194 rfl ?_
              exact (kJ30 (7697253) (Or.inr (Or.inr (Or.inl ⟨hc23, hc24, hc25, (Decidable.not_not.mp hc26), rfl⟩)))).wk ⟨rfl, rfl, rfl, trivial⟩
          · refine im_ldc2 (q := 182) (n := 6647396) D326_179 rfl ?_
            refine im_goto (q := 185) (t := 210) D326_182 rfl ?_
            exact (kJ30 (6647396) (Or.inr (Or.inr (Or.inr (Or.inl ⟨hc23, hc24, (Decidable.not_not.mp hc25), rfl⟩))))).wk ⟨rfl, rfl, rfl, trivial⟩
        · refine im_ldc2 (q := 170) (n := 495873782388) D326_167 rfl ?_
          refine im_goto (q := 173) (t := 210) D326_170 rfl ?_
          exact (kJ30 (495873782388) (Or.inr (Or.inr (Or.inr (Or.inr (Or.inl ⟨hc23, (Decidable.not_not.mp hc24), rfl⟩)))))).wk ⟨rfl, rfl, rfl, trivial⟩
      · refine im_ldc2 (q := 158) (n := 109300197582190) D326_155 rfl ?_
        refine im_goto (q := 161) (t := 210) D326_158 rfl ?_
        exact (kJ30 (109300197582190) (Or.inr (Or.inr (Or.inr (Or.inr (Or.inr ⟨(Decidable.not_not.mp hc23), rfl⟩)))))).wk ⟨rfl, rfl, rfl, trivial⟩
    refine im_icmp (q := 81) (t := 87) D326_78 rfl hg1 (by decide) (fun hc13 => ?_) (fun hc13 => ?_)
    · refine im_ld (q := 88) (i := 0) D326_87 rfl rfl rfl ?_
      refine im_bipush (q := 90) D326_88 rfl ?_
      refine im_icmp (q := 93) (t := 99) D326_90 rfl hg1 (by decide) (fun hc14 => ?_) (fun hc14 => ?_)
      · refine im_ld (q := 100) (i := 0) D326_99 rfl rfl rfl ?_
        refine im_bipush (q := 102) D326_100 rfl ?_
        refine im_icmp (q := 105) (t := 111) D326_102 rfl hg1 (by decide) (fun hc15 => ?_) (fun hc15 => ?_)
        · refine im_ld (q := 112) (i := 0) D326_111 rfl rfl rfl ?_
          refine im_bipush (q := 114) D326_112 rfl ?_
          refine im_icmp (q := 117) (t := 123) D326_114 rfl hg1 (by decide) (fun hc16 => ?_) (fun hc16 => ?_)
          · refine im_ld (q := 124) (i := 0) D326_123 rfl rfl rfl ?_
            refine im_bipush (q := 126) D326_124 rfl ?_
            refine im_icmp (q := 129) (t := 135) D326_126 rfl hg1 (by decide) (fun hc17 => ?_) (fun hc17 => ?_)
            · refine im_ld (q := 136) (i := 0) D326_135 rfl rfl rfl ?_
              refine im_bipush (q := 138) D326_136 rfl ?_
              refine im_icmp (q := 141) (t := 147) D326_138 rfl hg1 (by decide) (fun hc18 => ?_) (fun hc18 => ?_)
              · refine im_lconst (q := 148) (z := 0) D326_147 rfl ?_
                exact (kJ21 (0) (Or.inl ⟨hc13, hc14, hc15, hc16, hc17, hc18, rfl⟩)).wk ⟨rfl, rfl, trivial⟩
              · refine im_ldc2 (q := 144) (n := 6580598) D326_141 rfl ?_
                refine im_goto (q := 147) (t := 148) D326_144 rfl ?_
                exact (kJ21 (6580598) (Or.inr (Or.inl ⟨hc13, hc14, hc15, hc16, hc17, (Decidable.not_not.mp hc18), rfl⟩))).wk ⟨rfl, rfl, trivial⟩
            · refine im_ldc2 (q := 132) (n := 7173484) D326_129 rfl ?_
              refine im_goto (q := 135) (t := 148) D326_132 rfl ?_
              exact (kJ21 (7173484) (Or.inr (Or.inr (Or.inl ⟨hc13, hc14, hc15, hc16, (Decidable.not_not.mp hc17), rfl⟩)))).wk ⟨rfl, rfl, trivial⟩
          · refine im_ldc2 (q := 120) (n := 7566690) D326_117 rfl ?_
            refine im_goto (q := 123) (t := 148) D326_120 rfl ?_
            exact (kJ21 (7566690) (Or.inr (Or.inr (Or.inr (Or.inl ⟨hc13, hc14, hc15, (Decidable.not_not.mp hc16), rfl⟩))))).wk ⟨rfl, rfl, trivial⟩
        · refine im_ldc2 (q := 108) (n := 6382692) D326_105 rfl ?_
          refine im_goto (q := 111) (t := 148) D326_108 rfl ?_
          exact (kJ21 (6382692) (Or.inr (Or.inr (Or.inr (Or.inr (Or.inl ⟨hc13, hc14, (Decidable.not_not.mp hc15), rfl⟩)))))).wk ⟨rfl, rfl, trivial⟩
      · refine im_ldc2 (q := 96) (n := 7234919) D326_93 rfl ?_
        refine im_goto (q := 99) (t := 148) D326_96 rfl ?_
        exact (kJ21 (7234919) (Or.inr (Or.inr (Or.inr (Or.inr (Or.inr (Or.inl ⟨hc13, (Decidable.not_not.mp hc14), rfl⟩))))))).wk ⟨rfl, rfl, trivial⟩
    · refine im_ldc2 (q := 84) (n := 1751477348) D326_81 rfl ?_
      refine im_goto (q := 87) (t := 148) D326_84 rfl ?_
      exact (kJ21 (1751477348) (Or.inr (Or.inr (Or.inr (Or.inr (Or.inr (Or.inr ⟨(Decidable.not_not.mp hc13), rfl⟩))))))).wk ⟨rfl, rfl, trivial⟩
  have kJ52 : ∀ x9 : Int, (((¬ p0 = 1) ∧ (¬ p0 = 2) ∧ (¬ p0 = 3) ∧ (¬ p0 = 4) ∧ (¬ p0 = 5) ∧ (¬ p0 = 6) ∧ (¬ p0 = 7) ∧ x9 = 0) ∨ ((¬ p0 = 1) ∧ (¬ p0 = 2) ∧ (¬ p0 = 3) ∧ (¬ p0 = 4) ∧ (¬ p0 = 5) ∧ (¬ p0 = 6) ∧ (p0 = 7) ∧ x9 = 107148485161588) ∨ ((¬ p0 = 1) ∧ (¬ p0 = 2) ∧ (¬ p0 = 3) ∧ (¬ p0 = 4) ∧ (¬ p0 = 5) ∧ (p0 = 6) ∧ x9 = 7103860) ∨ ((¬ p0 = 1) ∧ (¬ p0 = 2) ∧ (¬ p0 = 3) ∧ (¬ p0 = 4) ∧ (p0 = 5) ∧ x9 = 2003330414) ∨ ((¬ p0 = 1) ∧ (¬ p0 = 2) ∧ (¬ p0 = 3) ∧ (p0 = 4) ∧ x9 = 26982) ∨ ((p0 = 1) ∧ x9 = 427021005669)) → im_T g d 326 74 [some (vI p0), none, none, none, none, none, none, none, none, none, none] [vL x9] e M K := by
    intro x9 hx53
    have hP := hJ51 x9 hx53
    refine im_st2 (q := 75) (i := 1) (L' := [some (vI p0), some (vL x9), none, none, none, none, none, none, none, none, none]) D326_74 (Or.inl ⟨_, rfl, rfl⟩) (Nat.le_of_ble_eq_true rfl) rfl ?_
    refine im_ld (q := 76) (i := 0) D326_75 rfl rfl rfl ?_
    refine im_bipush (q := 78) D326_76 rfl ?_
    have hJ61 := hP
    have kJ62 : ∀ x60 : Int, (((¬ p0 = 22) ∧ (¬ p0 = 23) ∧ (¬ p0 = 24) ∧ (¬ p0 = 25) ∧ (¬ p0 = 26) ∧ (¬ p0 = 27) ∧ x60 = 0) ∨ ((¬ p0 = 22) ∧ (¬ p0 = 23) ∧ (¬ p0 = 24) ∧ (¬ p0 = 25) ∧ (¬ p0 = 26) ∧ (p0 = 27) ∧ x60 = 6580598) ∨ ((¬ p0 = 22) ∧ (¬ p0 = 23) ∧ (¬ p0 = 24) ∧ (¬ p0 = 25) ∧ (p0 = 26) ∧ x60 = 7173484) ∨ ((¬ p0 = 22) ∧ (¬ p0 = 23) ∧ (¬ p0 = 24) ∧ (p0 = 25) ∧ x60 = 7566690) ∨ ((¬ p0 = 22) ∧ (¬ p0 = 23) ∧ (p0 = 24) ∧ x60 = 6382692) ∨ ((¬ p0 = 22) ∧ (p0 = 23) ∧ x60 = 7234919) ∨ ((p0 = 22) ∧ x60 = 1751477348)) → im_T g d 326 148 [some (vI p0), some (vL x9), none, none, none, none, none, none, none, none, none] [vL x60] e M K := by
      intro x60 hx63
      have hP := hJ61 x60 hx63
      refine im_st2 (q := 149) (i := 3) (L' := [some (vI p0), some (vL x9), none, some (vL x60), none, none, none, none, none, none, none]) D326_148 (Or.inl ⟨_, rfl, rfl⟩) (Nat.le_of_ble_eq_true rfl) rfl ?_
      refine im_ld (q := 150) (i := 0) D326_149 rfl rfl rfl ?_
      refine im_bipush (q := 152) D326_150 rfl ?_
      have hJ70 := hP
      have kJ71 : ∀ x69 : Int, (((¬ p0 = 28) ∧ (¬ p0 = 29) ∧ (¬ p0 = 30) ∧ (¬ p0 = 31) ∧ (¬ p0 = 32) ∧ x69 = 0) ∨ ((¬ p0 = 28) ∧ (¬ p0 = 29) ∧ (¬ p0 = 30) ∧ (¬ p0 = 31) ∧ (p0 = 32) ∧ x69 = 1668247140) ∨ ((¬ p0 = 28) ∧ (¬ p0 = 29) ∧ (¬ p0 = 30) ∧ (p0 = 31) ∧ x69 = 7697253) ∨ ((¬ p0 = 28) ∧ (¬ p0 = 29) ∧ (p0 = 30) ∧ x69 = 6647396) ∨ ((¬ p0 = 28) ∧ (p0 = 29) ∧ x69 = 495873782388) ∨ ((p0 = 28) ∧ x69 = 109300197582190)) → im_T g d 326 210 [some (vI p0), some (vL x9), none, some (vL x60), none, none, none, none, none, none, none] [vL x69] e M K := by
        intro x69 hx72
        have hP := hJ70 x69 hx72
        refine im_st2 (q := 212) (i := 5) (L' := [some (vI p0), some (vL x9), none, some (vL x60), none, some (vL x69), none, none, none, none, none]) D326_210 (Or.inr rfl) (Nat.le_of_ble_eq_true rfl) rfl ?_
        refine im_ld (q := 213) (i := 0) D326_212 rfl rfl rfl ?_
        refine im_bipush (q := 215) D326_213 rfl ?_
        have hJ80 := hP
        have kJ81 : ∀ x79 : Int, (((¬ p0 = 40) ∧ (¬ p0 = 41) ∧ (¬ p0 = 42) ∧ (¬ p0 = 43) ∧ (¬ p0 = 49) ∧ (¬ p0 = 50) ∧ x79 = 0) ∨ ((¬ p0 = 40) ∧ (¬ p0 = 41) ∧ (¬ p0 = 42) ∧ (¬ p0 = 43) ∧ (¬ p0 = 49) ∧ (p0 = 50) ∧ x79 = 439721161573) ∨ ((¬ p0 = 40) ∧ (¬ p0 = 41) ∧ (¬ p0 = 42) ∧ (¬ p0 = 43) ∧ (p0 = 49) ∧ x79 = 1953658213) ∨ ((¬ p0 = 40) ∧ (¬ p0 = 41) ∧ (¬ p0 = 42) ∧ (p0 = 43) ∧ x79 = 426953896805) ∨ ((¬ p0 = 40) ∧ (¬ p0 = 41) ∧ (p0 = 42) ∧ x79 = 7237492) ∨ ((¬ p0 = 40) ∧ (p0 = 41) ∧ x79 = 28530) ∨ ((p0 = 40) ∧ x79 = 6385252)) → im_T g d 326 285 [some (vI p0), some (vL x9), none, some (vL x60), none, some (vL x69), none, none, none, none, none] [vL x79] e M K := by
          intro x79 hx82
          have hP := hJ80 x79 hx82
          refine im_st2 (q := 287) (i := 7) (L' := [some (vI p0), some (vL x9), none, some (vL x60), none, some (vL x69), none, some (vL x79), none, none, none]) D326_285 (Or.inr rfl) (Nat.le_of_ble_eq_true rfl) rfl ?_
          refine im_ld (q := 288) (i := 0) D326_287 rfl rfl rfl ?_
          refine im_bipush (q := 290) D326_288 rfl ?_
          have hJ89 := hP
          have kJ90 : ∀ x88 : Int, (((¬ p0 = 44) ∧ (¬ p0 = 45) ∧ (¬ p0 = 46) ∧ (¬ p0 = 47) ∧ (¬ p0 = 48) ∧ x88 = 0) ∨ ((¬ p0 = 44) ∧ (¬ p0 = 45) ∧ (¬ p0 = 46) ∧ (¬ p0 = 47) ∧ (p0 = 48) ∧ x88 = 25969) ∨ ((¬ p0 = 44) ∧ (¬ p0 = 45) ∧ (¬ p0 = 46) ∧ (p0 = 47) ∧ x88 = 27764) ∨ ((¬ p0 = 44) ∧ (¬ p0 = 45) ∧ (p0 = 46) ∧ x88 = 27749) ∨ ((¬ p0 = 44) ∧ (p0 = 45) ∧ x88 = 26484) ∨ ((p0 = 44) ∧ x88 = 26469)) → im_T g d 326 348 [none, some (vL x9), none, some (vL x60), none, some (vL x69), none, some (vL x79), none, none, none] [vL x88] e M K := by
            intro x88 hx91
            have hP := hJ89 x88 hx91
            refine im_st2 (q := 350) (i := 9) (L' := [none, some (vL x9), none, some (vL x60), none, some (vL x69), none, some (vL x79), none, some (vL x88), none]) D326_348 (Or.inr rfl) (Nat.le_of_ble_eq_true rfl) rfl ?_
            refine im_ld (q := 351) (i := 1) D326_350 rfl rfl rfl ?_
            refine im_ld (q := 352) (i := 3) D326_351 rfl rfl rfl ?_
            refine im_ladd (q := 353) D326_352 ?_
            refine im_ld (q := 355) (i := 5) D326_353 rfl rfl rfl ?_
            refine im_ladd (q := 356) D326_355 ?_
            refine im_ld (q := 358) (i := 7) D326_356 rfl rfl rfl ?_
            refine im_ladd (q := 359) D326_358 ?_
            refine im_ld (q := 361) (i := 9) D326_359 rfl rfl rfl ?_
            refine im_ladd (q := 362) D326_361 ?_
            exact im_lret (q := 363) D326_362 rfl hP
          refine im_icmp (q := 293) (t := 299) D326_290 rfl hg1 (by decide) (fun hc83 => ?_) (fun hc83 => ?_)
          · refine im_ld (q := 300) (i := 0) D326_299 rfl rfl rfl ?_
            refine im_bipush (q := 302) D326_300 rfl ?_
            refine im_icmp (q := 305) (t := 311) D326_302 rfl hg1 (by decide) (fun hc84 => ?_) (fun hc84 => ?_)
            · refine im_ld (q := 312) (i := 0) D326_311 rfl rfl rfl ?_
              refine im_bipush (q := 314) D326_312 rfl ?_
              refine im_icmp (q := 317) (t := 323) D326_314 rfl hg1 (by decide) (fun hc85 => ?_) (fun hc85 => ?_)
              · refine im_ld (q := 324) (i := 0) D326_323 rfl rfl rfl ?_
                refine im_bipush (q := 326) D326_324 rfl ?_
                refine im_icmp (q := 329) (t := 335) D326_326 rfl hg1 (by decide) (fun hc86 => ?_) (fun hc86 => ?_)
                · refine im_ld (q := 336) (i := 0) D326_335 rfl rfl rfl ?_
                  refine im_bipush (q := 338) D326_336 rfl ?_
                  refine im_icmp (q := 341) (t := 347) D326_338 rfl hg1 (by decide) (fun hc87 => ?_) (fun hc87 => ?_)
                  · refine im_lconst (q := 348) (z := 0) D326_347 rfl ?_
                    exact (kJ90 (0) (Or.inl ⟨hc83, hc84, hc85, hc86, hc87, rfl⟩)).wk ⟨rfl, rfl, rfl, rfl, trivial⟩
                  · refine im_ldc2 (q := 344) (n := 25969) D326_341 rfl ?_
                    refine im_goto (q := 347) (t := 348) D326_344 rfl ?_
                    exact (kJ90 (25969) (Or.inr (Or.inl ⟨hc83, hc84, hc85, hc86, (Decidable.not_not.mp hc87), rfl⟩))).wk ⟨rfl, rfl, rfl, rfl, trivial⟩
                · refine im_ldc2 (q := 332) (n := 27764) D326_329 rfl ?_
                  refine im_goto (q := 335) (t := 348) D326_332 rfl ?_
                  exact (kJ90 (27764) (Or.inr (Or.inr (Or.inl ⟨hc83, hc84, hc85, (Decidable.not_not.mp hc86), rfl⟩)))).wk ⟨rfl, rfl, rfl, rfl, trivial⟩
              · refine im_ldc2 (q := 320) (n := 27749) D326_317 rfl ?_
                refine im_goto (q := 323) (t := 348) D326_320 rfl ?_
                exact (kJ90 (27749) (Or.inr (Or.inr (Or.inr (Or.inl ⟨hc83, hc84, (Decidable.not_not.mp hc85), rfl⟩))))).wk ⟨rfl, rfl, rfl, rfl, trivial⟩
            · refine im_ldc2 (q := 308) (n := 26484) D326_305 rfl ?_
              refine im_goto (q := 311) (t := 348) D326_308 rfl ?_
              exact (kJ90 (26484) (Or.inr (Or.inr (Or.inr (Or.inr (Or.inl ⟨hc83, (Decidable.not_not.mp hc84), rfl⟩)))))).wk ⟨rfl, rfl, rfl, rfl, trivial⟩
          · refine im_ldc2 (q := 296) (n := 26469) D326_293 rfl ?_
            refine im_goto (q := 299) (t := 348) D326_296 rfl ?_
            exact (kJ90 (26469) (Or.inr (Or.inr (Or.inr (Or.inr (Or.inr ⟨(Decidable.not_not.mp hc83), rfl⟩)))))).wk ⟨rfl, rfl, rfl, rfl, trivial⟩
        refine im_icmp (q := 218) (t := 224) D326_215 rfl hg1 (by decide) (fun hc73 => ?_) (fun hc73 => ?_)
        · refine im_ld (q := 225) (i := 0) D326_224 rfl rfl rfl ?_
          refine im_bipush (q := 227) D326_225 rfl ?_
          refine im_icmp (q := 230) (t := 236) D326_227 rfl hg1 (by decide) (fun hc74 => ?_) (fun hc74 => ?_)
          · refine im_ld (q := 237) (i := 0) D326_236 rfl rfl rfl ?_
            refine im_bipush (q := 239) D326_237 rfl ?_
            refine im_icmp (q := 242) (t := 248) D326_239 rfl hg1 (by decide) (fun hc75 => ?_) (fun hc75 => ?_)
            · refine im_ld (q := 249) (i := 0) D326_248 rfl rfl rfl ?_
              refine im_bipush (q := 251) D326_249 rfl ?_
              refine im_icmp (q := 254) (t := 260) D326_251 rfl hg1 (by decide) (fun hc76 => ?_) (fun hc76 => ?_)
              · refine im_ld (q := 261) (i := 0) D326_260 rfl rfl rfl ?_
                refine im_bipush (q := 263) D326_261 rfl ?_
                refine im_icmp (q := 266) (t := 272) D326_263 rfl hg1 (by decide) (fun hc77 => ?_) (fun hc77 => ?_)
                · refine im_ld (q := 273) (i := 0) D326_272 rfl rfl rfl ?_
                  refine im_bipush (q := 275) D326_273 rfl ?_
                  refine im_icmp (q := 278) (t := 284) D326_275 rfl hg1 (by decide) (fun hc78 => ?_) (fun hc78 => ?_)
                  · refine im_lconst (q := 285) (z := 0) D326_284 rfl ?_
                    exact (kJ81 (0) (Or.inl ⟨hc73, hc74, hc75, hc76, hc77, hc78, rfl⟩)).wk ⟨rfl, rfl, rfl, rfl, trivial⟩
                  · refine im_ldc2 (q := 281) (n := 439721161573) D326_278 rfl ?_
                    refine im_goto (q := 284) (t := 285) D326_281 rfl ?_
                    exact (kJ81 (439721161573) (Or.inr (Or.inl ⟨hc73, hc74, hc75, hc76, hc77, (Decidable.not_not.mp hc78), rfl⟩))).wk ⟨rfl, rfl, rfl, rfl, trivial⟩
                · refine im_ldc2 (q := 269) (n := 1953658213) D326_266 rfl ?_
                  refine im_goto (q := 272) (t := 285) D326_269 rfl ?_
                  exact (kJ81 (1953658213) (Or.inr (Or.inr (Or.inl ⟨hc73, hc74, hc75, hc76, (Decidable.not_not.mp hc77), rfl⟩)))).wk ⟨rfl, rfl, rfl, rfl, trivial⟩
              · refine im_ldc2 (q := 257) (n := 426953896805) D326_254 rfl ?_
                refine im_goto (q := 260) (t := 285) D326_257 rfl ?_
                exact (kJ81 (426953896805) (Or.inr (Or.inr (Or.inr (Or.inl ⟨hc73, hc74, hc75, (Decidable.not_not.mp hc76), rfl⟩))))).wk ⟨rfl, rfl, rfl, rfl, trivial⟩
            · refine im_ldc2 (q := 245) (n := 7237492) D326_242 rfl ?_
              refine im_goto (q := 248) (t := 285) D326_245 rfl ?_
              exact (kJ81 (7237492) (Or.inr (Or.inr (Or.inr (Or.inr (Or.inl ⟨hc73, hc74, (Decidable.not_not.mp hc75), rfl⟩)))))).wk ⟨rfl, rfl, rfl, rfl, trivial⟩
          · refine im_ldc2 (q := 233) (n := 28530) D326_230 rfl ?_
            refine im_goto (q := 236) (t := 285) D326_233 rfl ?_
            exact (kJ81 (28530) (Or.inr (Or.inr (Or.inr (Or.inr (Or.inr (Or.inl ⟨hc73, (Decidable.not_not.mp hc74), rfl⟩))))))).wk ⟨rfl, rfl, rfl, rfl, trivial⟩
        · refine im_ldc2 (q := 221) (n := 6385252) D326_218 rfl ?_
          refine im_goto (q := 224) (t := 285) D326_221 rfl ?_
          exact (kJ81 (6385252) (Or.inr (Or.inr (Or.inr (Or.inr (Or.inr (Or.inr ⟨(Decidable.not_not.mp hc73), rfl⟩))))))).wk ⟨rfl, rfl, rfl, rfl, trivial⟩
      refine im_icmp (q := 155) (t := 161) D326_152 rfl hg1 (by decide) (fun hc64 => ?_) (fun hc64 => ?_)
      · refine im_ld (q := 162) (i := 0) D326_161 rfl rfl rfl ?_
        refine im_bipush (q := 164) D326_162 rfl ?_
        refine im_icmp (q := 167) (t := 173) D326_164 rfl hg1 (by decide) (fun hc65 => ?_) (fun hc65 => ?_)
        · refine im_ld (q := 174) (i := 0) D326_173 rfl rfl rfl ?_
          refine im_bipush (q := 176) D326_174 rfl ?_
          refine im_icmp (q := 179) (t := 185) D326_176 rfl hg1 (by decide) (fun hc66 => ?_) (fun hc66 => ?_)
          · refine im_ld (q := 186) (i := 0) D326_185 rfl rfl rfl ?_
            refine im_bipush (q := 188) D326_186 rfl ?_
            refine im_icmp (q := 191) (t := 197) D326_188 rfl hg1 (by decide) (fun hc67 => ?_) (fun hc67 => ?_)
            · refine im_ld (q := 198) (i := 0) D326_197 rfl rfl rfl ?_
              refine im_bipush (q := 200) D326_198 rfl ?_
              refine im_icmp (q := 203) (t := 209) D326_200 rfl hg1 (by decide) (fun hc68 => ?_) (fun hc68 => ?_)
              · refine im_lconst (q := 210) (z := 0) D326_209 rfl ?_
                exact (kJ71 (0) (Or.inl ⟨hc64, hc65, hc66, hc67, hc68, rfl⟩)).wk ⟨rfl, rfl, rfl, trivial⟩
              · refine im_ldc2 (q := 206) (n := 1668247140) D326_203 rfl ?_
                refine im_goto (q := 209) (t := 210) D326_206 rfl ?_
                exact (kJ71 (1668247140) (Or.inr (Or.inl ⟨hc64, hc65, hc66, hc67, (Decidable.not_not.mp hc68), rfl⟩))).wk ⟨rfl, rfl, rfl, trivial⟩
            · refine im_ldc2 (q := 194) (n := 7697253) D326_191 rfl ?_
              refine im_goto (q := 197) (t := 210) D326_194 rfl ?_
              exact (kJ71 (7697253) (Or.inr (Or.inr (Or.inl ⟨hc64, hc65, hc66, (Decidable.not_not.mp hc67), rfl⟩)))).wk ⟨rfl, rfl, rfl, trivial⟩
          · refine im_ldc2 (q := 182) (n := 6647396) D326_179 rfl ?_
            refine im_goto (q := 185) (t := 210) D326_182 rfl ?_
            exact (kJ71 (6647396) (Or.inr (Or.inr (Or.inr (Or.inl ⟨hc64, hc65, (Decidable.not_not.mp hc66), rfl⟩))))).wk ⟨rfl, rfl, rfl, trivial⟩
        · refine im_ldc2 (q := 170) (n := 495873782388) D326_167 rfl ?_
          refine im_goto (q := 173) (t := 210) D326_170 rfl ?_
          exact (kJ71 (495873782388) (Or.inr (Or.inr (Or.inr (Or.inr (Or.inl ⟨hc64, (Decidable.not_not.mp hc65), rfl⟩)))))).wk ⟨rfl, rfl, rfl, trivial⟩
      · refine im_ldc2 (q := 158) (n := 109300197582190) D326_155 rfl ?_
        refine im_goto (q := 161) (t := 210) D326_158 rfl ?_
        exact (kJ71 (109300197582190) (Or.inr (Or.inr (Or.inr (Or.inr (Or.inr ⟨(Decidable.not_not.mp hc64), rfl⟩)))))).wk ⟨rfl, rfl, rfl, trivial⟩
    refine im_icmp (q := 81) (t := 87) D326_78 rfl hg1 (by decide) (fun hc54 => ?_) (fun hc54 => ?_)
    · refine im_ld (q := 88) (i := 0) D326_87 rfl rfl rfl ?_
      refine im_bipush (q := 90) D326_88 rfl ?_
      refine im_icmp (q := 93) (t := 99) D326_90 rfl hg1 (by decide) (fun hc55 => ?_) (fun hc55 => ?_)
      · refine im_ld (q := 100) (i := 0) D326_99 rfl rfl rfl ?_
        refine im_bipush (q := 102) D326_100 rfl ?_
        refine im_icmp (q := 105) (t := 111) D326_102 rfl hg1 (by decide) (fun hc56 => ?_) (fun hc56 => ?_)
        · refine im_ld (q := 112) (i := 0) D326_111 rfl rfl rfl ?_
          refine im_bipush (q := 114) D326_112 rfl ?_
          refine im_icmp (q := 117) (t := 123) D326_114 rfl hg1 (by decide) (fun hc57 => ?_) (fun hc57 => ?_)
          · refine im_ld (q := 124) (i := 0) D326_123 rfl rfl rfl ?_
            refine im_bipush (q := 126) D326_124 rfl ?_
            refine im_icmp (q := 129) (t := 135) D326_126 rfl hg1 (by decide) (fun hc58 => ?_) (fun hc58 => ?_)
            · refine im_ld (q := 136) (i := 0) D326_135 rfl rfl rfl ?_
              refine im_bipush (q := 138) D326_136 rfl ?_
              refine im_icmp (q := 141) (t := 147) D326_138 rfl hg1 (by decide) (fun hc59 => ?_) (fun hc59 => ?_)
              · refine im_lconst (q := 148) (z := 0) D326_147 rfl ?_
                exact (kJ62 (0) (Or.inl ⟨hc54, hc55, hc56, hc57, hc58, hc59, rfl⟩)).wk ⟨rfl, rfl, trivial⟩
              · refine im_ldc2 (q := 144) (n := 6580598) D326_141 rfl ?_
                refine im_goto (q := 147) (t := 148) D326_144 rfl ?_
                exact (kJ62 (6580598) (Or.inr (Or.inl ⟨hc54, hc55, hc56, hc57, hc58, (Decidable.not_not.mp hc59), rfl⟩))).wk ⟨rfl, rfl, trivial⟩
            · refine im_ldc2 (q := 132) (n := 7173484) D326_129 rfl ?_
              refine im_goto (q := 135) (t := 148) D326_132 rfl ?_
              exact (kJ62 (7173484) (Or.inr (Or.inr (Or.inl ⟨hc54, hc55, hc56, hc57, (Decidable.not_not.mp hc58), rfl⟩)))).wk ⟨rfl, rfl, trivial⟩
          · refine im_ldc2 (q := 120) (n := 7566690) D326_117 rfl ?_
            refine im_goto (q := 123) (t := 148) D326_120 rfl ?_
            exact (kJ62 (7566690) (Or.inr (Or.inr (Or.inr (Or.inl ⟨hc54, hc55, hc56, (Decidable.not_not.mp hc57), rfl⟩))))).wk ⟨rfl, rfl, trivial⟩
        · refine im_ldc2 (q := 108) (n := 6382692) D326_105 rfl ?_
          refine im_goto (q := 111) (t := 148) D326_108 rfl ?_
          exact (kJ62 (6382692) (Or.inr (Or.inr (Or.inr (Or.inr (Or.inl ⟨hc54, hc55, (Decidable.not_not.mp hc56), rfl⟩)))))).wk ⟨rfl, rfl, trivial⟩
      · refine im_ldc2 (q := 96) (n := 7234919) D326_93 rfl ?_
        refine im_goto (q := 99) (t := 148) D326_96 rfl ?_
        exact (kJ62 (7234919) (Or.inr (Or.inr (Or.inr (Or.inr (Or.inr (Or.inl ⟨hc54, (Decidable.not_not.mp hc55), rfl⟩))))))).wk ⟨rfl, rfl, trivial⟩
    · refine im_ldc2 (q := 84) (n := 1751477348) D326_81 rfl ?_
      refine im_goto (q := 87) (t := 148) D326_84 rfl ?_
      exact (kJ62 (1751477348) (Or.inr (Or.inr (Or.inr (Or.inr (Or.inr (Or.inr ⟨(Decidable.not_not.mp hc54), rfl⟩))))))).wk ⟨rfl, rfl, trivial⟩
  refine im_icmp (q := 5) (t := 11) D326_2 rfl hg1 (by decide) (fun hc2 => ?_) (fun hc2 => ?_)
  · refine im_ld (q := 12) (i := 0) D326_11 rfl rfl rfl ?_
    refine im_iconst (q := 13) D326_12 ?_
    refine im_icmp (q := 16) (t := 21) D326_13 rfl hg1 (by decide) (fun hc3 => ?_) (fun hc3 => ?_)
    · exact (kJ11  (Or.inl ⟨hc2, hc3⟩)).wk ⟨rfl, trivial⟩
    · refine im_ld (q := 17) (i := 0) D326_16 rfl rfl rfl ?_
      refine im_iconst (q := 18) D326_17 ?_
      refine im_icmp (q := 21) (t := 27) D326_18 rfl hg1 (by decide) (fun hc4 => ?_) (fun hc4 => ?_)
      · refine im_ld (q := 28) (i := 0) D326_27 rfl rfl rfl ?_
        refine im_iconst (q := 29) D326_28 ?_
        refine im_icmp (q := 32) (t := 38) D326_29 rfl hg1 (by decide) (fun hc5 => ?_) (fun hc5 => ?_)
        · refine im_ld (q := 39) (i := 0) D326_38 rfl rfl rfl ?_
          refine im_iconst (q := 40) D326_39 ?_
          refine im_icmp (q := 43) (t := 49) D326_40 rfl hg1 (by decide) (fun hc6 => ?_) (fun hc6 => ?_)
          · refine im_ld (q := 50) (i := 0) D326_49 rfl rfl rfl ?_
            refine im_bipush (q := 52) D326_50 rfl ?_
            refine im_icmp (q := 55) (t := 61) D326_52 rfl hg1 (by decide) (fun hc7 => ?_) (fun hc7 => ?_)
            · refine im_ld (q := 62) (i := 0) D326_61 rfl rfl rfl ?_
              refine im_bipush (q := 64) D326_62 rfl ?_
              refine im_icmp (q := 67) (t := 73) D326_64 rfl hg1 (by decide) (fun hc8 => ?_) (fun hc8 => ?_)
              · refine im_lconst (q := 74) (z := 0) D326_73 rfl ?_
                exact (kJ52 (0) (Or.inl ⟨hc2, hc3, hc4, hc5, hc6, hc7, hc8, rfl⟩)).wk ⟨rfl, trivial⟩
              · refine im_ldc2 (q := 70) (n := 107148485161588) D326_67 rfl ?_
                refine im_goto (q := 73) (t := 74) D326_70 rfl ?_
                exact (kJ52 (107148485161588) (Or.inr (Or.inl ⟨hc2, hc3, hc4, hc5, hc6, hc7, (Decidable.not_not.mp hc8), rfl⟩))).wk ⟨rfl, trivial⟩
            · refine im_ldc2 (q := 58) (n := 7103860) D326_55 rfl ?_
              refine im_goto (q := 61) (t := 74) D326_58 rfl ?_
              exact (kJ52 (7103860) (Or.inr (Or.inr (Or.inl ⟨hc2, hc3, hc4, hc5, hc6, (Decidable.not_not.mp hc7), rfl⟩)))).wk ⟨rfl, trivial⟩
          · refine im_ldc2 (q := 46) (n := 2003330414) D326_43 rfl ?_
            refine im_goto (q := 49) (t := 74) D326_46 rfl ?_
            exact (kJ52 (2003330414) (Or.inr (Or.inr (Or.inr (Or.inl ⟨hc2, hc3, hc4, hc5, (Decidable.not_not.mp hc6), rfl⟩))))).wk ⟨rfl, trivial⟩
        · refine im_ldc2 (q := 35) (n := 26982) D326_32 rfl ?_
          refine im_goto (q := 38) (t := 74) D326_35 rfl ?_
          exact (kJ52 (26982) (Or.inr (Or.inr (Or.inr (Or.inr (Or.inl ⟨hc2, hc3, hc4, (Decidable.not_not.mp hc5), rfl⟩)))))).wk ⟨rfl, trivial⟩
      · exact (kJ11  (Or.inr ⟨hc2, hc3, (Decidable.not_not.mp hc4)⟩)).wk ⟨rfl, trivial⟩
  · refine im_ldc2 (q := 8) (n := 427021005669) D326_5 rfl ?_
    refine im_goto (q := 11) (t := 74) D326_8 rfl ?_
    exact (kJ52 (427021005669) (Or.inr (Or.inr (Or.inr (Or.inr (Or.inr ⟨(Decidable.not_not.mp hc2), rfl⟩)))))).wk ⟨rfl, trivial⟩
set_option maxRecDepth 20000 in
set_option maxHeartbeats 4000000 in
theorem b_putLong_0 {g : im_g} {d : Nat} {e : im_E} {M : im_M} {K : im_K} {p1 : Int} (hP : im_T g d 327 2 [some (.ref 6952), some (vL p1), none, some (vL 1), none, none, none] [] e M K) : im_T g d 327 0 [some (.ref 6952), some (vL p1), none, none, none, none, none] [] e M K := by
  refine im_lconst (q := 1) (z := 1) D327_0 rfl ?_
  refine im_st2 (q := 2) (i := 3) (L' := [some (.ref 6952), some (vL p1), none, some (vL 1), none, none, none]) D327_1 (Or.inl ⟨_, rfl, rfl⟩) (Nat.le_of_ble_eq_true rfl) rfl ?_
  exact hP.wk ⟨rfl, rfl, rfl, trivial⟩
set_option maxRecDepth 20000 in
set_option maxHeartbeats 4000000 in
theorem b_putLong_2 {g : im_g} {d : Nat} {e : im_E} {M : im_M} {K : im_K} {p1 p3 : Int} (hP : (im_i64 p1) ∧ (im_i64 p3) ∧ (¬ p3 = 0) ∧ (im_i64 (p1.tdiv p3)) ∧ (((p1.tdiv p3) ≤ 9 → im_T g d 327 24 [some (.ref 6952), some (vL p1), none, none, none, some (vL p3), none] [] e M K) ∧ (9 < (p1.tdiv p3) → im_T g d 327 2 [some (.ref 6952), some (vL p1), none, some (vL (p3 * 10)), none, none, none] [] e M K))) : im_T g d 327 2 [some (.ref 6952), some (vL p1), none, some (vL p3), none, none, none] [] e M K := by
  refine im_ld (q := 3) (i := 1) D327_2 rfl rfl rfl ?_
  refine im_ld (q := 4) (i := 3) D327_3 rfl rfl rfl ?_
  obtain ⟨hg1, hP⟩ := hP
  obtain ⟨hg2, hP⟩ := hP
  obtain ⟨hg3, hP⟩ := hP
  refine im_ldiv (q := 5) D327_4 hg1 hg2 hg3 ?_
  refine im_ldc2 (q := 8) (n := 9) D327_5 rfl ?_
  obtain ⟨hg4, hP⟩ := hP
  refine im_lif (q := 9) (q2 := 12) (t := 21) D327_8 D327_9 rfl hg4 (by decide) (fun hc5 => ?_) (fun hc5 => ?_)
  · replace hP := hP.1 hc5
    refine im_ld (q := 22) (i := 3) D327_21 rfl rfl rfl ?_
    refine im_st2 (q := 24) (i := 5) (L' := [some (.ref 6952), some (vL p1), none, some (vL p3), none, some (vL p3), none]) D327_22 (Or.inr rfl) (Nat.le_of_ble_eq_true rfl) rfl ?_
    exact hP.wk ⟨rfl, rfl, rfl, trivial⟩
  · replace hP := hP.2 (Int.not_le.mp hc5)
    refine im_ld (q := 13) (i := 3) D327_12 rfl rfl rfl ?_
    refine im_ldc2 (q := 16) (n := 10) D327_13 rfl ?_
    refine im_lmul (q := 17) D327_16 ?_
    refine im_st2 (q := 18) (i := 3) (L' := [some (.ref 6952), some (vL p1), none, some (vL (p3 * 10)), none, none, none]) D327_17 (Or.inl ⟨_, rfl, rfl⟩) (Nat.le_of_ble_eq_true rfl) rfl ?_
    refine im_goto (q := 21) (t := 2) D327_18 rfl ?_
    exact hP.wk ⟨rfl, rfl, rfl, trivial⟩
set_option maxRecDepth 20000 in
set_option maxHeartbeats 4000000 in
theorem b_putLong_24 {g : im_g} {d : Nat} {e : im_E} {M : im_M} {K : im_K} {p1 p5 : Int} (hd : 1 ≤ d) (hP : (im_i64 p5) ∧ ((p5 ≤ 0 → K (.inl none) e M) ∧ (0 < p5 → (im_i64 p1) ∧ (¬ p5 = 0) ∧ (im_i64 (p1.tdiv p5)) ∧ im_T g (d - 1) 322 0 [some (.ref 6952), some (vI (48 + ((p1.tdiv p5).tmod 10)))] [] e M (im_r0 (fun  e_ M6 => e = e_ ∧ im_T g d 327 24 [some (.ref 6952), some (vL p1), none, none, none, some (vL (p5.tdiv 10)), none] [] e M6 K))))) : im_T g d 327 24 [some (.ref 6952), some (vL p1), none, none, none, some (vL p5), none] [] e M K := by
  refine im_ld (q := 26) (i := 5) D327_24 rfl rfl rfl ?_
  refine im_lconst (q := 27) (z := 0) D327_26 rfl ?_
  obtain ⟨hg1, hP⟩ := hP
  refine im_lif (q := 28) (q2 := 31) (t := 58) D327_27 D327_28 rfl hg1 (by decide) (fun hc2 => ?_) (fun hc2 => ?_)
  · replace hP := hP.1 hc2
    exact im_vret (q := 59) D327_58 rfl hP
  · replace hP := hP.2 (Int.not_le.mp hc2)
    refine im_ld (q := 32) (i := 0) D327_31 rfl rfl rfl ?_
    refine im_bipush (q := 34) D327_32 rfl ?_
    refine im_ld (q := 35) (i := 1) D327_34 rfl rfl rfl ?_
    refine im_ld (q := 37) (i := 5) D327_35 rfl rfl rfl ?_
    obtain ⟨hg3, hP⟩ := hP
    obtain ⟨hg4, hP⟩ := hP
    refine im_ldiv (q := 38) D327_37 hg3 hg1 hg4 ?_
    refine im_ldc2 (q := 41) (n := 10) D327_38 rfl ?_
    obtain ⟨hg5, hP⟩ := hP
    refine im_lrem (q := 42) D327_41 hg5 (by decide) (by decide) ?_
    refine im_l2i (q := 43) D327_42 ?_
    refine im_iadd (q := 44) D327_43 ?_
    refine im_callV (q := 47) (kd := 1) (y := 322) (n := 1) (ci := 12) (a := 6952) (vs := [.ref 6952, vI (48 + ((p1.tdiv p5).tmod 10))]) (r := []) (L2 := [some (.ref 6952), some (vI (48 + ((p1.tdiv p5).tmod 10)))]) D327_44 (im_cal cn_327 cl_12_432) (Or.inl rfl) rfl sf_6952 rfl rfl rfl rfl hd ⟨rfl, rfl, trivial⟩ ?_
    refine hP.mono ?_
    rintro _ e7 M6 ⟨rfl, rfl, hP⟩
    refine im_bkN ?_
    refine im_ld (q := 49) (i := 5) D327_47 rfl rfl rfl ?_
    refine im_ldc2 (q := 52) (n := 10) D327_49 rfl ?_
    refine im_ldiv (q := 53) D327_52 hg1 (by decide) (by decide) ?_
    refine im_st2 (q := 55) (i := 5) (L' := [some (.ref 6952), some (vL p1), none, none, none, some (vL (p5.tdiv 10)), none]) D327_53 (Or.inr rfl) (Nat.le_of_ble_eq_true rfl) rfl ?_
    refine im_goto (q := 58) (t := 24) D327_55 rfl ?_
    exact hP.wk ⟨rfl, rfl, rfl, trivial⟩

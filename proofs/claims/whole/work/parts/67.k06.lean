/-! blocks of the class -/
theorem D122_0 {g : im_g} : im_D g 122 0 (.iload_n 2) 1 := im_D.of (by decide +kernel)
theorem D122_1 {g : im_g} : im_D g 122 1 (.iconst 1) 2 := im_D.of (by decide +kernel)
theorem D122_2 {g : im_g} : im_D g 122 2 (.iadd) 3 := im_D.of (by decide +kernel)
theorem D122_3 {g : im_g} : im_D g 122 3 (.aload_n 0) 4 := im_D.of (by decide +kernel)
theorem D122_4 {g : im_g} : im_D g 122 4 (.getfield 11) 7 := im_D.of (by decide +kernel)
theorem D122_7 {g : im_g} : im_D g 122 7 (.arraylength) 8 := im_D.of (by decide +kernel)
theorem D122_8 {g : im_g} : im_D g 122 8 (.if_icmp .lt 10) 11 := im_D.of (by decide +kernel)
theorem D122_11 {g : im_g} : im_D g 122 11 (.aload_n 0) 12 := im_D.of (by decide +kernel)
theorem D122_12 {g : im_g} : im_D g 122 12 (.iconst 1) 13 := im_D.of (by decide +kernel)
theorem D122_13 {g : im_g} : im_D g 122 13 (.putfield 86) 16 := im_D.of (by decide +kernel)
theorem D122_16 {g : im_g} : im_D g 122 16 (.iconst 0) 17 := im_D.of (by decide +kernel)
theorem D122_17 {g : im_g} : im_D g 122 17 (.ireturn) 18 := im_D.of (by decide +kernel)
theorem D122_18 {g : im_g} : im_D g 122 18 (.aload_n 0) 19 := im_D.of (by decide +kernel)
theorem D122_19 {g : im_g} : im_D g 122 19 (.getfield 55) 22 := im_D.of (by decide +kernel)
theorem D122_22 {g : im_g} : im_D g 122 22 (.getfield 89) 25 := im_D.of (by decide +kernel)
theorem D122_25 {g : im_g} : im_D g 122 25 (.iload_n 1) 26 := im_D.of (by decide +kernel)
theorem D122_26 {g : im_g} : im_D g 122 26 (.iaload) 27 := im_D.of (by decide +kernel)
theorem D122_27 {g : im_g} : im_D g 122 27 (.istore_n 3) 28 := im_D.of (by decide +kernel)
theorem D122_28 {g : im_g} : im_D g 122 28 (.iload_n 3) 29 := im_D.of (by decide +kernel)
theorem D122_29 {g : im_g} : im_D g 122 29 (.invokestatic 93) 32 := im_D.of (by decide +kernel)
theorem D122_32 {g : im_g} : im_D g 122 32 (.ifCond .eq 15) 35 := im_D.of (by decide +kernel)
theorem D122_35 {g : im_g} : im_D g 122 35 (.aload_n 0) 36 := im_D.of (by decide +kernel)
theorem D122_36 {g : im_g} : im_D g 122 36 (.iload_n 1) 37 := im_D.of (by decide +kernel)
theorem D122_37 {g : im_g} : im_D g 122 37 (.aload_n 0) 38 := im_D.of (by decide +kernel)
theorem D122_38 {g : im_g} : im_D g 122 38 (.getfield 11) 41 := im_D.of (by decide +kernel)
theorem D122_41 {g : im_g} : im_D g 122 41 (.iload_n 2) 42 := im_D.of (by decide +kernel)
theorem D122_42 {g : im_g} : im_D g 122 42 (.aaload) 43 := im_D.of (by decide +kernel)
theorem D122_43 {g : im_g} : im_D g 122 43 (.invokevirtual 97) 46 := im_D.of (by decide +kernel)
theorem D122_46 {g : im_g} : im_D g 122 46 (.ireturn) 47 := im_D.of (by decide +kernel)
theorem D122_47 {g : im_g} : im_D g 122 47 (.iload_n 1) 48 := im_D.of (by decide +kernel)
theorem D122_48 {g : im_g} : im_D g 122 48 (.iconst 1) 49 := im_D.of (by decide +kernel)
theorem D122_49 {g : im_g} : im_D g 122 49 (.iadd) 50 := im_D.of (by decide +kernel)
theorem D122_50 {g : im_g} : im_D g 122 50 (.istore 4) 52 := im_D.of (by decide +kernel)
theorem D122_52 {g : im_g} : im_D g 122 52 (.aload_n 0) 53 := im_D.of (by decide +kernel)
theorem D122_53 {g : im_g} : im_D g 122 53 (.iload 4) 55 := im_D.of (by decide +kernel)
theorem D122_55 {g : im_g} : im_D g 122 55 (.iload_n 2) 56 := im_D.of (by decide +kernel)
theorem D122_56 {g : im_g} : im_D g 122 56 (.iconst 1) 57 := im_D.of (by decide +kernel)
theorem D122_57 {g : im_g} : im_D g 122 57 (.iadd) 58 := im_D.of (by decide +kernel)
theorem D122_58 {g : im_g} : im_D g 122 58 (.invokevirtual 101) 61 := im_D.of (by decide +kernel)
theorem D122_61 {g : im_g} : im_D g 122 61 (.istore 5) 63 := im_D.of (by decide +kernel)
theorem D122_63 {g : im_g} : im_D g 122 63 (.aload_n 0) 64 := im_D.of (by decide +kernel)
theorem D122_64 {g : im_g} : im_D g 122 64 (.iload_n 2) 65 := im_D.of (by decide +kernel)
theorem D122_65 {g : im_g} : im_D g 122 65 (.invokevirtual 105) 68 := im_D.of (by decide +kernel)
theorem D122_68 {g : im_g} : im_D g 122 68 (.iload_n 3) 69 := im_D.of (by decide +kernel)
theorem D122_69 {g : im_g} : im_D g 122 69 (.bipush 19) 71 := im_D.of (by decide +kernel)
theorem D122_71 {g : im_g} : im_D g 122 71 (.if_icmp .ne 14) 74 := im_D.of (by decide +kernel)
theorem D122_74 {g : im_g} : im_D g 122 74 (.iload 5) 76 := im_D.of (by decide +kernel)
theorem D122_76 {g : im_g} : im_D g 122 76 (.ifCond .ne 7) 79 := im_D.of (by decide +kernel)
theorem D122_79 {g : im_g} : im_D g 122 79 (.iconst 1) 80 := im_D.of (by decide +kernel)
theorem D122_80 {g : im_g} : im_D g 122 80 (.goto 4) 83 := im_D.of (by decide +kernel)
theorem D122_83 {g : im_g} : im_D g 122 83 (.iconst 0) 84 := im_D.of (by decide +kernel)
theorem D122_84 {g : im_g} : im_D g 122 84 (.ireturn) 85 := im_D.of (by decide +kernel)
theorem D122_85 {g : im_g} : im_D g 122 85 (.iload_n 3) 86 := im_D.of (by decide +kernel)
theorem D122_86 {g : im_g} : im_D g 122 86 (.bipush 7) 88 := im_D.of (by decide +kernel)
theorem D122_88 {g : im_g} : im_D g 122 88 (.if_icmp .ne 24) 91 := im_D.of (by decide +kernel)
theorem D122_91 {g : im_g} : im_D g 122 91 (.aload_n 0) 92 := im_D.of (by decide +kernel)
theorem D122_92 {g : im_g} : im_D g 122 92 (.getfield 11) 95 := im_D.of (by decide +kernel)
theorem D122_95 {g : im_g} : im_D g 122 95 (.iload_n 2) 96 := im_D.of (by decide +kernel)
theorem D122_96 {g : im_g} : im_D g 122 96 (.aaload) 97 := im_D.of (by decide +kernel)
theorem D122_97 {g : im_g} : im_D g 122 97 (.aload_n 0) 98 := im_D.of (by decide +kernel)
theorem D122_98 {g : im_g} : im_D g 122 98 (.getfield 11) 101 := im_D.of (by decide +kernel)
theorem D122_101 {g : im_g} : im_D g 122 101 (.iload_n 2) 102 := im_D.of (by decide +kernel)
theorem D122_102 {g : im_g} : im_D g 122 102 (.aaload) 103 := im_D.of (by decide +kernel)
theorem D122_103 {g : im_g} : im_D g 122 103 (.getfield 108) 106 := im_D.of (by decide +kernel)
theorem D122_106 {g : im_g} : im_D g 122 106 (.ineg) 107 := im_D.of (by decide +kernel)
theorem D122_107 {g : im_g} : im_D g 122 107 (.putfield 108) 110 := im_D.of (by decide +kernel)
theorem D122_110 {g : im_g} : im_D g 122 110 (.iconst 0) 111 := im_D.of (by decide +kernel)
theorem D122_111 {g : im_g} : im_D g 122 111 (.ireturn) 112 := im_D.of (by decide +kernel)
theorem D122_112 {g : im_g} : im_D g 122 112 (.aload_n 0) 113 := im_D.of (by decide +kernel)
theorem D122_113 {g : im_g} : im_D g 122 113 (.getfield 55) 116 := im_D.of (by decide +kernel)
theorem D122_116 {g : im_g} : im_D g 122 116 (.getfield 112) 119 := im_D.of (by decide +kernel)
theorem D122_119 {g : im_g} : im_D g 122 119 (.iload 4) 121 := im_D.of (by decide +kernel)
theorem D122_121 {g : im_g} : im_D g 122 121 (.iaload) 122 := im_D.of (by decide +kernel)
theorem D122_122 {g : im_g} : im_D g 122 122 (.istore 6) 124 := im_D.of (by decide +kernel)
theorem D122_124 {g : im_g} : im_D g 122 124 (.iload_n 3) 125 := im_D.of (by decide +kernel)
theorem D122_125 {g : im_g} : im_D g 122 125 (.bipush 16) 127 := im_D.of (by decide +kernel)
theorem D122_127 {g : im_g} : im_D g 122 127 (.if_icmp .ne 38) 130 := im_D.of (by decide +kernel)
theorem D122_130 {g : im_g} : im_D g 122 130 (.aload_n 0) 131 := im_D.of (by decide +kernel)
theorem D122_131 {g : im_g} : im_D g 122 131 (.iload 5) 133 := im_D.of (by decide +kernel)
theorem D122_133 {g : im_g} : im_D g 122 133 (.ifCond .eq 8) 136 := im_D.of (by decide +kernel)
theorem D122_136 {g : im_g} : im_D g 122 136 (.iload 6) 138 := im_D.of (by decide +kernel)
theorem D122_138 {g : im_g} : im_D g 122 138 (.goto 13) 141 := im_D.of (by decide +kernel)
theorem D122_141 {g : im_g} : im_D g 122 141 (.aload_n 0) 142 := im_D.of (by decide +kernel)
theorem D122_142 {g : im_g} : im_D g 122 142 (.getfield 55) 145 := im_D.of (by decide +kernel)
theorem D122_145 {g : im_g} : im_D g 122 145 (.getfield 112) 148 := im_D.of (by decide +kernel)
theorem D122_148 {g : im_g} : im_D g 122 148 (.iload 6) 150 := im_D.of (by decide +kernel)
theorem D122_150 {g : im_g} : im_D g 122 150 (.iaload) 151 := im_D.of (by decide +kernel)
theorem D122_151 {g : im_g} : im_D g 122 151 (.iload_n 2) 152 := im_D.of (by decide +kernel)
theorem D122_152 {g : im_g} : im_D g 122 152 (.iconst 1) 153 := im_D.of (by decide +kernel)
theorem D122_153 {g : im_g} : im_D g 122 153 (.iadd) 154 := im_D.of (by decide +kernel)
theorem D122_154 {g : im_g} : im_D g 122 154 (.invokevirtual 101) 157 := im_D.of (by decide +kernel)
theorem D122_157 {g : im_g} : im_D g 122 157 (.pop) 158 := im_D.of (by decide +kernel)
theorem D122_158 {g : im_g} : im_D g 122 158 (.aload_n 0) 159 := im_D.of (by decide +kernel)
theorem D122_159 {g : im_g} : im_D g 122 159 (.iload_n 2) 160 := im_D.of (by decide +kernel)
theorem D122_160 {g : im_g} : im_D g 122 160 (.invokevirtual 105) 163 := im_D.of (by decide +kernel)
theorem D122_163 {g : im_g} : im_D g 122 163 (.iconst 0) 164 := im_D.of (by decide +kernel)
theorem D122_164 {g : im_g} : im_D g 122 164 (.ireturn) 165 := im_D.of (by decide +kernel)
theorem D122_165 {g : im_g} : im_D g 122 165 (.aload_n 0) 166 := im_D.of (by decide +kernel)
theorem D122_166 {g : im_g} : im_D g 122 166 (.iload 6) 168 := im_D.of (by decide +kernel)
theorem D122_168 {g : im_g} : im_D g 122 168 (.iload_n 2) 169 := im_D.of (by decide +kernel)
theorem D122_169 {g : im_g} : im_D g 122 169 (.iconst 1) 170 := im_D.of (by decide +kernel)
theorem D122_170 {g : im_g} : im_D g 122 170 (.iadd) 171 := im_D.of (by decide +kernel)
theorem D122_171 {g : im_g} : im_D g 122 171 (.invokevirtual 101) 174 := im_D.of (by decide +kernel)
theorem D122_174 {g : im_g} : im_D g 122 174 (.istore 7) 176 := im_D.of (by decide +kernel)
theorem D122_176 {g : im_g} : im_D g 122 176 (.aload_n 0) 177 := im_D.of (by decide +kernel)
theorem D122_177 {g : im_g} : im_D g 122 177 (.getfield 11) 180 := im_D.of (by decide +kernel)
theorem D122_180 {g : im_g} : im_D g 122 180 (.iload_n 2) 181 := im_D.of (by decide +kernel)
theorem D122_181 {g : im_g} : im_D g 122 181 (.aaload) 182 := im_D.of (by decide +kernel)
theorem D122_182 {g : im_g} : im_D g 122 182 (.astore 8) 184 := im_D.of (by decide +kernel)
theorem D122_184 {g : im_g} : im_D g 122 184 (.aload_n 0) 185 := im_D.of (by decide +kernel)
theorem D122_185 {g : im_g} : im_D g 122 185 (.getfield 11) 188 := im_D.of (by decide +kernel)
theorem D122_188 {g : im_g} : im_D g 122 188 (.iload_n 2) 189 := im_D.of (by decide +kernel)
theorem D122_189 {g : im_g} : im_D g 122 189 (.iconst 1) 190 := im_D.of (by decide +kernel)
theorem D122_190 {g : im_g} : im_D g 122 190 (.iadd) 191 := im_D.of (by decide +kernel)
theorem D122_191 {g : im_g} : im_D g 122 191 (.aaload) 192 := im_D.of (by decide +kernel)
theorem D122_192 {g : im_g} : im_D g 122 192 (.astore 9) 194 := im_D.of (by decide +kernel)
theorem D122_194 {g : im_g} : im_D g 122 194 (.iconst 1) 195 := im_D.of (by decide +kernel)
theorem D122_195 {g : im_g} : im_D g 122 195 (.istore 10) 197 := im_D.of (by decide +kernel)
theorem D122_197 {g : im_g} : im_D g 122 197 (.iload_n 3) 198 := im_D.of (by decide +kernel)
theorem D122_198 {g : im_g} : im_D g 122 198 (.tableswitch 146 8 18 #[90, 103, 116, 132, 146, 146, 146, 146, 146, 58, 74]) 199 := im_D.of (by decide +kernel)
theorem D122_256 {g : im_g} : im_D g 122 256 (.iload 5) 258 := im_D.of (by decide +kernel)
theorem D122_258 {g : im_g} : im_D g 122 258 (.ifCond .eq 12) 261 := im_D.of (by decide +kernel)
theorem D122_261 {g : im_g} : im_D g 122 261 (.iload 7) 263 := im_D.of (by decide +kernel)
theorem D122_263 {g : im_g} : im_D g 122 263 (.ifCond .eq 7) 266 := im_D.of (by decide +kernel)
theorem D122_266 {g : im_g} : im_D g 122 266 (.iconst 1) 267 := im_D.of (by decide +kernel)
theorem D122_267 {g : im_g} : im_D g 122 267 (.goto 4) 270 := im_D.of (by decide +kernel)
theorem D122_270 {g : im_g} : im_D g 122 270 (.iconst 0) 271 := im_D.of (by decide +kernel)
theorem D122_271 {g : im_g} : im_D g 122 271 (.ireturn) 272 := im_D.of (by decide +kernel)
theorem D122_272 {g : im_g} : im_D g 122 272 (.iload 5) 274 := im_D.of (by decide +kernel)
theorem D122_274 {g : im_g} : im_D g 122 274 (.ifCond .ne 8) 277 := im_D.of (by decide +kernel)
theorem D122_277 {g : im_g} : im_D g 122 277 (.iload 7) 279 := im_D.of (by decide +kernel)
theorem D122_279 {g : im_g} : im_D g 122 279 (.ifCond .eq 7) 282 := im_D.of (by decide +kernel)
theorem D122_282 {g : im_g} : im_D g 122 282 (.iconst 1) 283 := im_D.of (by decide +kernel)
theorem D122_283 {g : im_g} : im_D g 122 283 (.goto 4) 286 := im_D.of (by decide +kernel)
theorem D122_286 {g : im_g} : im_D g 122 286 (.iconst 0) 287 := im_D.of (by decide +kernel)
theorem D122_287 {g : im_g} : im_D g 122 287 (.ireturn) 288 := im_D.of (by decide +kernel)
theorem D122_288 {g : im_g} : im_D g 122 288 (.aload 8) 290 := im_D.of (by decide +kernel)
theorem D122_290 {g : im_g} : im_D g 122 290 (.aload 9) 292 := im_D.of (by decide +kernel)
theorem D122_292 {g : im_g} : im_D g 122 292 (.iconst 1) 293 := im_D.of (by decide +kernel)
theorem D122_293 {g : im_g} : im_D g 122 293 (.invokevirtual 115) 296 := im_D.of (by decide +kernel)
theorem D122_296 {g : im_g} : im_D g 122 296 (.istore 10) 298 := im_D.of (by decide +kernel)
theorem D122_298 {g : im_g} : im_D g 122 298 (.goto 58) 301 := im_D.of (by decide +kernel)
theorem D122_301 {g : im_g} : im_D g 122 301 (.aload 8) 303 := im_D.of (by decide +kernel)
theorem D122_303 {g : im_g} : im_D g 122 303 (.aload 9) 305 := im_D.of (by decide +kernel)
theorem D122_305 {g : im_g} : im_D g 122 305 (.iconst (-1)) 306 := im_D.of (by decide +kernel)
theorem D122_306 {g : im_g} : im_D g 122 306 (.invokevirtual 115) 309 := im_D.of (by decide +kernel)
theorem D122_309 {g : im_g} : im_D g 122 309 (.istore 10) 311 := im_D.of (by decide +kernel)
theorem D122_311 {g : im_g} : im_D g 122 311 (.goto 45) 314 := im_D.of (by decide +kernel)
theorem D122_314 {g : im_g} : im_D g 122 314 (.aload 8) 316 := im_D.of (by decide +kernel)
theorem D122_316 {g : im_g} : im_D g 122 316 (.aload 9) 318 := im_D.of (by decide +kernel)
theorem D122_318 {g : im_g} : im_D g 122 318 (.aload_n 0) 319 := im_D.of (by decide +kernel)
theorem D122_319 {g : im_g} : im_D g 122 319 (.getfield 17) 322 := im_D.of (by decide +kernel)
theorem D122_322 {g : im_g} : im_D g 122 322 (.invokevirtual 119) 325 := im_D.of (by decide +kernel)
theorem D122_325 {g : im_g} : im_D g 122 325 (.istore 10) 327 := im_D.of (by decide +kernel)
theorem D122_327 {g : im_g} : im_D g 122 327 (.goto 29) 330 := im_D.of (by decide +kernel)
theorem D122_330 {g : im_g} : im_D g 122 330 (.aload 8) 332 := im_D.of (by decide +kernel)
theorem D122_332 {g : im_g} : im_D g 122 332 (.aload 9) 334 := im_D.of (by decide +kernel)
theorem D122_334 {g : im_g} : im_D g 122 334 (.aload_n 0) 335 := im_D.of (by decide +kernel)
theorem D122_335 {g : im_g} : im_D g 122 335 (.getfield 17) 338 := im_D.of (by decide +kernel)
theorem D122_338 {g : im_g} : im_D g 122 338 (.invokevirtual 123) 341 := im_D.of (by decide +kernel)
theorem D122_341 {g : im_g} : im_D g 122 341 (.goto 15) 344 := im_D.of (by decide +kernel)
theorem D122_344 {g : im_g} : im_D g 122 344 (.iload_n 3) 345 := im_D.of (by decide +kernel)
theorem D122_345 {g : im_g} : im_D g 122 345 (.aload 8) 347 := im_D.of (by decide +kernel)
theorem D122_347 {g : im_g} : im_D g 122 347 (.aload 9) 349 := im_D.of (by decide +kernel)
theorem D122_349 {g : im_g} : im_D g 122 349 (.invokevirtual 127) 352 := im_D.of (by decide +kernel)
theorem D122_352 {g : im_g} : im_D g 122 352 (.invokestatic 131) 355 := im_D.of (by decide +kernel)
theorem D122_355 {g : im_g} : im_D g 122 355 (.ireturn) 356 := im_D.of (by decide +kernel)
theorem D122_356 {g : im_g} : im_D g 122 356 (.aload_n 0) 357 := im_D.of (by decide +kernel)
theorem D122_357 {g : im_g} : im_D g 122 357 (.aload_n 0) 358 := im_D.of (by decide +kernel)
theorem D122_358 {g : im_g} : im_D g 122 358 (.getfield 86) 361 := im_D.of (by decide +kernel)
theorem D122_361 {g : im_g} : im_D g 122 361 (.ifCond .ne 8) 364 := im_D.of (by decide +kernel)
theorem D122_364 {g : im_g} : im_D g 122 364 (.iload 10) 366 := im_D.of (by decide +kernel)
theorem D122_366 {g : im_g} : im_D g 122 366 (.ifCond .ne 7) 369 := im_D.of (by decide +kernel)
theorem D122_369 {g : im_g} : im_D g 122 369 (.iconst 1) 370 := im_D.of (by decide +kernel)
theorem D122_370 {g : im_g} : im_D g 122 370 (.goto 4) 373 := im_D.of (by decide +kernel)
theorem D122_373 {g : im_g} : im_D g 122 373 (.iconst 0) 374 := im_D.of (by decide +kernel)
theorem D122_374 {g : im_g} : im_D g 122 374 (.putfield 86) 377 := im_D.of (by decide +kernel)
theorem D122_377 {g : im_g} : im_D g 122 377 (.iconst 0) 378 := im_D.of (by decide +kernel)
theorem D122_378 {g : im_g} : im_D g 122 378 (.ireturn) 379 := im_D.of (by decide +kernel)
theorem D123_0 {g : im_g} : im_D g 123 0 (.iload_n 0) 1 := im_D.of (by decide +kernel)
theorem D123_1 {g : im_g} : im_D g 123 1 (.lookupswitch 69 #[(6, 67), (12, 67), (13, 67), (14, 67), (15, 67), (34, 67), (35, 67)]) 2 := im_D.of (by decide +kernel)
theorem D123_68 {g : im_g} : im_D g 123 68 (.iconst 1) 69 := im_D.of (by decide +kernel)
theorem D123_69 {g : im_g} : im_D g 123 69 (.ireturn) 70 := im_D.of (by decide +kernel)
theorem D123_70 {g : im_g} : im_D g 123 70 (.iload_n 0) 71 := im_D.of (by decide +kernel)
theorem D123_71 {g : im_g} : im_D g 123 71 (.bipush 20) 73 := im_D.of (by decide +kernel)
theorem D123_73 {g : im_g} : im_D g 123 73 (.if_icmp .eq 15) 76 := im_D.of (by decide +kernel)
theorem D123_76 {g : im_g} : im_D g 123 76 (.iload_n 0) 77 := im_D.of (by decide +kernel)
theorem D123_77 {g : im_g} : im_D g 123 77 (.bipush 26) 79 := im_D.of (by decide +kernel)
theorem D123_79 {g : im_g} : im_D g 123 79 (.if_icmp .eq 9) 82 := im_D.of (by decide +kernel)
theorem D123_82 {g : im_g} : im_D g 123 82 (.iload_n 0) 83 := im_D.of (by decide +kernel)
theorem D123_83 {g : im_g} : im_D g 123 83 (.bipush 27) 85 := im_D.of (by decide +kernel)
theorem D123_85 {g : im_g} : im_D g 123 85 (.if_icmp .ne 7) 88 := im_D.of (by decide +kernel)
theorem D123_88 {g : im_g} : im_D g 123 88 (.iconst 1) 89 := im_D.of (by decide +kernel)
theorem D123_89 {g : im_g} : im_D g 123 89 (.goto 4) 92 := im_D.of (by decide +kernel)
theorem D123_92 {g : im_g} : im_D g 123 92 (.iconst 0) 93 := im_D.of (by decide +kernel)
theorem D123_93 {g : im_g} : im_D g 123 93 (.ireturn) 94 := im_D.of (by decide +kernel)
theorem D124_0 {g : im_g} : im_D g 124 0 (.aload_n 0) 1 := im_D.of (by decide +kernel)
theorem D124_1 {g : im_g} : im_D g 124 1 (.getfield 55) 4 := im_D.of (by decide +kernel)
theorem D124_4 {g : im_g} : im_D g 124 4 (.getfield 68) 7 := im_D.of (by decide +kernel)
theorem D124_7 {g : im_g} : im_D g 124 7 (.iload_n 1) 8 := im_D.of (by decide +kernel)
theorem D124_8 {g : im_g} : im_D g 124 8 (.laload) 9 := im_D.of (by decide +kernel)
theorem D124_9 {g : im_g} : im_D g 124 9 (.lstore_n 3) 10 := im_D.of (by decide +kernel)
theorem D124_10 {g : im_g} : im_D g 124 10 (.aload_n 0) 11 := im_D.of (by decide +kernel)
theorem D124_11 {g : im_g} : im_D g 124 11 (.getfield 55) 14 := im_D.of (by decide +kernel)
theorem D124_14 {g : im_g} : im_D g 124 14 (.getfield 63) 17 := im_D.of (by decide +kernel)
theorem D124_17 {g : im_g} : im_D g 124 17 (.iload_n 1) 18 := im_D.of (by decide +kernel)
theorem D124_18 {g : im_g} : im_D g 124 18 (.laload) 19 := im_D.of (by decide +kernel)
theorem D124_19 {g : im_g} : im_D g 124 19 (.lstore 5) 21 := im_D.of (by decide +kernel)
theorem D124_21 {g : im_g} : im_D g 124 21 (.aload_n 0) 22 := im_D.of (by decide +kernel)
theorem D124_22 {g : im_g} : im_D g 124 22 (.getfield 55) 25 := im_D.of (by decide +kernel)
theorem D124_25 {g : im_g} : im_D g 124 25 (.getfield 89) 28 := im_D.of (by decide +kernel)
theorem D124_28 {g : im_g} : im_D g 124 28 (.iload_n 1) 29 := im_D.of (by decide +kernel)
theorem D124_29 {g : im_g} : im_D g 124 29 (.iaload) 30 := im_D.of (by decide +kernel)
theorem D124_30 {g : im_g} : im_D g 124 30 (.tableswitch 267 6 35 #[169, 267, 267, 267, 267, 267, 188, 225, 235, 207, 267, 267, 267, 267, 245, 267, 267, 267, 267, 267, 267, 267, 267, 267, 267, 267, 267, 267, 134, 154]) 31 := im_D.of (by decide +kernel)
theorem D124_164 {g : im_g} : im_D g 124 164 (.aload_n 0) 165 := im_D.of (by decide +kernel)
theorem D124_165 {g : im_g} : im_D g 124 165 (.getfield 55) 168 := im_D.of (by decide +kernel)
theorem D124_168 {g : im_g} : im_D g 124 168 (.aload_n 0) 169 := im_D.of (by decide +kernel)
theorem D124_169 {g : im_g} : im_D g 124 169 (.getfield 55) 172 := im_D.of (by decide +kernel)
theorem D124_172 {g : im_g} : im_D g 124 172 (.getfield 134) 175 := im_D.of (by decide +kernel)
theorem D124_175 {g : im_g} : im_D g 124 175 (.iload_n 1) 176 := im_D.of (by decide +kernel)
theorem D124_176 {g : im_g} : im_D g 124 176 (.iaload) 177 := im_D.of (by decide +kernel)
theorem D124_177 {g : im_g} : im_D g 124 177 (.aload_n 2) 178 := im_D.of (by decide +kernel)
theorem D124_178 {g : im_g} : im_D g 124 178 (.invokevirtual 137) 181 := im_D.of (by decide +kernel)
theorem D124_181 {g : im_g} : im_D g 124 181 (.pop) 182 := im_D.of (by decide +kernel)
theorem D124_182 {g : im_g} : im_D g 124 182 (.iconst 0) 183 := im_D.of (by decide +kernel)
theorem D124_183 {g : im_g} : im_D g 124 183 (.ireturn) 184 := im_D.of (by decide +kernel)
theorem D124_184 {g : im_g} : im_D g 124 184 (.aload_n 2) 185 := im_D.of (by decide +kernel)
theorem D124_185 {g : im_g} : im_D g 124 185 (.aload_n 0) 186 := im_D.of (by decide +kernel)
theorem D124_186 {g : im_g} : im_D g 124 186 (.getfield 38) 189 := im_D.of (by decide +kernel)
theorem D124_189 {g : im_g} : im_D g 124 189 (.lload_n 3) 190 := im_D.of (by decide +kernel)
theorem D124_190 {g : im_g} : im_D g 124 190 (.lconst 0) 191 := im_D.of (by decide +kernel)
theorem D124_191 {g : im_g} : im_D g 124 191 (.invokevirtual 71) 194 := im_D.of (by decide +kernel)
theorem D124_194 {g : im_g} : im_D g 124 194 (.invokevirtual 141) 197 := im_D.of (by decide +kernel)
theorem D124_197 {g : im_g} : im_D g 124 197 (.iconst 0) 198 := im_D.of (by decide +kernel)
theorem D124_198 {g : im_g} : im_D g 124 198 (.ireturn) 199 := im_D.of (by decide +kernel)
theorem D124_199 {g : im_g} : im_D g 124 199 (.aload_n 2) 200 := im_D.of (by decide +kernel)
theorem D124_200 {g : im_g} : im_D g 124 200 (.aload_n 0) 201 := im_D.of (by decide +kernel)
theorem D124_201 {g : im_g} : im_D g 124 201 (.getfield 31) 204 := im_D.of (by decide +kernel)
theorem D124_204 {g : im_g} : im_D g 124 204 (.getfield 145) 207 := im_D.of (by decide +kernel)
theorem D124_207 {g : im_g} : im_D g 124 207 (.lload_n 3) 208 := im_D.of (by decide +kernel)
theorem D124_208 {g : im_g} : im_D g 124 208 (.lload 5) 210 := im_D.of (by decide +kernel)
theorem D124_210 {g : im_g} : im_D g 124 210 (.invokevirtual 71) 213 := im_D.of (by decide +kernel)
theorem D124_213 {g : im_g} : im_D g 124 213 (.invokevirtual 141) 216 := im_D.of (by decide +kernel)
theorem D124_216 {g : im_g} : im_D g 124 216 (.iconst 0) 217 := im_D.of (by decide +kernel)
theorem D124_217 {g : im_g} : im_D g 124 217 (.ireturn) 218 := im_D.of (by decide +kernel)
theorem D124_218 {g : im_g} : im_D g 124 218 (.aload_n 2) 219 := im_D.of (by decide +kernel)
theorem D124_219 {g : im_g} : im_D g 124 219 (.aload_n 0) 220 := im_D.of (by decide +kernel)
theorem D124_220 {g : im_g} : im_D g 124 220 (.getfield 31) 223 := im_D.of (by decide +kernel)
theorem D124_223 {g : im_g} : im_D g 124 223 (.getfield 148) 226 := im_D.of (by decide +kernel)
theorem D124_226 {g : im_g} : im_D g 124 226 (.lload_n 3) 227 := im_D.of (by decide +kernel)
theorem D124_227 {g : im_g} : im_D g 124 227 (.lload 5) 229 := im_D.of (by decide +kernel)
theorem D124_229 {g : im_g} : im_D g 124 229 (.invokevirtual 71) 232 := im_D.of (by decide +kernel)
theorem D124_232 {g : im_g} : im_D g 124 232 (.invokevirtual 141) 235 := im_D.of (by decide +kernel)
theorem D124_235 {g : im_g} : im_D g 124 235 (.iconst 0) 236 := im_D.of (by decide +kernel)
theorem D124_236 {g : im_g} : im_D g 124 236 (.ireturn) 237 := im_D.of (by decide +kernel)
theorem D124_237 {g : im_g} : im_D g 124 237 (.aload_n 2) 238 := im_D.of (by decide +kernel)
theorem D124_238 {g : im_g} : im_D g 124 238 (.aload_n 0) 239 := im_D.of (by decide +kernel)
theorem D124_239 {g : im_g} : im_D g 124 239 (.getfield 31) 242 := im_D.of (by decide +kernel)
theorem D124_242 {g : im_g} : im_D g 124 242 (.getfield 151) 245 := im_D.of (by decide +kernel)
theorem D124_245 {g : im_g} : im_D g 124 245 (.lload_n 3) 246 := im_D.of (by decide +kernel)
theorem D124_246 {g : im_g} : im_D g 124 246 (.lconst 0) 247 := im_D.of (by decide +kernel)
theorem D124_247 {g : im_g} : im_D g 124 247 (.invokevirtual 71) 250 := im_D.of (by decide +kernel)
theorem D124_250 {g : im_g} : im_D g 124 250 (.invokevirtual 141) 253 := im_D.of (by decide +kernel)
theorem D124_253 {g : im_g} : im_D g 124 253 (.iconst 0) 254 := im_D.of (by decide +kernel)
theorem D124_254 {g : im_g} : im_D g 124 254 (.ireturn) 255 := im_D.of (by decide +kernel)
theorem D124_255 {g : im_g} : im_D g 124 255 (.aload_n 2) 256 := im_D.of (by decide +kernel)
theorem D124_256 {g : im_g} : im_D g 124 256 (.aload_n 0) 257 := im_D.of (by decide +kernel)
theorem D124_257 {g : im_g} : im_D g 124 257 (.getfield 79) 260 := im_D.of (by decide +kernel)
theorem D124_260 {g : im_g} : im_D g 124 260 (.invokevirtual 154) 263 := im_D.of (by decide +kernel)
theorem D124_263 {g : im_g} : im_D g 124 263 (.iconst 0) 264 := im_D.of (by decide +kernel)
theorem D124_264 {g : im_g} : im_D g 124 264 (.ireturn) 265 := im_D.of (by decide +kernel)
theorem D124_265 {g : im_g} : im_D g 124 265 (.aload_n 2) 266 := im_D.of (by decide +kernel)
theorem D124_266 {g : im_g} : im_D g 124 266 (.aload_n 0) 267 := im_D.of (by decide +kernel)
theorem D124_267 {g : im_g} : im_D g 124 267 (.getfield 83) 270 := im_D.of (by decide +kernel)
theorem D124_270 {g : im_g} : im_D g 124 270 (.invokevirtual 154) 273 := im_D.of (by decide +kernel)
theorem D124_273 {g : im_g} : im_D g 124 273 (.iconst 0) 274 := im_D.of (by decide +kernel)
theorem D124_274 {g : im_g} : im_D g 124 274 (.ireturn) 275 := im_D.of (by decide +kernel)
theorem D124_275 {g : im_g} : im_D g 124 275 (.aload_n 0) 276 := im_D.of (by decide +kernel)
theorem D124_276 {g : im_g} : im_D g 124 276 (.getfield 31) 279 := im_D.of (by decide +kernel)
theorem D124_279 {g : im_g} : im_D g 124 279 (.getfield 148) 282 := im_D.of (by decide +kernel)
theorem D124_282 {g : im_g} : im_D g 124 282 (.lload_n 3) 283 := im_D.of (by decide +kernel)
theorem D124_283 {g : im_g} : im_D g 124 283 (.lload 5) 285 := im_D.of (by decide +kernel)
theorem D124_285 {g : im_g} : im_D g 124 285 (.invokevirtual 158) 288 := im_D.of (by decide +kernel)
theorem D124_288 {g : im_g} : im_D g 124 288 (.ifCond .lt 7) 291 := im_D.of (by decide +kernel)
theorem D124_291 {g : im_g} : im_D g 124 291 (.iconst 1) 292 := im_D.of (by decide +kernel)
theorem D124_292 {g : im_g} : im_D g 124 292 (.goto 4) 295 := im_D.of (by decide +kernel)
theorem D124_295 {g : im_g} : im_D g 124 295 (.iconst 0) 296 := im_D.of (by decide +kernel)
theorem D124_296 {g : im_g} : im_D g 124 296 (.ireturn) 297 := im_D.of (by decide +kernel)
theorem D124_297 {g : im_g} : im_D g 124 297 (.aload_n 0) 298 := im_D.of (by decide +kernel)
theorem D124_298 {g : im_g} : im_D g 124 298 (.getfield 55) 301 := im_D.of (by decide +kernel)
theorem D124_301 {g : im_g} : im_D g 124 301 (.getfield 89) 304 := im_D.of (by decide +kernel)
theorem D124_304 {g : im_g} : im_D g 124 304 (.iload_n 1) 305 := im_D.of (by decide +kernel)
theorem D124_305 {g : im_g} : im_D g 124 305 (.iaload) 306 := im_D.of (by decide +kernel)
theorem D124_306 {g : im_g} : im_D g 124 306 (.bipush 26) 308 := im_D.of (by decide +kernel)
theorem D124_308 {g : im_g} : im_D g 124 308 (.if_icmp .ne 7) 311 := im_D.of (by decide +kernel)
theorem D124_311 {g : im_g} : im_D g 124 311 (.iconst 1) 312 := im_D.of (by decide +kernel)
theorem D124_312 {g : im_g} : im_D g 124 312 (.goto 4) 315 := im_D.of (by decide +kernel)
theorem D124_315 {g : im_g} : im_D g 124 315 (.iconst 0) 316 := im_D.of (by decide +kernel)
theorem D124_316 {g : im_g} : im_D g 124 316 (.ireturn) 317 := im_D.of (by decide +kernel)
theorem D125_0 {g : im_g} : im_D g 125 0 (.aload_n 2) 1 := im_D.of (by decide +kernel)
theorem D125_1 {g : im_g} : im_D g 125 1 (.invokevirtual 59) 4 := im_D.of (by decide +kernel)
theorem D125_4 {g : im_g} : im_D g 125 4 (.iload_n 1) 5 := im_D.of (by decide +kernel)
theorem D125_5 {g : im_g} : im_D g 125 5 (.ifCond .lt 12) 8 := im_D.of (by decide +kernel)
theorem D125_8 {g : im_g} : im_D g 125 8 (.iload_n 1) 9 := im_D.of (by decide +kernel)
theorem D125_9 {g : im_g} : im_D g 125 9 (.aload_n 0) 10 := im_D.of (by decide +kernel)
theorem D125_10 {g : im_g} : im_D g 125 10 (.getfield 38) 13 := im_D.of (by decide +kernel)
theorem D125_13 {g : im_g} : im_D g 125 13 (.arraylength) 14 := im_D.of (by decide +kernel)
theorem D125_14 {g : im_g} : im_D g 125 14 (.if_icmp .lt 5) 17 := im_D.of (by decide +kernel)
theorem D125_17 {g : im_g} : im_D g 125 17 (.iload_n 1) 18 := im_D.of (by decide +kernel)
theorem D125_18 {g : im_g} : im_D g 125 18 (.ireturn) 19 := im_D.of (by decide +kernel)
theorem D125_19 {g : im_g} : im_D g 125 19 (.aload_n 2) 20 := im_D.of (by decide +kernel)
theorem D125_20 {g : im_g} : im_D g 125 20 (.aload_n 0) 21 := im_D.of (by decide +kernel)
theorem D125_21 {g : im_g} : im_D g 125 21 (.getfield 38) 24 := im_D.of (by decide +kernel)
theorem D125_24 {g : im_g} : im_D g 125 24 (.iload_n 1) 25 := im_D.of (by decide +kernel)
theorem D125_25 {g : im_g} : im_D g 125 25 (.iaload) 26 := im_D.of (by decide +kernel)
theorem D125_26 {g : im_g} : im_D g 125 26 (.invokestatic 62) 29 := im_D.of (by decide +kernel)
theorem D125_29 {g : im_g} : im_D g 125 29 (.bipush 34) 31 := im_D.of (by decide +kernel)
theorem D125_31 {g : im_g} : im_D g 125 31 (.invokestatic 68) 34 := im_D.of (by decide +kernel)
theorem D125_34 {g : im_g} : im_D g 125 34 (.putfield 48) 37 := im_D.of (by decide +kernel)
theorem D125_37 {g : im_g} : im_D g 125 37 (.aload_n 2) 38 := im_D.of (by decide +kernel)
theorem D125_38 {g : im_g} : im_D g 125 38 (.aload_n 0) 39 := im_D.of (by decide +kernel)
theorem D125_39 {g : im_g} : im_D g 125 39 (.getfield 38) 42 := im_D.of (by decide +kernel)
theorem D125_42 {g : im_g} : im_D g 125 42 (.iload_n 1) 43 := im_D.of (by decide +kernel)
theorem D125_43 {g : im_g} : im_D g 125 43 (.iaload) 44 := im_D.of (by decide +kernel)
theorem D125_44 {g : im_g} : im_D g 125 44 (.iconst 0) 45 := im_D.of (by decide +kernel)
theorem D125_45 {g : im_g} : im_D g 125 45 (.invokestatic 72) 48 := im_D.of (by decide +kernel)
theorem D125_48 {g : im_g} : im_D g 125 48 (.putfield 53) 51 := im_D.of (by decide +kernel)
theorem D125_51 {g : im_g} : im_D g 125 51 (.iconst 0) 52 := im_D.of (by decide +kernel)
theorem D125_52 {g : im_g} : im_D g 125 52 (.istore_n 3) 53 := im_D.of (by decide +kernel)
theorem D125_53 {g : im_g} : im_D g 125 53 (.iload_n 3) 54 := im_D.of (by decide +kernel)
theorem D125_54 {g : im_g} : im_D g 125 54 (.aload_n 2) 55 := im_D.of (by decide +kernel)
theorem D125_55 {g : im_g} : im_D g 125 55 (.getfield 48) 58 := im_D.of (by decide +kernel)
theorem D125_58 {g : im_g} : im_D g 125 58 (.if_icmp .ge 38) 61 := im_D.of (by decide +kernel)
theorem D125_61 {g : im_g} : im_D g 125 61 (.iload_n 1) 62 := im_D.of (by decide +kernel)
theorem D125_62 {g : im_g} : im_D g 125 62 (.iconst 1) 63 := im_D.of (by decide +kernel)
theorem D125_63 {g : im_g} : im_D g 125 63 (.iadd) 64 := im_D.of (by decide +kernel)
theorem D125_64 {g : im_g} : im_D g 125 64 (.iload_n 3) 65 := im_D.of (by decide +kernel)
theorem D125_65 {g : im_g} : im_D g 125 65 (.iadd) 66 := im_D.of (by decide +kernel)
theorem D125_66 {g : im_g} : im_D g 125 66 (.aload_n 0) 67 := im_D.of (by decide +kernel)
theorem D125_67 {g : im_g} : im_D g 125 67 (.getfield 38) 70 := im_D.of (by decide +kernel)
theorem D125_70 {g : im_g} : im_D g 125 70 (.arraylength) 71 := im_D.of (by decide +kernel)
theorem D125_71 {g : im_g} : im_D g 125 71 (.if_icmp .ge 25) 74 := im_D.of (by decide +kernel)
theorem D125_74 {g : im_g} : im_D g 125 74 (.aload_n 2) 75 := im_D.of (by decide +kernel)
theorem D125_75 {g : im_g} : im_D g 125 75 (.getfield 56) 78 := im_D.of (by decide +kernel)
theorem D125_78 {g : im_g} : im_D g 125 78 (.iload_n 3) 79 := im_D.of (by decide +kernel)
theorem D125_79 {g : im_g} : im_D g 125 79 (.aload_n 0) 80 := im_D.of (by decide +kernel)
theorem D125_80 {g : im_g} : im_D g 125 80 (.getfield 38) 83 := im_D.of (by decide +kernel)
theorem D125_83 {g : im_g} : im_D g 125 83 (.iload_n 1) 84 := im_D.of (by decide +kernel)
theorem D125_84 {g : im_g} : im_D g 125 84 (.iconst 1) 85 := im_D.of (by decide +kernel)
theorem D125_85 {g : im_g} : im_D g 125 85 (.iadd) 86 := im_D.of (by decide +kernel)
theorem D125_86 {g : im_g} : im_D g 125 86 (.iload_n 3) 87 := im_D.of (by decide +kernel)
theorem D125_87 {g : im_g} : im_D g 125 87 (.iadd) 88 := im_D.of (by decide +kernel)
theorem D125_88 {g : im_g} : im_D g 125 88 (.iaload) 89 := im_D.of (by decide +kernel)
theorem D125_89 {g : im_g} : im_D g 125 89 (.iastore) 90 := im_D.of (by decide +kernel)
theorem D125_90 {g : im_g} : im_D g 125 90 (.iinc 3 1) 93 := im_D.of (by decide +kernel)
theorem D125_93 {g : im_g} : im_D g 125 93 (.goto (-40)) 96 := im_D.of (by decide +kernel)
theorem D125_96 {g : im_g} : im_D g 125 96 (.iload_n 1) 97 := im_D.of (by decide +kernel)
theorem D125_97 {g : im_g} : im_D g 125 97 (.iconst 1) 98 := im_D.of (by decide +kernel)
theorem D125_98 {g : im_g} : im_D g 125 98 (.iadd) 99 := im_D.of (by decide +kernel)
theorem D125_99 {g : im_g} : im_D g 125 99 (.aload_n 2) 100 := im_D.of (by decide +kernel)
theorem D125_100 {g : im_g} : im_D g 125 100 (.getfield 48) 103 := im_D.of (by decide +kernel)
theorem D125_103 {g : im_g} : im_D g 125 103 (.iadd) 104 := im_D.of (by decide +kernel)
theorem D125_104 {g : im_g} : im_D g 125 104 (.ireturn) 105 := im_D.of (by decide +kernel)
theorem D127_0 {g : im_g} : im_D g 127 0 (.aload_n 0) 1 := im_D.of (by decide +kernel)
theorem D127_1 {g : im_g} : im_D g 127 1 (.invokevirtual 22) 4 := im_D.of (by decide +kernel)
theorem D127_4 {g : im_g} : im_D g 127 4 (.lload_n 1) 5 := im_D.of (by decide +kernel)
theorem D127_5 {g : im_g} : im_D g 127 5 (.lstore_n 3) 6 := im_D.of (by decide +kernel)
theorem D127_6 {g : im_g} : im_D g 127 6 (.lload_n 3) 7 := im_D.of (by decide +kernel)
theorem D127_7 {g : im_g} : im_D g 127 7 (.lconst 0) 8 := im_D.of (by decide +kernel)
theorem D127_8 {g : im_g} : im_D g 127 8 (.lcmp) 9 := im_D.of (by decide +kernel)
theorem D127_9 {g : im_g} : im_D g 127 9 (.ifCond .le 46) 12 := im_D.of (by decide +kernel)
theorem D127_12 {g : im_g} : im_D g 127 12 (.aload_n 0) 13 := im_D.of (by decide +kernel)
theorem D127_13 {g : im_g} : im_D g 127 13 (.getfield 19) 16 := im_D.of (by decide +kernel)
theorem D127_16 {g : im_g} : im_D g 127 16 (.bipush 34) 18 := im_D.of (by decide +kernel)
theorem D127_18 {g : im_g} : im_D g 127 18 (.if_icmp .ge 37) 21 := im_D.of (by decide +kernel)
theorem D127_21 {g : im_g} : im_D g 127 21 (.aload_n 0) 22 := im_D.of (by decide +kernel)
theorem D127_22 {g : im_g} : im_D g 127 22 (.getfield 9) 25 := im_D.of (by decide +kernel)
theorem D127_25 {g : im_g} : im_D g 127 25 (.aload_n 0) 26 := im_D.of (by decide +kernel)
theorem D127_26 {g : im_g} : im_D g 127 26 (.getfield 19) 29 := im_D.of (by decide +kernel)
theorem D127_29 {g : im_g} : im_D g 127 29 (.lload_n 3) 30 := im_D.of (by decide +kernel)
theorem D127_30 {g : im_g} : im_D g 127 30 (.ldc2_w 25) 33 := im_D.of (by decide +kernel)
theorem D127_33 {g : im_g} : im_D g 127 33 (.lrem) 34 := im_D.of (by decide +kernel)
theorem D127_34 {g : im_g} : im_D g 127 34 (.l2i) 35 := im_D.of (by decide +kernel)
theorem D127_35 {g : im_g} : im_D g 127 35 (.iastore) 36 := im_D.of (by decide +kernel)
theorem D127_36 {g : im_g} : im_D g 127 36 (.aload_n 0) 37 := im_D.of (by decide +kernel)
theorem D127_37 {g : im_g} : im_D g 127 37 (.dup) 38 := im_D.of (by decide +kernel)
theorem D127_38 {g : im_g} : im_D g 127 38 (.getfield 19) 41 := im_D.of (by decide +kernel)
theorem D127_41 {g : im_g} : im_D g 127 41 (.iconst 1) 42 := im_D.of (by decide +kernel)
theorem D127_42 {g : im_g} : im_D g 127 42 (.iadd) 43 := im_D.of (by decide +kernel)
theorem D127_43 {g : im_g} : im_D g 127 43 (.putfield 19) 46 := im_D.of (by decide +kernel)
theorem D127_46 {g : im_g} : im_D g 127 46 (.lload_n 3) 47 := im_D.of (by decide +kernel)
theorem D127_47 {g : im_g} : im_D g 127 47 (.ldc2_w 25) 50 := im_D.of (by decide +kernel)
theorem D127_50 {g : im_g} : im_D g 127 50 (.ldiv) 51 := im_D.of (by decide +kernel)
theorem D127_51 {g : im_g} : im_D g 127 51 (.lstore_n 3) 52 := im_D.of (by decide +kernel)
theorem D127_52 {g : im_g} : im_D g 127 52 (.goto (-46)) 55 := im_D.of (by decide +kernel)
theorem D127_55 {g : im_g} : im_D g 127 55 (.aload_n 0) 56 := im_D.of (by decide +kernel)
theorem D127_56 {g : im_g} : im_D g 127 56 (.aload_n 0) 57 := im_D.of (by decide +kernel)
theorem D127_57 {g : im_g} : im_D g 127 57 (.getfield 19) 60 := im_D.of (by decide +kernel)
theorem D127_60 {g : im_g} : im_D g 127 60 (.ifCond .ne 7) 63 := im_D.of (by decide +kernel)
theorem D127_63 {g : im_g} : im_D g 127 63 (.iconst 0) 64 := im_D.of (by decide +kernel)
theorem D127_64 {g : im_g} : im_D g 127 64 (.goto 4) 67 := im_D.of (by decide +kernel)
theorem D127_67 {g : im_g} : im_D g 127 67 (.iconst 1) 68 := im_D.of (by decide +kernel)
theorem D127_68 {g : im_g} : im_D g 127 68 (.putfield 15) 71 := im_D.of (by decide +kernel)
theorem D127_71 {g : im_g} : im_D g 127 71 (.return_) 72 := im_D.of (by decide +kernel)
theorem D128_0 {g : im_g} : im_D g 128 0 (.aload_n 0) 1 := im_D.of (by decide +kernel)
theorem D128_1 {g : im_g} : im_D g 128 1 (.getfield 11) 4 := im_D.of (by decide +kernel)
theorem D128_4 {g : im_g} : im_D g 128 4 (.iload_n 1) 5 := im_D.of (by decide +kernel)
theorem D128_5 {g : im_g} : im_D g 128 5 (.iconst 1) 6 := im_D.of (by decide +kernel)
theorem D128_6 {g : im_g} : im_D g 128 6 (.iadd) 7 := im_D.of (by decide +kernel)
theorem D128_7 {g : im_g} : im_D g 128 7 (.aaload) 8 := im_D.of (by decide +kernel)
theorem D128_8 {g : im_g} : im_D g 128 8 (.astore_n 2) 9 := im_D.of (by decide +kernel)
theorem D128_9 {g : im_g} : im_D g 128 9 (.aload_n 0) 10 := im_D.of (by decide +kernel)
theorem D128_10 {g : im_g} : im_D g 128 10 (.getfield 11) 13 := im_D.of (by decide +kernel)
theorem D128_13 {g : im_g} : im_D g 128 13 (.iload_n 1) 14 := im_D.of (by decide +kernel)
theorem D128_14 {g : im_g} : im_D g 128 14 (.iconst 1) 15 := im_D.of (by decide +kernel)
theorem D128_15 {g : im_g} : im_D g 128 15 (.iadd) 16 := im_D.of (by decide +kernel)
theorem D128_16 {g : im_g} : im_D g 128 16 (.aload_n 0) 17 := im_D.of (by decide +kernel)
theorem D128_17 {g : im_g} : im_D g 128 17 (.getfield 11) 20 := im_D.of (by decide +kernel)
theorem D128_20 {g : im_g} : im_D g 128 20 (.iload_n 1) 21 := im_D.of (by decide +kernel)
theorem D128_21 {g : im_g} : im_D g 128 21 (.aaload) 22 := im_D.of (by decide +kernel)
theorem D128_22 {g : im_g} : im_D g 128 22 (.aastore) 23 := im_D.of (by decide +kernel)
theorem D128_23 {g : im_g} : im_D g 128 23 (.aload_n 0) 24 := im_D.of (by decide +kernel)
theorem D128_24 {g : im_g} : im_D g 128 24 (.getfield 11) 27 := im_D.of (by decide +kernel)
theorem D128_27 {g : im_g} : im_D g 128 27 (.iload_n 1) 28 := im_D.of (by decide +kernel)
theorem D128_28 {g : im_g} : im_D g 128 28 (.aload_n 2) 29 := im_D.of (by decide +kernel)
theorem D128_29 {g : im_g} : im_D g 128 29 (.aastore) 30 := im_D.of (by decide +kernel)
theorem D128_30 {g : im_g} : im_D g 128 30 (.return_) 31 := im_D.of (by decide +kernel)
theorem D129_0 {g : im_g} : im_D g 129 0 (.aload_n 1) 1 := im_D.of (by decide +kernel)
theorem D129_1 {g : im_g} : im_D g 129 1 (.getfield 15) 4 := im_D.of (by decide +kernel)
theorem D129_4 {g : im_g} : im_D g 129 4 (.iload_n 2) 5 := im_D.of (by decide +kernel)
theorem D129_5 {g : im_g} : im_D g 129 5 (.imul) 6 := im_D.of (by decide +kernel)
theorem D129_6 {g : im_g} : im_D g 129 6 (.istore_n 3) 7 := im_D.of (by decide +kernel)
theorem D129_7 {g : im_g} : im_D g 129 7 (.iload_n 3) 8 := im_D.of (by decide +kernel)
theorem D129_8 {g : im_g} : im_D g 129 8 (.ifCond .ne 5) 11 := im_D.of (by decide +kernel)
theorem D129_11 {g : im_g} : im_D g 129 11 (.iconst 1) 12 := im_D.of (by decide +kernel)
theorem D129_12 {g : im_g} : im_D g 129 12 (.ireturn) 13 := im_D.of (by decide +kernel)
theorem D129_13 {g : im_g} : im_D g 129 13 (.aload_n 0) 14 := im_D.of (by decide +kernel)
theorem D129_14 {g : im_g} : im_D g 129 14 (.getfield 15) 17 := im_D.of (by decide +kernel)
theorem D129_17 {g : im_g} : im_D g 129 17 (.ifCond .eq 11) 20 := im_D.of (by decide +kernel)
theorem D129_20 {g : im_g} : im_D g 129 20 (.aload_n 0) 21 := im_D.of (by decide +kernel)
theorem D129_21 {g : im_g} : im_D g 129 21 (.getfield 15) 24 := im_D.of (by decide +kernel)
theorem D129_24 {g : im_g} : im_D g 129 24 (.iload_n 3) 25 := im_D.of (by decide +kernel)
theorem D129_25 {g : im_g} : im_D g 129 25 (.if_icmp .ne 14) 28 := im_D.of (by decide +kernel)
theorem D129_28 {g : im_g} : im_D g 129 28 (.aload_n 0) 29 := im_D.of (by decide +kernel)
theorem D129_29 {g : im_g} : im_D g 129 29 (.iload_n 3) 30 := im_D.of (by decide +kernel)
theorem D129_30 {g : im_g} : im_D g 129 30 (.putfield 15) 33 := im_D.of (by decide +kernel)
theorem D129_33 {g : im_g} : im_D g 129 33 (.aload_n 0) 34 := im_D.of (by decide +kernel)
theorem D129_34 {g : im_g} : im_D g 129 34 (.aload_n 1) 35 := im_D.of (by decide +kernel)
theorem D129_35 {g : im_g} : im_D g 129 35 (.invokevirtual 46) 38 := im_D.of (by decide +kernel)
theorem D129_38 {g : im_g} : im_D g 129 38 (.ireturn) 39 := im_D.of (by decide +kernel)
theorem D129_39 {g : im_g} : im_D g 129 39 (.aload_n 0) 40 := im_D.of (by decide +kernel)
theorem D129_40 {g : im_g} : im_D g 129 40 (.aload_n 1) 41 := im_D.of (by decide +kernel)
theorem D129_41 {g : im_g} : im_D g 129 41 (.invokevirtual 37) 44 := im_D.of (by decide +kernel)
theorem D129_44 {g : im_g} : im_D g 129 44 (.ifCond .lt 12) 47 := im_D.of (by decide +kernel)
theorem D129_47 {g : im_g} : im_D g 129 47 (.aload_n 0) 48 := im_D.of (by decide +kernel)
theorem D129_48 {g : im_g} : im_D g 129 48 (.aload_n 0) 49 := im_D.of (by decide +kernel)
theorem D129_49 {g : im_g} : im_D g 129 49 (.aload_n 1) 50 := im_D.of (by decide +kernel)
theorem D129_50 {g : im_g} : im_D g 129 50 (.invokevirtual 50) 53 := im_D.of (by decide +kernel)
theorem D129_53 {g : im_g} : im_D g 129 53 (.goto 14) 56 := im_D.of (by decide +kernel)
theorem D129_56 {g : im_g} : im_D g 129 56 (.aload_n 0) 57 := im_D.of (by decide +kernel)
theorem D129_57 {g : im_g} : im_D g 129 57 (.iload_n 3) 58 := im_D.of (by decide +kernel)
theorem D129_58 {g : im_g} : im_D g 129 58 (.putfield 15) 61 := im_D.of (by decide +kernel)
theorem D129_61 {g : im_g} : im_D g 129 61 (.aload_n 0) 62 := im_D.of (by decide +kernel)
theorem D129_62 {g : im_g} : im_D g 129 62 (.aload_n 1) 63 := im_D.of (by decide +kernel)
theorem D129_63 {g : im_g} : im_D g 129 63 (.aload_n 0) 64 := im_D.of (by decide +kernel)
theorem D129_64 {g : im_g} : im_D g 129 64 (.invokevirtual 50) 67 := im_D.of (by decide +kernel)
theorem D129_67 {g : im_g} : im_D g 129 67 (.iconst 1) 68 := im_D.of (by decide +kernel)
theorem D129_68 {g : im_g} : im_D g 129 68 (.ireturn) 69 := im_D.of (by decide +kernel)
theorem D130_0 {g : im_g} : im_D g 130 0 (.aload_n 0) 1 := im_D.of (by decide +kernel)
theorem D130_1 {g : im_g} : im_D g 130 1 (.getfield 19) 4 := im_D.of (by decide +kernel)
theorem D130_4 {g : im_g} : im_D g 130 4 (.aload_n 1) 5 := im_D.of (by decide +kernel)
theorem D130_5 {g : im_g} : im_D g 130 5 (.getfield 19) 8 := im_D.of (by decide +kernel)
theorem D130_8 {g : im_g} : im_D g 130 8 (.iadd) 9 := im_D.of (by decide +kernel)
theorem D130_9 {g : im_g} : im_D g 130 9 (.istore_n 3) 10 := im_D.of (by decide +kernel)
theorem D130_10 {g : im_g} : im_D g 130 10 (.aload_n 0) 11 := im_D.of (by decide +kernel)
theorem D130_11 {g : im_g} : im_D g 130 11 (.getfield 15) 14 := im_D.of (by decide +kernel)
theorem D130_14 {g : im_g} : im_D g 130 14 (.ifCond .eq 16) 17 := im_D.of (by decide +kernel)
theorem D130_17 {g : im_g} : im_D g 130 17 (.aload_n 1) 18 := im_D.of (by decide +kernel)
theorem D130_18 {g : im_g} : im_D g 130 18 (.getfield 15) 21 := im_D.of (by decide +kernel)
theorem D130_21 {g : im_g} : im_D g 130 21 (.ifCond .eq 9) 24 := im_D.of (by decide +kernel)
theorem D130_24 {g : im_g} : im_D g 130 24 (.iload_n 3) 25 := im_D.of (by decide +kernel)
theorem D130_25 {g : im_g} : im_D g 130 25 (.bipush 35) 27 := im_D.of (by decide +kernel)
theorem D130_27 {g : im_g} : im_D g 130 27 (.if_icmp .le 31) 30 := im_D.of (by decide +kernel)
theorem D130_30 {g : im_g} : im_D g 130 30 (.aload_n 0) 31 := im_D.of (by decide +kernel)
theorem D130_31 {g : im_g} : im_D g 130 31 (.getfield 15) 34 := im_D.of (by decide +kernel)
theorem D130_34 {g : im_g} : im_D g 130 34 (.ifCond .eq 10) 37 := im_D.of (by decide +kernel)
theorem D130_37 {g : im_g} : im_D g 130 37 (.aload_n 1) 38 := im_D.of (by decide +kernel)
theorem D130_38 {g : im_g} : im_D g 130 38 (.getfield 15) 41 := im_D.of (by decide +kernel)
theorem D130_41 {g : im_g} : im_D g 130 41 (.ifCond .ne 7) 44 := im_D.of (by decide +kernel)
theorem D130_44 {g : im_g} : im_D g 130 44 (.iconst 1) 45 := im_D.of (by decide +kernel)
theorem D130_45 {g : im_g} : im_D g 130 45 (.goto 4) 48 := im_D.of (by decide +kernel)
theorem D130_48 {g : im_g} : im_D g 130 48 (.iconst 0) 49 := im_D.of (by decide +kernel)
theorem D130_49 {g : im_g} : im_D g 130 49 (.istore 4) 51 := im_D.of (by decide +kernel)
theorem D130_51 {g : im_g} : im_D g 130 51 (.aload_n 0) 52 := im_D.of (by decide +kernel)
theorem D130_52 {g : im_g} : im_D g 130 52 (.invokevirtual 22) 55 := im_D.of (by decide +kernel)
theorem D130_55 {g : im_g} : im_D g 130 55 (.iload 4) 57 := im_D.of (by decide +kernel)
theorem D130_57 {g : im_g} : im_D g 130 57 (.ireturn) 58 := im_D.of (by decide +kernel)
theorem D130_58 {g : im_g} : im_D g 130 58 (.iconst 0) 59 := im_D.of (by decide +kernel)
theorem D130_59 {g : im_g} : im_D g 130 59 (.istore 4) 61 := im_D.of (by decide +kernel)
theorem D130_61 {g : im_g} : im_D g 130 61 (.iload 4) 63 := im_D.of (by decide +kernel)
theorem D130_63 {g : im_g} : im_D g 130 63 (.iload_n 3) 64 := im_D.of (by decide +kernel)
theorem D130_64 {g : im_g} : im_D g 130 64 (.if_icmp .ge 14) 67 := im_D.of (by decide +kernel)
theorem D130_67 {g : im_g} : im_D g 130 67 (.aload_n 2) 68 := im_D.of (by decide +kernel)
theorem D130_68 {g : im_g} : im_D g 130 68 (.iload 4) 70 := im_D.of (by decide +kernel)
theorem D130_70 {g : im_g} : im_D g 130 70 (.lconst 0) 71 := im_D.of (by decide +kernel)
theorem D130_71 {g : im_g} : im_D g 130 71 (.lastore) 72 := im_D.of (by decide +kernel)
theorem D130_72 {g : im_g} : im_D g 130 72 (.iinc 4 1) 75 := im_D.of (by decide +kernel)
theorem D130_75 {g : im_g} : im_D g 130 75 (.goto (-14)) 78 := im_D.of (by decide +kernel)
theorem D130_78 {g : im_g} : im_D g 130 78 (.iconst 0) 79 := im_D.of (by decide +kernel)
theorem D130_79 {g : im_g} : im_D g 130 79 (.istore 4) 81 := im_D.of (by decide +kernel)
theorem D130_81 {g : im_g} : im_D g 130 81 (.iload 4) 83 := im_D.of (by decide +kernel)
theorem D130_83 {g : im_g} : im_D g 130 83 (.aload_n 0) 84 := im_D.of (by decide +kernel)
theorem D130_84 {g : im_g} : im_D g 130 84 (.getfield 19) 87 := im_D.of (by decide +kernel)
theorem D130_87 {g : im_g} : im_D g 130 87 (.if_icmp .ge 92) 90 := im_D.of (by decide +kernel)
theorem D130_90 {g : im_g} : im_D g 130 90 (.lconst 0) 91 := im_D.of (by decide +kernel)
theorem D130_91 {g : im_g} : im_D g 130 91 (.lstore 5) 93 := im_D.of (by decide +kernel)
theorem D130_93 {g : im_g} : im_D g 130 93 (.iconst 0) 94 := im_D.of (by decide +kernel)
theorem D130_94 {g : im_g} : im_D g 130 94 (.istore 7) 96 := im_D.of (by decide +kernel)
theorem D130_96 {g : im_g} : im_D g 130 96 (.iload 7) 98 := im_D.of (by decide +kernel)
theorem D130_98 {g : im_g} : im_D g 130 98 (.aload_n 1) 99 := im_D.of (by decide +kernel)
theorem D130_99 {g : im_g} : im_D g 130 99 (.getfield 19) 102 := im_D.of (by decide +kernel)
theorem D130_102 {g : im_g} : im_D g 130 102 (.if_icmp .ge 60) 105 := im_D.of (by decide +kernel)
theorem D130_105 {g : im_g} : im_D g 130 105 (.aload_n 2) 106 := im_D.of (by decide +kernel)
theorem D130_106 {g : im_g} : im_D g 130 106 (.iload 4) 108 := im_D.of (by decide +kernel)
theorem D130_108 {g : im_g} : im_D g 130 108 (.iload 7) 110 := im_D.of (by decide +kernel)
theorem D130_110 {g : im_g} : im_D g 130 110 (.iadd) 111 := im_D.of (by decide +kernel)
theorem D130_111 {g : im_g} : im_D g 130 111 (.laload) 112 := im_D.of (by decide +kernel)
theorem D130_112 {g : im_g} : im_D g 130 112 (.aload_n 0) 113 := im_D.of (by decide +kernel)
theorem D130_113 {g : im_g} : im_D g 130 113 (.getfield 9) 116 := im_D.of (by decide +kernel)
theorem D130_116 {g : im_g} : im_D g 130 116 (.iload 4) 118 := im_D.of (by decide +kernel)
theorem D130_118 {g : im_g} : im_D g 130 118 (.iaload) 119 := im_D.of (by decide +kernel)
theorem D130_119 {g : im_g} : im_D g 130 119 (.i2l) 120 := im_D.of (by decide +kernel)
theorem D130_120 {g : im_g} : im_D g 130 120 (.aload_n 1) 121 := im_D.of (by decide +kernel)
theorem D130_121 {g : im_g} : im_D g 130 121 (.getfield 9) 124 := im_D.of (by decide +kernel)
theorem D130_124 {g : im_g} : im_D g 130 124 (.iload 7) 126 := im_D.of (by decide +kernel)
theorem D130_126 {g : im_g} : im_D g 130 126 (.iaload) 127 := im_D.of (by decide +kernel)
theorem D130_127 {g : im_g} : im_D g 130 127 (.i2l) 128 := im_D.of (by decide +kernel)
theorem D130_128 {g : im_g} : im_D g 130 128 (.lmul) 129 := im_D.of (by decide +kernel)
theorem D130_129 {g : im_g} : im_D g 130 129 (.ladd) 130 := im_D.of (by decide +kernel)
theorem D130_130 {g : im_g} : im_D g 130 130 (.lload 5) 132 := im_D.of (by decide +kernel)
theorem D130_132 {g : im_g} : im_D g 130 132 (.ladd) 133 := im_D.of (by decide +kernel)
theorem D130_133 {g : im_g} : im_D g 130 133 (.lstore 8) 135 := im_D.of (by decide +kernel)
theorem D130_135 {g : im_g} : im_D g 130 135 (.aload_n 2) 136 := im_D.of (by decide +kernel)
theorem D130_136 {g : im_g} : im_D g 130 136 (.iload 4) 138 := im_D.of (by decide +kernel)
theorem D130_138 {g : im_g} : im_D g 130 138 (.iload 7) 140 := im_D.of (by decide +kernel)
theorem D130_140 {g : im_g} : im_D g 130 140 (.iadd) 141 := im_D.of (by decide +kernel)
theorem D130_141 {g : im_g} : im_D g 130 141 (.lload 8) 143 := im_D.of (by decide +kernel)
theorem D130_143 {g : im_g} : im_D g 130 143 (.ldc2_w 25) 146 := im_D.of (by decide +kernel)
theorem D130_146 {g : im_g} : im_D g 130 146 (.lrem) 147 := im_D.of (by decide +kernel)
theorem D130_147 {g : im_g} : im_D g 130 147 (.lastore) 148 := im_D.of (by decide +kernel)
theorem D130_148 {g : im_g} : im_D g 130 148 (.lload 8) 150 := im_D.of (by decide +kernel)
theorem D130_150 {g : im_g} : im_D g 130 150 (.ldc2_w 25) 153 := im_D.of (by decide +kernel)
theorem D130_153 {g : im_g} : im_D g 130 153 (.ldiv) 154 := im_D.of (by decide +kernel)
theorem D130_154 {g : im_g} : im_D g 130 154 (.lstore 5) 156 := im_D.of (by decide +kernel)
theorem D130_156 {g : im_g} : im_D g 130 156 (.iinc 7 1) 159 := im_D.of (by decide +kernel)
theorem D130_159 {g : im_g} : im_D g 130 159 (.goto (-63)) 162 := im_D.of (by decide +kernel)
theorem D130_162 {g : im_g} : im_D g 130 162 (.aload_n 2) 163 := im_D.of (by decide +kernel)
theorem D130_163 {g : im_g} : im_D g 130 163 (.iload 4) 165 := im_D.of (by decide +kernel)
theorem D130_165 {g : im_g} : im_D g 130 165 (.aload_n 1) 166 := im_D.of (by decide +kernel)
theorem D130_166 {g : im_g} : im_D g 130 166 (.getfield 19) 169 := im_D.of (by decide +kernel)
theorem D130_169 {g : im_g} : im_D g 130 169 (.iadd) 170 := im_D.of (by decide +kernel)
theorem D130_170 {g : im_g} : im_D g 130 170 (.lload 5) 172 := im_D.of (by decide +kernel)
theorem D130_172 {g : im_g} : im_D g 130 172 (.lastore) 173 := im_D.of (by decide +kernel)
theorem D130_173 {g : im_g} : im_D g 130 173 (.iinc 4 1) 176 := im_D.of (by decide +kernel)
theorem D130_176 {g : im_g} : im_D g 130 176 (.goto (-95)) 179 := im_D.of (by decide +kernel)
theorem D130_179 {g : im_g} : im_D g 130 179 (.iload_n 3) 180 := im_D.of (by decide +kernel)
theorem D130_180 {g : im_g} : im_D g 130 180 (.bipush 34) 182 := im_D.of (by decide +kernel)
theorem D130_182 {g : im_g} : im_D g 130 182 (.if_icmp .le 18) 185 := im_D.of (by decide +kernel)
theorem D130_185 {g : im_g} : im_D g 130 185 (.aload_n 2) 186 := im_D.of (by decide +kernel)
theorem D130_186 {g : im_g} : im_D g 130 186 (.bipush 34) 188 := im_D.of (by decide +kernel)
theorem D130_188 {g : im_g} : im_D g 130 188 (.laload) 189 := im_D.of (by decide +kernel)
theorem D130_189 {g : im_g} : im_D g 130 189 (.lconst 0) 190 := im_D.of (by decide +kernel)
theorem D130_190 {g : im_g} : im_D g 130 190 (.lcmp) 191 := im_D.of (by decide +kernel)
theorem D130_191 {g : im_g} : im_D g 130 191 (.ifCond .eq 9) 194 := im_D.of (by decide +kernel)
theorem D130_194 {g : im_g} : im_D g 130 194 (.aload_n 0) 195 := im_D.of (by decide +kernel)
theorem D130_195 {g : im_g} : im_D g 130 195 (.invokevirtual 22) 198 := im_D.of (by decide +kernel)
theorem D130_198 {g : im_g} : im_D g 130 198 (.iconst 0) 199 := im_D.of (by decide +kernel)
theorem D130_199 {g : im_g} : im_D g 130 199 (.ireturn) 200 := im_D.of (by decide +kernel)
theorem D130_200 {g : im_g} : im_D g 130 200 (.aload_n 0) 201 := im_D.of (by decide +kernel)
theorem D130_201 {g : im_g} : im_D g 130 201 (.aload_n 0) 202 := im_D.of (by decide +kernel)
theorem D130_202 {g : im_g} : im_D g 130 202 (.getfield 15) 205 := im_D.of (by decide +kernel)
theorem D130_205 {g : im_g} : im_D g 130 205 (.aload_n 1) 206 := im_D.of (by decide +kernel)
theorem D130_206 {g : im_g} : im_D g 130 206 (.getfield 15) 209 := im_D.of (by decide +kernel)
theorem D130_209 {g : im_g} : im_D g 130 209 (.imul) 210 := im_D.of (by decide +kernel)
theorem D130_210 {g : im_g} : im_D g 130 210 (.putfield 15) 213 := im_D.of (by decide +kernel)
theorem D130_213 {g : im_g} : im_D g 130 213 (.aload_n 0) 214 := im_D.of (by decide +kernel)
theorem D130_214 {g : im_g} : im_D g 130 214 (.iload_n 3) 215 := im_D.of (by decide +kernel)
theorem D130_215 {g : im_g} : im_D g 130 215 (.bipush 34) 217 := im_D.of (by decide +kernel)
theorem D130_217 {g : im_g} : im_D g 130 217 (.invokestatic 54) 220 := im_D.of (by decide +kernel)
theorem D130_220 {g : im_g} : im_D g 130 220 (.putfield 19) 223 := im_D.of (by decide +kernel)
theorem D130_223 {g : im_g} : im_D g 130 223 (.iconst 0) 224 := im_D.of (by decide +kernel)
theorem D130_224 {g : im_g} : im_D g 130 224 (.istore 4) 226 := im_D.of (by decide +kernel)
theorem D130_226 {g : im_g} : im_D g 130 226 (.iload 4) 228 := im_D.of (by decide +kernel)
theorem D130_228 {g : im_g} : im_D g 130 228 (.aload_n 0) 229 := im_D.of (by decide +kernel)
theorem D130_229 {g : im_g} : im_D g 130 229 (.getfield 19) 232 := im_D.of (by decide +kernel)
theorem D130_232 {g : im_g} : im_D g 130 232 (.if_icmp .ge 21) 235 := im_D.of (by decide +kernel)
theorem D130_235 {g : im_g} : im_D g 130 235 (.aload_n 0) 236 := im_D.of (by decide +kernel)
theorem D130_236 {g : im_g} : im_D g 130 236 (.getfield 9) 239 := im_D.of (by decide +kernel)
theorem D130_239 {g : im_g} : im_D g 130 239 (.iload 4) 241 := im_D.of (by decide +kernel)
theorem D130_241 {g : im_g} : im_D g 130 241 (.aload_n 2) 242 := im_D.of (by decide +kernel)
theorem D130_242 {g : im_g} : im_D g 130 242 (.iload 4) 244 := im_D.of (by decide +kernel)
theorem D130_244 {g : im_g} : im_D g 130 244 (.laload) 245 := im_D.of (by decide +kernel)
theorem D130_245 {g : im_g} : im_D g 130 245 (.l2i) 246 := im_D.of (by decide +kernel)
theorem D130_246 {g : im_g} : im_D g 130 246 (.iastore) 247 := im_D.of (by decide +kernel)
theorem D130_247 {g : im_g} : im_D g 130 247 (.iinc 4 1) 250 := im_D.of (by decide +kernel)
theorem D130_250 {g : im_g} : im_D g 130 250 (.goto (-24)) 253 := im_D.of (by decide +kernel)
theorem D130_253 {g : im_g} : im_D g 130 253 (.aload_n 0) 254 := im_D.of (by decide +kernel)
theorem D130_254 {g : im_g} : im_D g 130 254 (.invokevirtual 42) 257 := im_D.of (by decide +kernel)
theorem D130_257 {g : im_g} : im_D g 130 257 (.ireturn) 258 := im_D.of (by decide +kernel)
theorem D131_0 {g : im_g} : im_D g 131 0 (.aload_n 1) 1 := im_D.of (by decide +kernel)
theorem D131_1 {g : im_g} : im_D g 131 1 (.getfield 15) 4 := im_D.of (by decide +kernel)
theorem D131_4 {g : im_g} : im_D g 131 4 (.ifCond .eq 11) 7 := im_D.of (by decide +kernel)
theorem D131_7 {g : im_g} : im_D g 131 7 (.aload_n 0) 8 := im_D.of (by decide +kernel)
theorem D131_8 {g : im_g} : im_D g 131 8 (.aload_n 1) 9 := im_D.of (by decide +kernel)
theorem D131_9 {g : im_g} : im_D g 131 9 (.invokevirtual 37) 12 := im_D.of (by decide +kernel)
theorem D131_12 {g : im_g} : im_D g 131 12 (.ifCond .ge 8) 15 := im_D.of (by decide +kernel)
theorem D131_15 {g : im_g} : im_D g 131 15 (.aload_n 0) 16 := im_D.of (by decide +kernel)
theorem D131_16 {g : im_g} : im_D g 131 16 (.invokevirtual 22) 19 := im_D.of (by decide +kernel)
theorem D131_19 {g : im_g} : im_D g 131 19 (.return_) 20 := im_D.of (by decide +kernel)
theorem D131_20 {g : im_g} : im_D g 131 20 (.aload_n 0) 21 := im_D.of (by decide +kernel)
theorem D131_21 {g : im_g} : im_D g 131 21 (.aload_n 0) 22 := im_D.of (by decide +kernel)
theorem D131_22 {g : im_g} : im_D g 131 22 (.getfield 15) 25 := im_D.of (by decide +kernel)
theorem D131_25 {g : im_g} : im_D g 131 25 (.aload_n 1) 26 := im_D.of (by decide +kernel)
theorem D131_26 {g : im_g} : im_D g 131 26 (.getfield 15) 29 := im_D.of (by decide +kernel)
theorem D131_29 {g : im_g} : im_D g 131 29 (.imul) 30 := im_D.of (by decide +kernel)
theorem D131_30 {g : im_g} : im_D g 131 30 (.putfield 15) 33 := im_D.of (by decide +kernel)
theorem D131_33 {g : im_g} : im_D g 131 33 (.aload_n 1) 34 := im_D.of (by decide +kernel)
theorem D131_34 {g : im_g} : im_D g 131 34 (.getfield 19) 37 := im_D.of (by decide +kernel)
theorem D131_37 {g : im_g} : im_D g 131 37 (.iconst 1) 38 := im_D.of (by decide +kernel)
theorem D131_38 {g : im_g} : im_D g 131 38 (.if_icmp .ne 16) 41 := im_D.of (by decide +kernel)
theorem D131_41 {g : im_g} : im_D g 131 41 (.aload_n 0) 42 := im_D.of (by decide +kernel)
theorem D131_42 {g : im_g} : im_D g 131 42 (.aload_n 1) 43 := im_D.of (by decide +kernel)
theorem D131_43 {g : im_g} : im_D g 131 43 (.getfield 9) 46 := im_D.of (by decide +kernel)
theorem D131_46 {g : im_g} : im_D g 131 46 (.iconst 0) 47 := im_D.of (by decide +kernel)
theorem D131_47 {g : im_g} : im_D g 131 47 (.iaload) 48 := im_D.of (by decide +kernel)
theorem D131_48 {g : im_g} : im_D g 131 48 (.invokevirtual 57) 51 := im_D.of (by decide +kernel)
theorem D131_51 {g : im_g} : im_D g 131 51 (.goto 9) 54 := im_D.of (by decide +kernel)
theorem D131_54 {g : im_g} : im_D g 131 54 (.aload_n 0) 55 := im_D.of (by decide +kernel)
theorem D131_55 {g : im_g} : im_D g 131 55 (.aload_n 1) 56 := im_D.of (by decide +kernel)
theorem D131_56 {g : im_g} : im_D g 131 56 (.aload_n 2) 57 := im_D.of (by decide +kernel)
theorem D131_57 {g : im_g} : im_D g 131 57 (.invokevirtual 61) 60 := im_D.of (by decide +kernel)
theorem D131_60 {g : im_g} : im_D g 131 60 (.aload_n 0) 61 := im_D.of (by decide +kernel)
theorem D131_61 {g : im_g} : im_D g 131 61 (.invokevirtual 42) 64 := im_D.of (by decide +kernel)
theorem D131_64 {g : im_g} : im_D g 131 64 (.pop) 65 := im_D.of (by decide +kernel)
theorem D131_65 {g : im_g} : im_D g 131 65 (.return_) 66 := im_D.of (by decide +kernel)
theorem D132_0 {g : im_g} : im_D g 132 0 (.iload_n 1) 1 := im_D.of (by decide +kernel)
theorem D132_1 {g : im_g} : im_D g 132 1 (.ifCond .gt 4) 4 := im_D.of (by decide +kernel)
theorem D132_4 {g : im_g} : im_D g 132 4 (.return_) 5 := im_D.of (by decide +kernel)
theorem D132_5 {g : im_g} : im_D g 132 5 (.lconst 0) 6 := im_D.of (by decide +kernel)
theorem D132_6 {g : im_g} : im_D g 132 6 (.lstore_n 2) 7 := im_D.of (by decide +kernel)
theorem D132_7 {g : im_g} : im_D g 132 7 (.aload_n 0) 8 := im_D.of (by decide +kernel)
theorem D132_8 {g : im_g} : im_D g 132 8 (.getfield 19) 11 := im_D.of (by decide +kernel)
theorem D132_11 {g : im_g} : im_D g 132 11 (.iconst 1) 12 := im_D.of (by decide +kernel)
theorem D132_12 {g : im_g} : im_D g 132 12 (.isub) 13 := im_D.of (by decide +kernel)
theorem D132_13 {g : im_g} : im_D g 132 13 (.istore 4) 15 := im_D.of (by decide +kernel)
theorem D132_15 {g : im_g} : im_D g 132 15 (.iload 4) 17 := im_D.of (by decide +kernel)
theorem D132_17 {g : im_g} : im_D g 132 17 (.ifCond .lt 44) 20 := im_D.of (by decide +kernel)
theorem D132_20 {g : im_g} : im_D g 132 20 (.lload_n 2) 21 := im_D.of (by decide +kernel)
theorem D132_21 {g : im_g} : im_D g 132 21 (.ldc2_w 25) 24 := im_D.of (by decide +kernel)
theorem D132_24 {g : im_g} : im_D g 132 24 (.lmul) 25 := im_D.of (by decide +kernel)
theorem D132_25 {g : im_g} : im_D g 132 25 (.aload_n 0) 26 := im_D.of (by decide +kernel)
theorem D132_26 {g : im_g} : im_D g 132 26 (.getfield 9) 29 := im_D.of (by decide +kernel)
theorem D132_29 {g : im_g} : im_D g 132 29 (.iload 4) 31 := im_D.of (by decide +kernel)
theorem D132_31 {g : im_g} : im_D g 132 31 (.iaload) 32 := im_D.of (by decide +kernel)
theorem D132_32 {g : im_g} : im_D g 132 32 (.i2l) 33 := im_D.of (by decide +kernel)
theorem D132_33 {g : im_g} : im_D g 132 33 (.ladd) 34 := im_D.of (by decide +kernel)
theorem D132_34 {g : im_g} : im_D g 132 34 (.lstore 5) 36 := im_D.of (by decide +kernel)
theorem D132_36 {g : im_g} : im_D g 132 36 (.aload_n 0) 37 := im_D.of (by decide +kernel)
theorem D132_37 {g : im_g} : im_D g 132 37 (.getfield 9) 40 := im_D.of (by decide +kernel)
theorem D132_40 {g : im_g} : im_D g 132 40 (.iload 4) 42 := im_D.of (by decide +kernel)
theorem D132_42 {g : im_g} : im_D g 132 42 (.lload 5) 44 := im_D.of (by decide +kernel)
theorem D132_44 {g : im_g} : im_D g 132 44 (.iload_n 1) 45 := im_D.of (by decide +kernel)
theorem D132_45 {g : im_g} : im_D g 132 45 (.i2l) 46 := im_D.of (by decide +kernel)
theorem D132_46 {g : im_g} : im_D g 132 46 (.ldiv) 47 := im_D.of (by decide +kernel)
theorem D132_47 {g : im_g} : im_D g 132 47 (.l2i) 48 := im_D.of (by decide +kernel)
theorem D132_48 {g : im_g} : im_D g 132 48 (.iastore) 49 := im_D.of (by decide +kernel)
theorem D132_49 {g : im_g} : im_D g 132 49 (.lload 5) 51 := im_D.of (by decide +kernel)
theorem D132_51 {g : im_g} : im_D g 132 51 (.iload_n 1) 52 := im_D.of (by decide +kernel)
theorem D132_52 {g : im_g} : im_D g 132 52 (.i2l) 53 := im_D.of (by decide +kernel)
theorem D132_53 {g : im_g} : im_D g 132 53 (.lrem) 54 := im_D.of (by decide +kernel)
theorem D132_54 {g : im_g} : im_D g 132 54 (.lstore_n 2) 55 := im_D.of (by decide +kernel)
theorem D132_55 {g : im_g} : im_D g 132 55 (.iinc 4 (-1)) 58 := im_D.of (by decide +kernel)
theorem D132_58 {g : im_g} : im_D g 132 58 (.goto (-43)) 61 := im_D.of (by decide +kernel)
theorem D132_61 {g : im_g} : im_D g 132 61 (.return_) 62 := im_D.of (by decide +kernel)
set_option maxRecDepth 20000 in
set_option maxHeartbeats 4000000 in
theorem k_Machine_work_0 {g : im_g} {d : Nat} {e : im_E} {M : im_M} {K : im_K} {p1 p2 : Int} (hd : 1 ≤ d) (hP : (im_i32 (p2 + 1)) ∧ (((p2 + 1) < 104 → (0 ≤ p1 ∧ p1 < 5000) ∧ im_T g (d - 1) 123 0 [some (vI (M 14 p1))] [] e M (im_ri (fun x6 e_ M5 => e = e_ ∧ (im_i32 x6) ∧ ((x6 = 0 → im_T g (d - 1) 122 0 [some (.ref 931), some (vI (p1 + 1)), some (vI (p2 + 1)), none, none, none, none, none, none, none, none] [] e M5 (im_ri (fun x10 e_ M9 => e = e_ ∧ im_T g (d - 1) 128 0 [some (.ref 931), some (vI p2), none] [] e M9 (im_r0 (fun  e_ M11 => e = e_ ∧ ((((¬ (M 14 p1) = 19 → ((¬ (M 14 p1) = 7 → (0 ≤ (p1 + 1) ∧ (p1 + 1) < 5000) ∧ ((((¬ (M 14 p1) = 16 → im_T g (d - 1) 122 0 [some (.ref 931), some (vI (M11 15 (p1 + 1))), some (vI (p2 + 1)), none, none, none, none, none, none, none, none] [] e M11 (im_ri (fun x37 e_ M36 => e = e_ ∧ (0 ≤ p2 ∧ p2 < 104) ∧ ∃ b39 : Nat, ((M36 932 p2) = (b39 : Int)) ∧ (im_num e b39) ∧ (0 ≤ (p2 + 1) ∧ (p2 + 1) < 104) ∧ ∃ b43 : Nat, ((M36 932 (p2 + 1)) = (b43 : Int)) ∧ (im_num e b43) ∧ (((M 14 p1) = 17 → (im_i32 x10) ∧ ((((¬ x10 = 0 → (im_i32 x37) ∧ ((¬ x37 = 0 → K (.inl (some (vI 1))) e M36))))) ∧ ((((x10 = 0)) ∨ ((¬ x10 = 0) ∧ (x37 = 0))) → K (.inl (some (vI 0))) e M36))) ∧ ((M 14 p1) = 18 → (im_i32 x10) ∧ ((((x10 = 0 → (im_i32 x37) ∧ ((x37 = 0 → K (.inl (some (vI 0))) e M36))))) ∧ ((((¬ x10 = 0)) ∨ ((x10 = 0) ∧ (¬ x37 = 0))) → K (.inl (some (vI 1))) e M36))) ∧ ((M 14 p1) = 8 → im_T g (d - 1) 129 0 [some (.ref b39), some (.ref b43), some (vI 1), none] [] e M36 (im_ri (fun x63 e_ M62 => e = e_ ∧ (((((M62 931 12) = 0 → (im_i32 x63) ∧ ((¬ x63 = 0 → K (.inl (some (vI 0))) e (im_u M62 931 12 0)))))) ∧ ((((¬ (M62 931 12) = 0)) ∨ (((M62 931 12) = 0) ∧ (x63 = 0))) → K (.inl (some (vI 0))) e (im_u M62 931 12 1)))))) ∧ ((M 14 p1) = 9 → im_T g (d - 1) 129 0 [some (.ref b39), some (.ref b43), some (vI (-1)), none] [] e M36 (im_ri (fun x74 e_ M73 => e = e_ ∧ (((((M73 931 12) = 0 → (im_i32 x74) ∧ ((¬ x74 = 0 → K (.inl (some (vI 0))) e (im_u M73 931 12 0)))))) ∧ ((((¬ (M73 931 12) = 0)) ∨ (((M73 931 12) = 0) ∧ (x74 = 0))) → K (.inl (some (vI 0))) e (im_u M73 931 12 1)))))) ∧ ((M 14 p1) = 10 → im_T g (d - 1) 130 0 [some (.ref b39), some (.ref b43), some (.ref 933), none, none, none, none, none, none, none] [] e M36 (im_ri (fun x85 e_ M84 => e = e_ ∧ (((((M84 931 12) = 0 → (im_i32 x85) ∧ ((¬ x85 = 0 → K (.inl (some (vI 0))) e (im_u M84 931 12 0)))))) ∧ ((((¬ (M84 931 12) = 0)) ∨ (((M84 931 12) = 0) ∧ (x85 = 0))) → K (.inl (some (vI 0))) e (im_u M84 931 12 1)))))) ∧ ((M 14 p1) = 11 → im_T g (d - 1) 131 0 [some (.ref b39), some (.ref b43), some (.ref 933)] [] e M36 (im_r0 (fun  e_ M95 => e = e_ ∧ ((¬ (M95 931 12) = 0 → K (.inl (some (vI 0))) e (im_u M95 931 12 1)) ∧ ((M95 931 12) = 0 → K (.inl (some (vI 0))) e (im_u M95 931 12 0)))))) ∧ ((M 14 p1) < 8 ∨ 18 < (M 14 p1) ∨ (M 14 p1) = 12 ∨ (M 14 p1) = 13 ∨ (M 14 p1) = 14 ∨ (M 14 p1) = 15 ∨ (M 14 p1) = 16 → im_T g (d - 1) 68 0 [some (.ref b39), some (.ref b43)] [] e M36 (im_ri (fun x102 e_ M101 => e = e_ ∧ im_T g (d - 1) 136 0 [some (vI (M 14 p1)), some (vI x102)] [] e M101 (im_ri (fun x104 e_ M103 => e = e_ ∧ (0 ≤ x104 ∧ x104 ≤ 1) ∧ K (.inl (some (vI x104))) e M103))))))))) ∧ ((M 14 p1) = 16 → (im_i32 x10) ∧ ((x10 = 0 → (0 ≤ (M11 15 (p1 + 1)) ∧ (M11 15 (p1 + 1)) < 5000)))))) ∧ (∀ x27 : Int, ((((M 14 p1) = 16) ∧ (x10 = 0) ∧ x27 = (M11 15 (M11 15 (p1 + 1)))) ∨ (((M 14 p1) = 16) ∧ (¬ x10 = 0) ∧ x27 = (M11 15 (p1 + 1)))) → im_T g (d - 1) 122 0 [some (.ref 931), some (vI x27), some (vI (p2 + 1)), none, none, none, none, none, none, none, none] [] e M11 (im_ri (fun x32 e_ M31 => e = e_ ∧ im_T g (d - 1) 128 0 [some (.ref 931), some (vI p2), none] [] e M31 (im_r0 (fun  e_ M33 => e = e_ ∧ K (.inl (some (vI 0))) e M33))))))) ∧ ((M 14 p1) = 7 → (0 ≤ p2 ∧ p2 < 104) ∧ ∃ b111 : Nat, ((M11 932 p2) = (b111 : Int)) ∧ (im_num e b111) ∧ ∃ b114 : Nat, ((M11 932 p2) = (b114 : Int)) ∧ (im_num e b114) ∧ (im_i32 (-(M11 b114 0))) ∧ K (.inl (some (vI 0))) e (im_u M11 b111 0 (-(M11 b114 0)))))) ∧ ((M 14 p1) = 19 → (im_i32 x10)))) ∧ (∀ x18 : Int, ((((M 14 p1) = 19) ∧ (¬ x10 = 0) ∧ x18 = 0) ∨ (((M 14 p1) = 19) ∧ (x10 = 0) ∧ x18 = 1)) → K (.inl (some (vI x18))) e M11))))))) ∧ (¬ x6 = 0 → (0 ≤ p2 ∧ p2 < 104) ∧ ∃ b122 : Nat, ((M5 932 p2) = (b122 : Int)) ∧ (im_num e b122) ∧ im_T g (d - 1) 124 0 [some (.ref 931), some (vI p1), some (.ref b122), none, none, none, none] [] e M5 (im_ri (fun x126 e_ M125 => e = e_ ∧ (0 ≤ x126 ∧ x126 ≤ 1) ∧ K (.inl (some (vI x126))) e M125))))))) ∧ (104 ≤ (p2 + 1) → K (.inl (some (vI 0))) e (im_u M 931 12 1)))) : im_T g d 122 0 [some (.ref 931), some (vI p1), some (vI p2), none, none, none, none, none, none, none, none] [] e M K := by
  refine im_ld (q := 1) (i := 2) D122_0 rfl rfl rfl ?_
  refine im_iconst (q := 2) D122_1 ?_
  refine im_iadd (q := 3) D122_2 ?_
  refine im_ld (q := 4) (i := 0) D122_3 rfl rfl rfl ?_
  refine im_gfR (q := 7) (b := 932) D122_4 (im_fl cn_122 fl_2_11) sf_931 rfl rfl tR_2_1 rfl ?_
  refine im_alen (q := 8) D122_7 sf_932 (by decide) ?_
  obtain ⟨hg1, hP⟩ := hP
  refine im_icmp (q := 11) (t := 18) D122_8 rfl hg1 (by decide) (fun hc2 => ?_) (fun hc2 => ?_)
  · replace hP := hP.1 hc2
    refine im_ld (q := 19) (i := 0) D122_18 rfl rfl rfl ?_
    refine im_gfR (q := 22) (b := 13) D122_19 (im_fl cn_122 fl_2_55) sf_931 rfl rfl tR_2_0 rfl ?_
    refine im_gfR (q := 25) (b := 14) D122_22 (im_fl cn_122 fl_2_89) sf_13 rfl rfl tR_5_0 rfl ?_
    refine im_ld (q := 26) (i := 1) D122_25 rfl rfl rfl ?_
    obtain ⟨hg3, hP⟩ := hP
    refine im_rng (j := p1) sf_14 hg3.1 hg3.2 (fun hr4 => ?_)
    refine im_iald (q := 27) D122_26 sf_14 hg3.1 hg3.2 (by decide) rfl ?_
    refine im_st1 (q := 28) (i := 3) (L' := [some (.ref 931), some (vI p1), some (vI p2), some (vI (M 14 p1)), none, none, none, none, none, none, none]) D122_27 (Or.inl ⟨_, rfl, rfl⟩) (Nat.le_of_ble_eq_true rfl) rfl ?_
    refine im_ld (q := 29) (i := 3) D122_28 rfl rfl rfl ?_
    refine im_callS (q := 32) (kd := 0) (y := 123) (n := 1) (z := 2) (vs := [vI (M 14 p1)]) (r := []) (L2 := [some (vI (M 14 p1))]) D122_29 rfl (im_cal cn_122 cl_2_93) (Or.inl rfl) rfl rfl rfl rfl rfl hd ⟨rfl, trivial⟩ ?_
    refine hP.mono ?_
    rintro _ e129 M5 ⟨x6, rfl, rfl, hP⟩
    refine im_bkS ?_
    obtain ⟨hg7, hP⟩ := hP
    refine im_ifc (q := 35) (t := 47) D122_32 rfl hg7 (fun hc8 => ?_) (fun hc8 => ?_)
    · replace hP := hP.1 hc8
      refine im_ld (q := 48) (i := 1) D122_47 rfl rfl rfl ?_
      refine im_iconst (q := 49) D122_48 ?_
      refine im_iadd (q := 50) D122_49 ?_
      refine im_st1 (q := 52) (i := 4) (L' := [some (.ref 931), some (vI p1), some (vI p2), some (vI (M 14 p1)), some (vI (p1 + 1)), none, none, none, none, none, none]) D122_50 (Or.inr rfl) (Nat.le_of_ble_eq_true rfl) rfl ?_
      refine im_ld (q := 53) (i := 0) D122_52 rfl rfl rfl ?_
      refine im_ld (q := 55) (i := 4) D122_53 rfl rfl rfl ?_
      refine im_ld (q := 56) (i := 2) D122_55 rfl rfl rfl ?_
      refine im_iconst (q := 57) D122_56 ?_
      refine im_iadd (q := 58) D122_57 ?_
      refine im_callV (q := 61) (kd := 1) (y := 122) (n := 2) (ci := 2) (a := 931) (vs := [.ref 931, vI (p1 + 1), vI (p2 + 1)]) (r := []) (L2 := [some (.ref 931), some (vI (p1 + 1)), some (vI (p2 + 1)), none, none, none, none, none, none, none, none]) D122_58 (im_cal cn_122 cl_2_101) (Or.inl rfl) rfl sf_931 rfl rfl rfl rfl hd ⟨rfl, rfl, rfl, trivial⟩ ?_
      refine hP.mono ?_
      rintro _ e120 M9 ⟨x10, rfl, rfl, hP⟩
      refine im_bkS ?_
      refine im_st1 (q := 63) (i := 5) (L' := [some (.ref 931), some (vI p1), some (vI p2), some (vI (M 14 p1)), some (vI (p1 + 1)), some (vI x10), none, none, none, none, none]) D122_61 (Or.inr rfl) (Nat.le_of_ble_eq_true rfl) rfl ?_
      refine im_ld (q := 64) (i := 0) D122_63 rfl rfl rfl ?_
      refine im_ld (q := 65) (i := 2) D122_64 rfl rfl rfl ?_
      refine im_callV (q := 68) (kd := 1) (y := 128) (n := 1) (ci := 2) (a := 931) (vs := [.ref 931, vI p2]) (r := []) (L2 := [some (.ref 931), some (vI p2), none]) D122_65 (im_cal cn_122 cl_2_105) (Or.inl rfl) rfl sf_931 rfl rfl rfl rfl hd ⟨rfl, rfl, trivial⟩ ?_
      refine hP.mono ?_
      rintro _ e119 M11 ⟨rfl, rfl, hP⟩
      refine im_bkN ?_
      refine im_ld (q := 69) (i := 3) D122_68 rfl rfl rfl ?_
      refine im_bipush (q := 71) D122_69 rfl ?_
      obtain ⟨hP, hJ19⟩ := hP
      have kJ20 : ∀ x18 : Int, ((((M 14 p1) = 19) ∧ (¬ x10 = 0) ∧ x18 = 0) ∨ (((M 14 p1) = 19) ∧ (x10 = 0) ∧ x18 = 1)) → im_T g d 122 84 [none, none, none, none, none, none, none, none, none, none, none] [vI x18] e M11 K := by
        intro x18 hx21
        have hP := hJ19 x18 hx21
        exact im_zret (q := 85) D122_84 rfl (by clear hP; omega) hP
      refine im_icmp (q := 74) (t := 85) D122_71 rfl hr4 (by decide) (fun hc12 => ?_) (fun hc12 => ?_)
      · replace hP := hP.1 hc12
        refine im_ld (q := 86) (i := 3) D122_85 rfl rfl rfl ?_
        refine im_bipush (q := 88) D122_86 rfl ?_
        refine im_icmp (q := 91) (t := 112) D122_88 rfl hr4 (by decide) (fun hc13 => ?_) (fun hc13 => ?_)
        · replace hP := hP.1 hc13
          refine im_ld (q := 113) (i := 0) D122_112 rfl rfl rfl ?_
          refine im_gfR (q := 116) (b := 13) D122_113 (im_fl cn_122 fl_2_55) sf_931 rfl rfl tR_2_0 rfl ?_
          refine im_gfR (q := 119) (b := 15) D122_116 (im_fl cn_122 fl_2_112) sf_13 rfl rfl tR_5_1 rfl ?_
          refine im_ld (q := 121) (i := 4) D122_119 rfl rfl rfl ?_
          obtain ⟨hg14, hP⟩ := hP
          refine im_rng (j := (p1 + 1)) sf_15 hg14.1 hg14.2 (fun hr15 => ?_)
          refine im_iald (q := 122) D122_121 sf_15 hg14.1 hg14.2 (by decide) rfl ?_
          refine im_st1 (q := 124) (i := 6) (L' := [some (.ref 931), some (vI p1), some (vI p2), some (vI (M 14 p1)), some (vI (p1 + 1)), some (vI x10), some (vI (M11 15 (p1 + 1))), none, none, none, none]) D122_122 (Or.inr rfl) (Nat.le_of_ble_eq_true rfl) rfl ?_
          refine im_ld (q := 125) (i := 3) D122_124 rfl rfl rfl ?_
          refine im_bipush (q := 127) D122_125 rfl ?_
          obtain ⟨hP, hJ28⟩ := hP
          have kJ29 : ∀ x27 : Int, ((((M 14 p1) = 16) ∧ (x10 = 0) ∧ x27 = (M11 15 (M11 15 (p1 + 1)))) ∨ (((M 14 p1) = 16) ∧ (¬ x10 = 0) ∧ x27 = (M11 15 (p1 + 1)))) → im_T g d 122 151 [some (.ref 931), none, some (vI p2), none, none, none, none, none, none, none, none] [vI x27, .ref 931] e M11 K := by
            intro x27 hx30
            have hP := hJ28 x27 hx30
            refine im_ld (q := 152) (i := 2) D122_151 rfl rfl rfl ?_
            refine im_iconst (q := 153) D122_152 ?_
            refine im_iadd (q := 154) D122_153 ?_
            refine im_callV (q := 157) (kd := 1) (y := 122) (n := 2) (ci := 2) (a := 931) (vs := [.ref 931, vI x27, vI (p2 + 1)]) (r := []) (L2 := [some (.ref 931), some (vI x27), some (vI (p2 + 1)), none, none, none, none, none, none, none, none]) D122_154 (im_cal cn_122 cl_2_101) (Or.inl rfl) rfl sf_931 rfl rfl rfl rfl hd ⟨rfl, rfl, rfl, trivial⟩ ?_
            refine hP.mono ?_
            rintro _ e35 M31 ⟨x32, rfl, rfl, hP⟩
            refine im_bkS ?_
            refine im_pop (q := 158) D122_157 rfl ?_
            refine im_ld (q := 159) (i := 0) D122_158 rfl rfl rfl ?_
            refine im_ld (q := 160) (i := 2) D122_159 rfl rfl rfl ?_
            refine im_callV (q := 163) (kd := 1) (y := 128) (n := 1) (ci := 2) (a := 931) (vs := [.ref 931, vI p2]) (r := []) (L2 := [some (.ref 931), some (vI p2), none]) D122_160 (im_cal cn_122 cl_2_105) (Or.inl rfl) rfl sf_931 rfl rfl rfl rfl hd ⟨rfl, rfl, trivial⟩ ?_
            refine hP.mono ?_
            rintro _ e34 M33 ⟨rfl, rfl, hP⟩
            refine im_bkN ?_
            refine im_iconst (q := 164) D122_163 ?_
            exact im_zret (q := 165) D122_164 rfl (by decide) hP
          refine im_icmp (q := 130) (t := 165) D122_127 rfl hr4 (by decide) (fun hc22 => ?_) (fun hc22 => ?_)
          · replace hP := hP.1 hc22
            refine im_ld (q := 166) (i := 0) D122_165 rfl rfl rfl ?_
            refine im_ld (q := 168) (i := 6) D122_166 rfl rfl rfl ?_
            refine im_ld (q := 169) (i := 2) D122_168 rfl rfl rfl ?_
            refine im_iconst (q := 170) D122_169 ?_
            refine im_iadd (q := 171) D122_170 ?_
            refine im_callV (q := 174) (kd := 1) (y := 122) (n := 2) (ci := 2) (a := 931) (vs := [.ref 931, vI (M11 15 (p1 + 1)), vI (p2 + 1)]) (r := []) (L2 := [some (.ref 931), some (vI (M11 15 (p1 + 1))), some (vI (p2 + 1)), none, none, none, none, none, none, none, none]) D122_171 (im_cal cn_122 cl_2_101) (Or.inl rfl) rfl sf_931 rfl rfl rfl rfl hd ⟨rfl, rfl, rfl, trivial⟩ ?_
            refine hP.mono ?_
            rintro _ e109 M36 ⟨x37, rfl, rfl, hP⟩
            refine im_bkS ?_
            refine im_st1 (q := 176) (i := 7) (L' := [some (.ref 931), some (vI p1), some (vI p2), some (vI (M 14 p1)), some (vI (p1 + 1)), some (vI x10), some (vI (M11 15 (p1 + 1))), some (vI x37), none, none, none]) D122_174 (Or.inr rfl) (Nat.le_of_ble_eq_true rfl) rfl ?_
            refine im_ld (q := 177) (i := 0) D122_176 rfl rfl rfl ?_
            refine im_gfR (q := 180) (b := 932) D122_177 (im_fl cn_122 fl_2_11) sf_931 rfl rfl tR_2_1 rfl ?_
            refine im_ld (q := 181) (i := 2) D122_180 rfl rfl rfl ?_
            obtain ⟨hg38, hP⟩ := hP
            obtain ⟨b39, hb40, hP⟩ := hP
            obtain ⟨hb41, hP⟩ := hP
            refine im_aald (q := 182) D122_181 sf_932 (Or.inl rfl) hg38.1 hg38.2 (by decide) hb40 ?_
            refine im_stR (q := 184) (i := 8) (L' := [some (.ref 931), some (vI p1), some (vI p2), some (vI (M 14 p1)), some (vI (p1 + 1)), some (vI x10), some (vI (M11 15 (p1 + 1))), some (vI x37), some (.ref b39), none, none]) D122_182 (Or.inr rfl) (Nat.le_of_ble_eq_true rfl) rfl ?_
            refine im_ld (q := 185) (i := 0) D122_184 rfl rfl rfl ?_
            refine im_gfR (q := 188) (b := 932) D122_185 (im_fl cn_122 fl_2_11) sf_931 rfl rfl tR_2_1 rfl ?_
            refine im_ld (q := 189) (i := 2) D122_188 rfl rfl rfl ?_
            refine im_iconst (q := 190) D122_189 ?_
            refine im_iadd (q := 191) D122_190 ?_
            obtain ⟨hg42, hP⟩ := hP
            obtain ⟨b43, hb44, hP⟩ := hP
            obtain ⟨hb45, hP⟩ := hP
            refine im_aald (q := 192) D122_191 sf_932 (Or.inl rfl) hg42.1 hg42.2 (by decide) hb44 ?_
            refine im_stR (q := 194) (i := 9) (L' := [some (.ref 931), some (vI p1), some (vI p2), some (vI (M 14 p1)), some (vI (p1 + 1)), some (vI x10), some (vI (M11 15 (p1 + 1))), some (vI x37), some (.ref b39), some (.ref b43), none]) D122_192 (Or.inr rfl) (Nat.le_of_ble_eq_true rfl) rfl ?_
            refine im_iconst (q := 195) D122_194 ?_
            refine im_st1 (q := 197) (i := 10) (L' := [some (.ref 931), some (vI p1), some (vI p2), some (vI (M 14 p1)), some (vI (p1 + 1)), some (vI x10), some (vI (M11 15 (p1 + 1))), some (vI x37), some (.ref b39), some (.ref b43), some (vI 1)]) D122_195 (Or.inr rfl) (Nat.le_of_ble_eq_true rfl) rfl ?_
            refine im_ld (q := 198) (i := 3) D122_197 rfl rfl rfl ?_
            by_cases hc53 : (M 14 p1) = 17
            · refine im_tsw (q := 199) (t := 256) D122_198 hr4 (fun _ => by rcases hc53 with hc53 <;> (rw [hc53]; rfl)) (by rcases hc53 with hc53 <;> (rw [hc53]; rfl)) ?_
              replace hP := hP.1 hc53
              refine im_ld (q := 258) (i := 5) D122_256 rfl rfl rfl ?_
              obtain ⟨hg46, hP⟩ := hP
              obtain ⟨hP, hJ50⟩ := hP
              have kJ51 : (((x10 = 0)) ∨ ((¬ x10 = 0) ∧ (x37 = 0))) → im_T g d 122 270 [none, none, none, none, none, none, none, none, none, none, none] [] e M36 K := by
                intro  hx52
                have hP := hJ50  hx52
                refine im_iconst (q := 271) D122_270 ?_
                exact im_zret (q := 272) D122_271 rfl (by decide) hP
              refine im_ifc (q := 261) (t := 270) D122_258 rfl hg46 (fun hc47 => ?_) (fun hc47 => ?_)
              · exact (kJ51  (Or.inl hc47)).wk trivial
              · replace hP := hP hc47
                refine im_ld (q := 263) (i := 7) D122_261 rfl rfl rfl ?_
                obtain ⟨hg48, hP⟩ := hP
                refine im_ifc (q := 266) (t := 270) D122_263 rfl hg48 (fun hc49 => ?_) (fun hc49 => ?_)
                · exact (kJ51  (Or.inr ⟨hc47, hc49⟩)).wk trivial
                · replace hP := hP hc49
                  refine im_iconst (q := 267) D122_266 ?_
                  refine im_goto (q := 270) (t := 271) D122_267 rfl ?_
                  exact im_zret (q := 272) D122_271 rfl (by decide) hP
            by_cases hc61 : (M 14 p1) = 18
            · refine im_tsw (q := 199) (t := 272) D122_198 hr4 (fun _ => by rcases hc61 with hc61 <;> (rw [hc61]; rfl)) (by rcases hc61 with hc61 <;> (rw [hc61]; rfl)) ?_
              replace hP := hP.2.1 hc61
              refine im_ld (q := 274) (i := 5) D122_272 rfl rfl rfl ?_
              obtain ⟨hg54, hP⟩ := hP
              obtain ⟨hP, hJ58⟩ := hP
              have kJ59 : (((¬ x10 = 0)) ∨ ((x10 = 0) ∧ (¬ x37 = 0))) → im_T g d 122 282 [none, none, none, none, none, none, none, none, none, none, none] [] e M36 K := by
                intro  hx60
                have hP := hJ58  hx60
                refine im_iconst (q := 283) D122_282 ?_
                refine im_goto (q := 286) (t := 287) D122_283 rfl ?_
                exact im_zret (q := 288) D122_287 rfl (by decide) hP
              refine im_ifc (q := 277) (t := 282) D122_274 rfl hg54 (fun hc55 => ?_) (fun hc55 => ?_)
              · exact (kJ59  (Or.inl hc55)).wk trivial
              · replace hP := hP (Decidable.not_not.mp hc55)
                refine im_ld (q := 279) (i := 7) D122_277 rfl rfl rfl ?_
                obtain ⟨hg56, hP⟩ := hP
                refine im_ifc (q := 282) (t := 286) D122_279 rfl hg56 (fun hc57 => ?_) (fun hc57 => ?_)
                · replace hP := hP hc57
                  refine im_iconst (q := 287) D122_286 ?_
                  exact im_zret (q := 288) D122_287 rfl (by decide) hP
                · exact (kJ59  (Or.inr ⟨(Decidable.not_not.mp hc55), hc57⟩)).wk trivial
            by_cases hc72 : (M 14 p1) = 8
            · refine im_tsw (q := 199) (t := 288) D122_198 hr4 (fun _ => by rcases hc72 with hc72 <;> (rw [hc72]; rfl)) (by rcases hc72 with hc72 <;> (rw [hc72]; rfl)) ?_
              replace hP := hP.2.2.1 hc72
              refine im_ld (q := 290) (i := 8) D122_288 rfl rfl rfl ?_
              refine im_ld (q := 292) (i := 9) D122_290 rfl rfl rfl ?_
              refine im_iconst (q := 293) D122_292 ?_
              refine im_callV (q := 296) (kd := 1) (y := 129) (n := 2) (ci := 3) (a := b39) (vs := [.ref b39, .ref b43, vI 1]) (r := []) (L2 := [some (.ref b39), some (.ref b43), some (vI 1), none]) D122_293 (im_cal cn_122 cl_2_115) (Or.inl rfl) rfl hb41.1 rfl rfl rfl rfl hd ⟨rfl, rfl, rfl, trivial⟩ ?_
              refine hP.mono ?_
              rintro _ e71 M62 ⟨x63, rfl, rfl, hP⟩
              refine im_bkS ?_
              refine im_st1 (q := 298) (i := 10) (L' := [some (.ref 931), some (vI p1), some (vI p2), some (vI (M 14 p1)), some (vI (p1 + 1)), some (vI x10), some (vI (M11 15 (p1 + 1))), some (vI x37), some (.ref b39), some (.ref b43), some (vI x63)]) D122_296 (Or.inr rfl) (Nat.le_of_ble_eq_true rfl) rfl ?_
              refine im_goto (q := 301) (t := 356) D122_298 rfl ?_
              refine im_ld (q := 357) (i := 0) D122_356 rfl rfl rfl ?_
              refine im_ld (q := 358) (i := 0) D122_357 rfl rfl rfl ?_
              refine im_rng (j := 12) sf_931 (by decide) (by decide) (fun hr64 => ?_)
              refine im_gfI (q := 361) D122_358 (im_fl cn_122 fl_2_86) sf_931 rfl rfl tI_2_12 rfl ?_
              obtain ⟨hP, hJ68⟩ := hP
              have kJ69 : (((¬ (M62 931 12) = 0)) ∨ (((M62 931 12) = 0) ∧ (x63 = 0))) → im_T g d 122 369 [none, none, none, none, none, none, none, none, none, none, none] [.ref 931] e M62 K := by
                intro  hx70
                have hP := hJ68  hx70
                refine im_iconst (q := 370) D122_369 ?_
                refine im_goto (q := 373) (t := 374) D122_370 rfl ?_
                refine im_pfZ (q := 377) D122_374 (im_fl cn_122 fl_2_86) sf_931 rfl rfl tz_2_12 (by decide) ?_
                refine im_iconst (q := 378) D122_377 ?_
                exact im_zret (q := 379) D122_378 rfl (by decide) hP
              refine im_ifc (q := 364) (t := 369) D122_361 rfl (im_z32 hr64) (fun hc65 => ?_) (fun hc65 => ?_)
              · exact (kJ69  (Or.inl hc65)).wk trivial
              · replace hP := hP (Decidable.not_not.mp hc65)
                refine im_ld (q := 366) (i := 10) D122_364 rfl rfl rfl ?_
                obtain ⟨hg66, hP⟩ := hP
                refine im_ifc (q := 369) (t := 373) D122_366 rfl hg66 (fun hc67 => ?_) (fun hc67 => ?_)
                · replace hP := hP hc67
                  refine im_iconst (q := 374) D122_373 ?_
                  refine im_pfZ (q := 377) D122_374 (im_fl cn_122 fl_2_86) sf_931 rfl rfl tz_2_12 (by decide) ?_
                  refine im_iconst (q := 378) D122_377 ?_
                  exact im_zret (q := 379) D122_378 rfl (by decide) hP
                · exact (kJ69  (Or.inr ⟨(Decidable.not_not.mp hc65), (Decidable.not_not.mp hc67)⟩)).wk trivial
            by_cases hc83 : (M 14 p1) = 9
            · refine im_tsw (q := 199) (t := 301) D122_198 hr4 (fun _ => by rcases hc83 with hc83 <;> (rw [hc83]; rfl)) (by rcases hc83 with hc83 <;> (rw [hc83]; rfl)) ?_
              replace hP := hP.2.2.2.1 hc83
              refine im_ld (q := 303) (i := 8) D122_301 rfl rfl rfl ?_
              refine im_ld (q := 305) (i := 9) D122_303 rfl rfl rfl ?_
              refine im_iconst (q := 306) D122_305 ?_
              refine im_callV (q := 309) (kd := 1) (y := 129) (n := 2) (ci := 3) (a := b39) (vs := [.ref b39, .ref b43, vI (-1)]) (r := []) (L2 := [some (.ref b39), some (.ref b43), some (vI (-1)), none]) D122_306 (im_cal cn_122 cl_2_115) (Or.inl rfl) rfl hb41.1 rfl rfl rfl rfl hd ⟨rfl, rfl, rfl, trivial⟩ ?_
              refine hP.mono ?_
              rintro _ e82 M73 ⟨x74, rfl, rfl, hP⟩
              refine im_bkS ?_
              refine im_st1 (q := 311) (i := 10) (L' := [some (.ref 931), some (vI p1), some (vI p2), some (vI (M 14 p1)), some (vI (p1 + 1)), some (vI x10), some (vI (M11 15 (p1 + 1))), some (vI x37), some (.ref b39), some (.ref b43), some (vI x74)]) D122_309 (Or.inr rfl) (Nat.le_of_ble_eq_true rfl) rfl ?_
              refine im_goto (q := 314) (t := 356) D122_311 rfl ?_
              refine im_ld (q := 357) (i := 0) D122_356 rfl rfl rfl ?_
              refine im_ld (q := 358) (i := 0) D122_357 rfl rfl rfl ?_
              refine im_rng (j := 12) sf_931 (by decide) (by decide) (fun hr75 => ?_)
              refine im_gfI (q := 361) D122_358 (im_fl cn_122 fl_2_86) sf_931 rfl rfl tI_2_12 rfl ?_
              obtain ⟨hP, hJ79⟩ := hP
              have kJ80 : (((¬ (M73 931 12) = 0)) ∨ (((M73 931 12) = 0) ∧ (x74 = 0))) → im_T g d 122 369 [none, none, none, none, none, none, none, none, none, none, none] [.ref 931] e M73 K := by
                intro  hx81
                have hP := hJ79  hx81
                refine im_iconst (q := 370) D122_369 ?_
                refine im_goto (q := 373) (t := 374) D122_370 rfl ?_
                refine im_pfZ (q := 377) D122_374 (im_fl cn_122 fl_2_86) sf_931 rfl rfl tz_2_12 (by decide) ?_
                refine im_iconst (q := 378) D122_377 ?_
                exact im_zret (q := 379) D122_378 rfl (by decide) hP
              refine im_ifc (q := 364) (t := 369) D122_361 rfl (im_z32 hr75) (fun hc76 => ?_) (fun hc76 => ?_)
              · exact (kJ80  (Or.inl hc76)).wk trivial
              · replace hP := hP (Decidable.not_not.mp hc76)
                refine im_ld (q := 366) (i := 10) D122_364 rfl rfl rfl ?_
                obtain ⟨hg77, hP⟩ := hP
                refine im_ifc (q := 369) (t := 373) D122_366 rfl hg77 (fun hc78 => ?_) (fun hc78 => ?_)
                · replace hP := hP hc78
                  refine im_iconst (q := 374) D122_373 ?_
                  refine im_pfZ (q := 377) D122_374 (im_fl cn_122 fl_2_86) sf_931 rfl rfl tz_2_12 (by decide) ?_
                  refine im_iconst (q := 378) D122_377 ?_
                  exact im_zret (q := 379) D122_378 rfl (by decide) hP
                · exact (kJ80  (Or.inr ⟨(Decidable.not_not.mp hc76), (Decidable.not_not.mp hc78)⟩)).wk trivial
            by_cases hc94 : (M 14 p1) = 10
            · refine im_tsw (q := 199) (t := 314) D122_198 hr4 (fun _ => by rcases hc94 with hc94 <;> (rw [hc94]; rfl)) (by rcases hc94 with hc94 <;> (rw [hc94]; rfl)) ?_
              replace hP := hP.2.2.2.2.1 hc94
              refine im_ld (q := 316) (i := 8) D122_314 rfl rfl rfl ?_
              refine im_ld (q := 318) (i := 9) D122_316 rfl rfl rfl ?_
              refine im_ld (q := 319) (i := 0) D122_318 rfl rfl rfl ?_
              refine im_gfR (q := 322) (b := 933) D122_319 (im_fl cn_122 fl_2_17) sf_931 rfl rfl tR_2_2 rfl ?_
              refine im_callV (q := 325) (kd := 1) (y := 130) (n := 2) (ci := 3) (a := b39) (vs := [.ref b39, .ref b43, .ref 933]) (r := []) (L2 := [some (.ref b39), some (.ref b43), some (.ref 933), none, none, none, none, none, none, none]) D122_322 (im_cal cn_122 cl_2_119) (Or.inl rfl) rfl hb41.1 rfl rfl rfl rfl hd ⟨rfl, rfl, rfl, trivial⟩ ?_
              refine hP.mono ?_
              rintro _ e93 M84 ⟨x85, rfl, rfl, hP⟩
              refine im_bkS ?_
              refine im_st1 (q := 327) (i := 10) (L' := [some (.ref 931), some (vI p1), some (vI p2), some (vI (M 14 p1)), some (vI (p1 + 1)), some (vI x10), some (vI (M11 15 (p1 + 1))), some (vI x37), some (.ref b39), some (.ref b43), some (vI x85)]) D122_325 (Or.inr rfl) (Nat.le_of_ble_eq_true rfl) rfl ?_
              refine im_goto (q := 330) (t := 356) D122_327 rfl ?_
              refine im_ld (q := 357) (i := 0) D122_356 rfl rfl rfl ?_
              refine im_ld (q := 358) (i := 0) D122_357 rfl rfl rfl ?_
              refine im_rng (j := 12) sf_931 (by decide) (by decide) (fun hr86 => ?_)
              refine im_gfI (q := 361) D122_358 (im_fl cn_122 fl_2_86) sf_931 rfl rfl tI_2_12 rfl ?_
              obtain ⟨hP, hJ90⟩ := hP
              have kJ91 : (((¬ (M84 931 12) = 0)) ∨ (((M84 931 12) = 0) ∧ (x85 = 0))) → im_T g d 122 369 [none, none, none, none, none, none, none, none, none, none, none] [.ref 931] e M84 K := by
                intro  hx92
                have hP := hJ90  hx92
                refine im_iconst (q := 370) D122_369 ?_
                refine im_goto (q := 373) (t := 374) D122_370 rfl ?_
                refine im_pfZ (q := 377) D122_374 (im_fl cn_122 fl_2_86) sf_931 rfl rfl tz_2_12 (by decide) ?_
                refine im_iconst (q := 378) D122_377 ?_
                exact im_zret (q := 379) D122_378 rfl (by decide) hP
              refine im_ifc (q := 364) (t := 369) D122_361 rfl (im_z32 hr86) (fun hc87 => ?_) (fun hc87 => ?_)
              · exact (kJ91  (Or.inl hc87)).wk trivial
              · replace hP := hP (Decidable.not_not.mp hc87)
                refine im_ld (q := 366) (i := 10) D122_364 rfl rfl rfl ?_
                obtain ⟨hg88, hP⟩ := hP
                refine im_ifc (q := 369) (t := 373) D122_366 rfl hg88 (fun hc89 => ?_) (fun hc89 => ?_)
                · replace hP := hP hc89
                  refine im_iconst (q := 374) D122_373 ?_
                  refine im_pfZ (q := 377) D122_374 (im_fl cn_122 fl_2_86) sf_931 rfl rfl tz_2_12 (by decide) ?_
                  refine im_iconst (q := 378) D122_377 ?_
                  exact im_zret (q := 379) D122_378 rfl (by decide) hP
                · exact (kJ91  (Or.inr ⟨(Decidable.not_not.mp hc87), (Decidable.not_not.mp hc89)⟩)).wk trivial
            by_cases hc100 : (M 14 p1) = 11
            · refine im_tsw (q := 199) (t := 330) D122_198 hr4 (fun _ => by rcases hc100 with hc100 <;> (rw [hc100]; rfl)) (by rcases hc100 with hc100 <;> (rw [hc100]; rfl)) ?_
              replace hP := hP.2.2.2.2.2.1 hc100
              refine im_ld (q := 332) (i := 8) D122_330 rfl rfl rfl ?_
              refine im_ld (q := 334) (i := 9) D122_332 rfl rfl rfl ?_
              refine im_ld (q := 335) (i := 0) D122_334 rfl rfl rfl ?_
              refine im_gfR (q := 338) (b := 933) D122_335 (im_fl cn_122 fl_2_17) sf_931 rfl rfl tR_2_2 rfl ?_
              refine im_callV (q := 341) (kd := 1) (y := 131) (n := 2) (ci := 3) (a := b39) (vs := [.ref b39, .ref b43, .ref 933]) (r := []) (L2 := [some (.ref b39), some (.ref b43), some (.ref 933)]) D122_338 (im_cal cn_122 cl_2_123) (Or.inl rfl) rfl hb41.1 rfl rfl rfl rfl hd ⟨rfl, rfl, rfl, trivial⟩ ?_
              refine hP.mono ?_
              rintro _ e99 M95 ⟨rfl, rfl, hP⟩
              refine im_bkN ?_
              refine im_goto (q := 344) (t := 356) D122_341 rfl ?_
              refine im_ld (q := 357) (i := 0) D122_356 rfl rfl rfl ?_
              refine im_ld (q := 358) (i := 0) D122_357 rfl rfl rfl ?_
              refine im_rng (j := 12) sf_931 (by decide) (by decide) (fun hr96 => ?_)
              refine im_gfI (q := 361) D122_358 (im_fl cn_122 fl_2_86) sf_931 rfl rfl tI_2_12 rfl ?_
              refine im_ifc (q := 364) (t := 369) D122_361 rfl (im_z32 hr96) (fun hc97 => ?_) (fun hc97 => ?_)
              · replace hP := hP.1 hc97
                refine im_iconst (q := 370) D122_369 ?_
                refine im_goto (q := 373) (t := 374) D122_370 rfl ?_
                refine im_pfZ (q := 377) D122_374 (im_fl cn_122 fl_2_86) sf_931 rfl rfl tz_2_12 (by decide) ?_
                refine im_iconst (q := 378) D122_377 ?_
                exact im_zret (q := 379) D122_378 rfl (by decide) hP
              · replace hP := hP.2 (Decidable.not_not.mp hc97)
                refine im_ld (q := 366) (i := 10) D122_364 rfl rfl rfl ?_
                refine im_ifc (q := 369) (t := 373) D122_366 rfl (by decide) (fun _ => ?_) (fun hc => absurd (show ¬ (1 : Int) = 0 by decide) hc)
                refine im_iconst (q := 374) D122_373 ?_
                refine im_pfZ (q := 377) D122_374 (im_fl cn_122 fl_2_86) sf_931 rfl rfl tz_2_12 (by decide) ?_
                refine im_iconst (q := 378) D122_377 ?_
                exact im_zret (q := 379) D122_378 rfl (by decide) hP
            have hd108 : (M 14 p1) < 8 ∨ 18 < (M 14 p1) ∨ (M 14 p1) = 12 ∨ (M 14 p1) = 13 ∨ (M 14 p1) = 14 ∨ (M 14 p1) = 15 ∨ (M 14 p1) = 16 := by clear hP; omega
            refine im_tsw (q := 199) (t := 344) D122_198 hr4 ?_ ?_ ?_
            · intro z9
              have z8 : (M 14 p1) = 12 ∨ (M 14 p1) = 13 ∨ (M 14 p1) = 14 ∨ (M 14 p1) = 15 ∨ (M 14 p1) = 16 := by omega
              rcases z8 with z8 | z8 | z8 | z8 | z8 <;> (rw [z8]; rfl)
            · rcases hd108 with z8 | z8 | z8 | z8 | z8 | z8 | z8
              · rw [if_pos (Or.inl z8)]; rfl
              · rw [if_pos (Or.inr z8)]; rfl
              · rw [z8]; rfl
              · rw [z8]; rfl
              · rw [z8]; rfl
              · rw [z8]; rfl
              · rw [z8]; rfl
            replace hP := hP.2.2.2.2.2.2 hd108
            refine im_ld (q := 345) (i := 3) D122_344 rfl rfl rfl ?_
            refine im_ld (q := 347) (i := 8) D122_345 rfl rfl rfl ?_
            refine im_ld (q := 349) (i := 9) D122_347 rfl rfl rfl ?_
            refine im_callV (q := 352) (kd := 1) (y := 68) (n := 1) (ci := 3) (a := b39) (vs := [.ref b39, .ref b43]) (r := [vI (M 14 p1)]) (L2 := [some (.ref b39), some (.ref b43)]) D122_349 (im_cal cn_122 cl_2_127) (Or.inl rfl) rfl hb41.1 rfl rfl rfl rfl hd ⟨rfl, rfl, trivial⟩ ?_
            refine hP.mono ?_
            rintro _ e107 M101 ⟨x102, rfl, rfl, hP⟩
            refine im_bkS ?_
            refine im_callS (q := 355) (kd := 0) (y := 136) (n := 2) (z := 2) (vs := [vI (M 14 p1), vI x102]) (r := []) (L2 := [some (vI (M 14 p1)), some (vI x102)]) D122_352 rfl (im_cal cn_122 cl_2_131) (Or.inl rfl) rfl rfl rfl rfl rfl hd ⟨rfl, rfl, trivial⟩ ?_
            refine hP.mono ?_
            rintro _ e106 M103 ⟨x104, rfl, rfl, hP⟩
            refine im_bkS ?_
            obtain ⟨hg105, hP⟩ := hP
            exact im_zret (q := 356) D122_355 rfl hg105 hP
          · replace hP := hP.2 (Decidable.not_not.mp hc22)
            refine im_ld (q := 131) (i := 0) D122_130 rfl rfl rfl ?_
            refine im_ld (q := 133) (i := 5) D122_131 rfl rfl rfl ?_
            obtain ⟨hg23, hP⟩ := hP
            refine im_ifc (q := 136) (t := 141) D122_133 rfl hg23 (fun hc24 => ?_) (fun hc24 => ?_)
            · replace hP := hP hc24
              refine im_ld (q := 142) (i := 0) D122_141 rfl rfl rfl ?_
              refine im_gfR (q := 145) (b := 13) D122_142 (im_fl cn_122 fl_2_55) sf_931 rfl rfl tR_2_0 rfl ?_
              refine im_gfR (q := 148) (b := 15) D122_145 (im_fl cn_122 fl_2_112) sf_13 rfl rfl tR_5_1 rfl ?_
              refine im_ld (q := 150) (i := 6) D122_148 rfl rfl rfl ?_
              have hg25 := hP
              refine im_rng (j := (M11 15 (p1 + 1))) sf_15 hg25.1 hg25.2 (fun hr26 => ?_)
              refine im_iald (q := 151) D122_150 sf_15 hg25.1 hg25.2 (by decide) rfl ?_
              exact (kJ29 ((M11 15 (M11 15 (p1 + 1)))) (Or.inl ⟨(Decidable.not_not.mp hc22), hc24, rfl⟩)).wk ⟨rfl, rfl, trivial⟩
            · refine im_ld (q := 138) (i := 6) D122_136 rfl rfl rfl ?_
              refine im_goto (q := 141) (t := 151) D122_138 rfl ?_
              exact (kJ29 ((M11 15 (p1 + 1))) (Or.inr ⟨(Decidable.not_not.mp hc22), hc24, rfl⟩)).wk ⟨rfl, rfl, trivial⟩
        · replace hP := hP.2 (Decidable.not_not.mp hc13)
          refine im_ld (q := 92) (i := 0) D122_91 rfl rfl rfl ?_
          refine im_gfR (q := 95) (b := 932) D122_92 (im_fl cn_122 fl_2_11) sf_931 rfl rfl tR_2_1 rfl ?_
          refine im_ld (q := 96) (i := 2) D122_95 rfl rfl rfl ?_
          obtain ⟨hg110, hP⟩ := hP
          obtain ⟨b111, hb112, hP⟩ := hP
          obtain ⟨hb113, hP⟩ := hP
          refine im_aald (q := 97) D122_96 sf_932 (Or.inl rfl) hg110.1 hg110.2 (by decide) hb112 ?_
          refine im_ld (q := 98) (i := 0) D122_97 rfl rfl rfl ?_
          refine im_gfR (q := 101) (b := 932) D122_98 (im_fl cn_122 fl_2_11) sf_931 rfl rfl tR_2_1 rfl ?_
          refine im_ld (q := 102) (i := 2) D122_101 rfl rfl rfl ?_
          obtain ⟨b114, hb115, hP⟩ := hP
          obtain ⟨hb116, hP⟩ := hP
          refine im_aald (q := 103) D122_102 sf_932 (Or.inl rfl) hg110.1 hg110.2 (by decide) hb115 ?_
          refine im_rng (j := 0) hb116.1 (by decide) (show (0 : Int) < ((3 : Nat) : Int) by decide) (fun hr117 => ?_)
          refine im_gfI (q := 106) D122_103 (im_fl cn_122 fl_2_108) hb116.1 rfl rfl tI_3_0 rfl ?_
          refine im_ineg (q := 107) D122_106 ?_
          obtain ⟨hg118, hP⟩ := hP
          refine im_pfI (q := 110) D122_107 (im_fl cn_122 fl_2_108) hb113.1 rfl rfl ti_3_0 hg118 ?_
          refine im_iconst (q := 111) D122_110 ?_
          exact im_zret (q := 112) D122_111 rfl (by decide) hP
      · replace hP := hP.2 (Decidable.not_not.mp hc12)
        refine im_ld (q := 76) (i := 5) D122_74 rfl rfl rfl ?_
        have hg16 := hP
        refine im_ifc (q := 79) (t := 83) D122_76 rfl hg16 (fun hc17 => ?_) (fun hc17 => ?_)
        · refine im_iconst (q := 84) D122_83 ?_
          exact (kJ20 (0) (Or.inl ⟨(Decidable.not_not.mp hc12), hc17, rfl⟩)).wk trivial
        · refine im_iconst (q := 80) D122_79 ?_
          refine im_goto (q := 83) (t := 84) D122_80 rfl ?_
          exact (kJ20 (1) (Or.inr ⟨(Decidable.not_not.mp hc12), (Decidable.not_not.mp hc17), rfl⟩)).wk trivial
    · replace hP := hP.2 hc8
      refine im_ld (q := 36) (i := 0) D122_35 rfl rfl rfl ?_
      refine im_ld (q := 37) (i := 1) D122_36 rfl rfl rfl ?_
      refine im_ld (q := 38) (i := 0) D122_37 rfl rfl rfl ?_
      refine im_gfR (q := 41) (b := 932) D122_38 (im_fl cn_122 fl_2_11) sf_931 rfl rfl tR_2_1 rfl ?_
      refine im_ld (q := 42) (i := 2) D122_41 rfl rfl rfl ?_
      obtain ⟨hg121, hP⟩ := hP
      obtain ⟨b122, hb123, hP⟩ := hP
      obtain ⟨hb124, hP⟩ := hP
      refine im_aald (q := 43) D122_42 sf_932 (Or.inl rfl) hg121.1 hg121.2 (by decide) hb123 ?_
      refine im_callV (q := 46) (kd := 1) (y := 124) (n := 2) (ci := 2) (a := 931) (vs := [.ref 931, vI p1, .ref b122]) (r := []) (L2 := [some (.ref 931), some (vI p1), some (.ref b122), none, none, none, none]) D122_43 (im_cal cn_122 cl_2_97) (Or.inl rfl) rfl sf_931 rfl rfl rfl rfl hd ⟨rfl, rfl, rfl, trivial⟩ ?_
      refine hP.mono ?_
      rintro _ e128 M125 ⟨x126, rfl, rfl, hP⟩
      refine im_bkS ?_
      obtain ⟨hg127, hP⟩ := hP
      exact im_zret (q := 47) D122_46 rfl hg127 hP
  · replace hP := hP.2 (Int.not_lt.mp hc2)
    refine im_ld (q := 12) (i := 0) D122_11 rfl rfl rfl ?_
    refine im_iconst (q := 13) D122_12 ?_
    refine im_pfZ (q := 16) D122_13 (im_fl cn_122 fl_2_86) sf_931 rfl rfl tz_2_12 (by decide) ?_
    refine im_iconst (q := 17) D122_16 ?_
    exact im_zret (q := 18) D122_17 rfl (by decide) hP
set_option maxRecDepth 20000 in
set_option maxHeartbeats 4000000 in
theorem k_Machine_isLeaf_0 {g : im_g} {d : Nat} {e : im_E} {M : im_M} {K : im_K} {p0 : Int} (hP : (im_i32 p0) ∧ ((p0 = 6 ∨ p0 = 12 ∨ p0 = 13 ∨ p0 = 14 ∨ p0 = 15 ∨ p0 = 34 ∨ p0 = 35 → K (.inl (some (vI 1))) e M) ∧ (¬ p0 = 6 ∧ ¬ p0 = 12 ∧ ¬ p0 = 13 ∧ ¬ p0 = 14 ∧ ¬ p0 = 15 ∧ ¬ p0 = 34 ∧ ¬ p0 = 35 → ((((¬ p0 = 20 → ((¬ p0 = 26 → ((¬ p0 = 27 → K (.inl (some (vI 0))) e M))))))) ∧ ((((p0 = 20)) ∨ ((¬ p0 = 20) ∧ (p0 = 26)) ∨ ((¬ p0 = 20) ∧ (¬ p0 = 26) ∧ (p0 = 27))) → K (.inl (some (vI 1))) e M))))) : im_T g d 123 0 [some (vI p0)] [] e M K := by
  refine im_ld (q := 1) (i := 0) D123_0 rfl rfl rfl ?_
  obtain ⟨hg1, hP⟩ := hP
  by_cases hc2 : p0 = 6 ∨ p0 = 12 ∨ p0 = 13 ∨ p0 = 14 ∨ p0 = 15 ∨ p0 = 34 ∨ p0 = 35
  · refine im_lsw (q := 2) (t := 68) D123_1 hg1 rfl (by rcases hc2 with hc2 | hc2 | hc2 | hc2 | hc2 | hc2 | hc2 <;> (rw [hc2]; rfl)) ?_
    replace hP := hP.1 hc2
    refine im_iconst (q := 69) D123_68 ?_
    exact im_zret (q := 70) D123_69 rfl (by decide) hP
  have hd9 : ¬ p0 = 6 ∧ ¬ p0 = 12 ∧ ¬ p0 = 13 ∧ ¬ p0 = 14 ∧ ¬ p0 = 15 ∧ ¬ p0 = 34 ∧ ¬ p0 = 35 := by clear hP; omega
  refine im_lsw (q := 2) (t := 70) D123_1 hg1 rfl (by have z9 := hd9; simp [Op.lookupswitch.offset, am_to, z9, eq_comm]) ?_
  replace hP := hP.2 hd9
  refine im_ld (q := 71) (i := 0) D123_70 rfl rfl rfl ?_
  refine im_bipush (q := 73) D123_71 rfl ?_
  obtain ⟨hP, hJ6⟩ := hP
  have kJ7 : (((p0 = 20)) ∨ ((¬ p0 = 20) ∧ (p0 = 26)) ∨ ((¬ p0 = 20) ∧ (¬ p0 = 26) ∧ (p0 = 27))) → im_T g d 123 88 [none] [] e M K := by
    intro  hx8
    have hP := hJ6  hx8
    refine im_iconst (q := 89) D123_88 ?_
    refine im_goto (q := 92) (t := 93) D123_89 rfl ?_
    exact im_zret (q := 94) D123_93 rfl (by decide) hP
  refine im_icmp (q := 76) (t := 88) D123_73 rfl hg1 (by decide) (fun hc3 => ?_) (fun hc3 => ?_)
  · exact (kJ7  (Or.inl hc3)).wk trivial
  · replace hP := hP hc3
    refine im_ld (q := 77) (i := 0) D123_76 rfl rfl rfl ?_
    refine im_bipush (q := 79) D123_77 rfl ?_
    refine im_icmp (q := 82) (t := 88) D123_79 rfl hg1 (by decide) (fun hc4 => ?_) (fun hc4 => ?_)
    · exact (kJ7  (Or.inr (Or.inl ⟨hc3, hc4⟩))).wk trivial
    · replace hP := hP hc4
      refine im_ld (q := 83) (i := 0) D123_82 rfl rfl rfl ?_
      refine im_bipush (q := 85) D123_83 rfl ?_
      refine im_icmp (q := 88) (t := 92) D123_85 rfl hg1 (by decide) (fun hc5 => ?_) (fun hc5 => ?_)
      · replace hP := hP hc5
        refine im_iconst (q := 93) D123_92 ?_
        exact im_zret (q := 94) D123_93 rfl (by decide) hP
      · exact (kJ7  (Or.inr (Or.inr ⟨hc3, hc4, (Decidable.not_not.mp hc5)⟩))).wk trivial
set_option maxRecDepth 20000 in
set_option maxHeartbeats 4000000 in
theorem k_Machine_leaf_0 {g : im_g} {d : Nat} {e : im_E} {M : im_M} {K : im_K} {p1 : Int} {p2 : Nat} (hp2 : im_num e p2) (hd : 1 ≤ d) (hP : (0 ≤ p1 ∧ p1 < 5000) ∧ (((M 14 p1) = 34 → im_T g (d - 1) 125 0 [some (.ref 13), some (vI (M 18 p1)), some (.ref p2), none] [] e M (im_ri (fun x7 e_ M6 => e = e_ ∧ K (.inl (some (vI 0))) e M6))) ∧ ((M 14 p1) = 35 → ∃ b10 : Nat, ((M 931 5) = (b10 : Int)) ∧ ∃ n13 : Nat, (im_book e b10 n13) ∧ im_T g (d - 1) 89 0 [some (.ref b10), some (vL (M 19 p1)), none, some (vL 0), none, none] [] e M (im_rr (fun a15 e_ M14 => e = e_ ∧ im_num e a15 ∧ im_T g (d - 1) 66 0 [some (.ref p2), some (.ref a15), none] [] e M14 (im_r0 (fun  e_ M17 => e = e_ ∧ K (.inl (some (vI 0))) e M17))))) ∧ ((M 14 p1) = 6 → ∃ b21 : Nat, ((M 931 4) = (b21 : Int)) ∧ (im_state e b21) ∧ im_T g (d - 1) 89 0 [some (.ref (b21 + 1)), some (vL (M 19 p1)), none, some (vL (M 20 p1)), none, none] [] e M (im_rr (fun a25 e_ M24 => e = e_ ∧ im_num e a25 ∧ im_T g (d - 1) 66 0 [some (.ref p2), some (.ref a25), none] [] e M24 (im_r0 (fun  e_ M27 => e = e_ ∧ K (.inl (some (vI 0))) e M27))))) ∧ ((M 14 p1) = 12 → ∃ b31 : Nat, ((M 931 4) = (b31 : Int)) ∧ (im_state e b31) ∧ im_T g (d - 1) 89 0 [some (.ref (b31 + 87)), some (vL (M 19 p1)), none, some (vL (M 20 p1)), none, none] [] e M (im_rr (fun a35 e_ M34 => e = e_ ∧ im_num e a35 ∧ im_T g (d - 1) 66 0 [some (.ref p2), some (.ref a35), none] [] e M34 (im_r0 (fun  e_ M37 => e = e_ ∧ K (.inl (some (vI 0))) e M37))))) ∧ ((M 14 p1) = 15 → ∃ b41 : Nat, ((M 931 4) = (b41 : Int)) ∧ (im_state e b41) ∧ im_T g (d - 1) 89 0 [some (.ref (b41 + 173)), some (vL (M 19 p1)), none, some (vL 0), none, none] [] e M (im_rr (fun a45 e_ M44 => e = e_ ∧ im_num e a45 ∧ im_T g (d - 1) 66 0 [some (.ref p2), some (.ref a45), none] [] e M44 (im_r0 (fun  e_ M47 => e = e_ ∧ K (.inl (some (vI 0))) e M47))))) ∧ ((M 14 p1) = 13 → im_T g (d - 1) 127 0 [some (.ref p2), some (vL (M 931 10)), none, none, none] [] e M (im_r0 (fun  e_ M52 => e = e_ ∧ K (.inl (some (vI 0))) e M52))) ∧ ((M 14 p1) = 14 → im_T g (d - 1) 127 0 [some (.ref p2), some (vL (M 931 11)), none, none, none] [] e M (im_r0 (fun  e_ M56 => e = e_ ∧ K (.inl (some (vI 0))) e M56))) ∧ ((M 14 p1) = 20 → ∃ b59 : Nat, ((M 931 4) = (b59 : Int)) ∧ (im_state e b59) ∧ im_T g (d - 1) 88 0 [some (.ref (b59 + 87)), some (vL (M 19 p1)), none, some (vL (M 20 p1)), none, none] [] e M (im_ri (fun x63 e_ M62 => e = e_ ∧ (im_i32 x63) ∧ ((∀ x66 : Int, (((x63 < 0) ∧ x66 = 0) ∨ ((0 ≤ x63) ∧ x66 = 1)) → K (.inl (some (vI x66))) e M62))))) ∧ ((M 14 p1) < 6 ∨ 35 < (M 14 p1) ∨ (M 14 p1) = 7 ∨ (M 14 p1) = 8 ∨ (M 14 p1) = 9 ∨ (M 14 p1) = 10 ∨ (M 14 p1) = 11 ∨ (M 14 p1) = 16 ∨ (M 14 p1) = 17 ∨ (M 14 p1) = 18 ∨ (M 14 p1) = 19 ∨ (M 14 p1) = 21 ∨ (M 14 p1) = 22 ∨ (M 14 p1) = 23 ∨ (M 14 p1) = 24 ∨ (M 14 p1) = 25 ∨ (M 14 p1) = 26 ∨ (M 14 p1) = 27 ∨ (M 14 p1) = 28 ∨ (M 14 p1) = 29 ∨ (M 14 p1) = 30 ∨ (M 14 p1) = 31 ∨ (M 14 p1) = 32 ∨ (M 14 p1) = 33 → ((∀ x74 : Int, (((¬ (M 14 p1) = 26) ∧ x74 = 0) ∨ (((M 14 p1) = 26) ∧ x74 = 1)) → K (.inl (some (vI x74))) e M))))) : im_T g d 124 0 [some (.ref 931), some (vI p1), some (.ref p2), none, none, none, none] [] e M K := by
  refine im_ld (q := 1) (i := 0) D124_0 rfl rfl rfl ?_
  refine im_gfR (q := 4) (b := 13) D124_1 (im_fl cn_124 fl_2_55) sf_931 rfl rfl tR_2_0 rfl ?_
  refine im_gfR (q := 7) (b := 19) D124_4 (im_fl cn_124 fl_2_68) sf_13 rfl rfl tR_5_5 rfl ?_
  refine im_ld (q := 8) (i := 1) D124_7 rfl rfl rfl ?_
  obtain ⟨hg1, hP⟩ := hP
  refine im_rng (j := p1) sf_19 hg1.1 hg1.2 (fun hr2 => ?_)
  refine im_lald (q := 9) D124_8 sf_19 hg1.1 hg1.2 (by decide) rfl ?_
  refine im_st2 (q := 10) (i := 3) (L' := [some (.ref 931), some (vI p1), some (.ref p2), some (vL (M 19 p1)), none, none, none]) D124_9 (Or.inl ⟨_, rfl, rfl⟩) (Nat.le_of_ble_eq_true rfl) rfl ?_
  refine im_ld (q := 11) (i := 0) D124_10 rfl rfl rfl ?_
  refine im_gfR (q := 14) (b := 13) D124_11 (im_fl cn_124 fl_2_55) sf_931 rfl rfl tR_2_0 rfl ?_
  refine im_gfR (q := 17) (b := 20) D124_14 (im_fl cn_124 fl_2_63) sf_13 rfl rfl tR_5_6 rfl ?_
  refine im_ld (q := 18) (i := 1) D124_17 rfl rfl rfl ?_
  refine im_rng (j := p1) sf_20 hg1.1 hg1.2 (fun hr3 => ?_)
  refine im_lald (q := 19) D124_18 sf_20 hg1.1 hg1.2 (by decide) rfl ?_
  refine im_st2 (q := 21) (i := 5) (L' := [some (.ref 931), some (vI p1), some (.ref p2), some (vL (M 19 p1)), none, some (vL (M 20 p1)), none]) D124_19 (Or.inr rfl) (Nat.le_of_ble_eq_true rfl) rfl ?_
  refine im_ld (q := 22) (i := 0) D124_21 rfl rfl rfl ?_
  refine im_gfR (q := 25) (b := 13) D124_22 (im_fl cn_124 fl_2_55) sf_931 rfl rfl tR_2_0 rfl ?_
  refine im_gfR (q := 28) (b := 14) D124_25 (im_fl cn_124 fl_2_89) sf_13 rfl rfl tR_5_0 rfl ?_
  refine im_ld (q := 29) (i := 1) D124_28 rfl rfl rfl ?_
  refine im_rng (j := p1) sf_14 hg1.1 hg1.2 (fun hr4 => ?_)
  refine im_iald (q := 30) D124_29 sf_14 hg1.1 hg1.2 (by decide) rfl ?_
  by_cases hc9 : (M 14 p1) = 34
  · refine im_tsw (q := 31) (t := 164) D124_30 hr4 (fun _ => by rcases hc9 with hc9 <;> (rw [hc9]; rfl)) (by rcases hc9 with hc9 <;> (rw [hc9]; rfl)) ?_
    replace hP := hP.1 hc9
    refine im_ld (q := 165) (i := 0) D124_164 rfl rfl rfl ?_
    refine im_gfR (q := 168) (b := 13) D124_165 (im_fl cn_124 fl_2_55) sf_931 rfl rfl tR_2_0 rfl ?_
    refine im_ld (q := 169) (i := 0) D124_168 rfl rfl rfl ?_
    refine im_gfR (q := 172) (b := 13) D124_169 (im_fl cn_124 fl_2_55) sf_931 rfl rfl tR_2_0 rfl ?_
    refine im_gfR (q := 175) (b := 18) D124_172 (im_fl cn_124 fl_2_134) sf_13 rfl rfl tR_5_4 rfl ?_
    refine im_ld (q := 176) (i := 1) D124_175 rfl rfl rfl ?_
    refine im_rng (j := p1) sf_18 hg1.1 hg1.2 (fun hr5 => ?_)
    refine im_iald (q := 177) D124_176 sf_18 hg1.1 hg1.2 (by decide) rfl ?_
    refine im_ld (q := 178) (i := 2) D124_177 rfl rfl rfl ?_
    refine im_callV (q := 181) (kd := 1) (y := 125) (n := 2) (ci := 5) (a := 13) (vs := [.ref 13, vI (M 18 p1), .ref p2]) (r := []) (L2 := [some (.ref 13), some (vI (M 18 p1)), some (.ref p2), none]) D124_178 (im_cal cn_124 cl_2_137) (Or.inl rfl) rfl sf_13 rfl rfl rfl rfl hd ⟨rfl, rfl, rfl, trivial⟩ ?_
    refine hP.mono ?_
    rintro _ e8 M6 ⟨x7, rfl, rfl, hP⟩
    refine im_bkS ?_
    refine im_pop (q := 182) D124_181 rfl ?_
    refine im_iconst (q := 183) D124_182 ?_
    exact im_zret (q := 184) D124_183 rfl (by decide) hP
  by_cases hc20 : (M 14 p1) = 35
  · refine im_tsw (q := 31) (t := 184) D124_30 hr4 (fun _ => by rcases hc20 with hc20 <;> (rw [hc20]; rfl)) (by rcases hc20 with hc20 <;> (rw [hc20]; rfl)) ?_
    replace hP := hP.2.1 hc20
    refine im_ld (q := 185) (i := 2) D124_184 rfl rfl rfl ?_
    refine im_ld (q := 186) (i := 0) D124_185 rfl rfl rfl ?_
    obtain ⟨b10, hb11, hP⟩ := hP
    obtain ⟨n13, hb12, hP⟩ := hP
    refine im_gfD (q := 189) D124_186 (im_fl cn_124 fl_2_38) sf_931 rfl rfl tR_2_5 rfl hb11 ?_
    refine im_ld (q := 190) (i := 3) D124_189 rfl rfl rfl ?_
    refine im_lconst (q := 191) (z := 0) D124_190 rfl ?_
    refine im_callV (q := 194) (kd := 1) (y := 89) (n := 2) (ci := 0) (a := b10) (vs := [.ref b10, vL (M 19 p1), vL 0]) (r := [.ref p2]) (L2 := [some (.ref b10), some (vL (M 19 p1)), none, some (vL 0), none, none]) D124_191 (im_cal cn_124 cl_2_71) (Or.inl rfl) rfl hb12.1 rfl rfl rfl rfl hd ⟨rfl, rfl, rfl, trivial⟩ ?_
    refine hP.mono ?_
    rintro _ e19 M14 ⟨a15, rfl, rfl, hP⟩
    refine im_bkS ?_
    obtain ⟨hb16, hP⟩ := hP
    refine im_callV (q := 197) (kd := 1) (y := 66) (n := 1) (ci := 3) (a := p2) (vs := [.ref p2, .ref a15]) (r := []) (L2 := [some (.ref p2), some (.ref a15), none]) D124_194 (im_cal cn_124 cl_2_141) (Or.inl rfl) rfl hp2.1 rfl rfl rfl rfl hd ⟨rfl, rfl, trivial⟩ ?_
    refine hP.mono ?_
    rintro _ e18 M17 ⟨rfl, rfl, hP⟩
    refine im_bkN ?_
    refine im_iconst (q := 198) D124_197 ?_
    exact im_zret (q := 199) D124_198 rfl (by decide) hP
  by_cases hc30 : (M 14 p1) = 6
  · refine im_tsw (q := 31) (t := 199) D124_30 hr4 (fun _ => by rcases hc30 with hc30 <;> (rw [hc30]; rfl)) (by rcases hc30 with hc30 <;> (rw [hc30]; rfl)) ?_
    replace hP := hP.2.2.1 hc30
    refine im_ld (q := 200) (i := 2) D124_199 rfl rfl rfl ?_
    refine im_ld (q := 201) (i := 0) D124_200 rfl rfl rfl ?_
    obtain ⟨b21, hb22, hP⟩ := hP
    obtain ⟨hb23, hP⟩ := hP
    refine im_gfD (q := 204) D124_201 (im_fl cn_124 fl_2_31) sf_931 rfl rfl tR_2_4 rfl hb22 ?_
    refine im_gfR (q := 207) (b := (b21 + 1)) D124_204 (im_fl cn_124 fl_2_145) hb23.1 rfl rfl tR_9_0 rfl ?_
    refine im_ld (q := 208) (i := 3) D124_207 rfl rfl rfl ?_
    refine im_ld (q := 210) (i := 5) D124_208 rfl rfl rfl ?_
    refine im_callV (q := 213) (kd := 1) (y := 89) (n := 2) (ci := 0) (a := (b21 + 1)) (vs := [.ref (b21 + 1), vL (M 19 p1), vL (M 20 p1)]) (r := [.ref p2]) (L2 := [some (.ref (b21 + 1)), some (vL (M 19 p1)), none, some (vL (M 20 p1)), none, none]) D124_210 (im_cal cn_124 cl_2_71) (Or.inl rfl) rfl hb23.2.1.1 rfl rfl rfl rfl hd ⟨rfl, rfl, rfl, trivial⟩ ?_
    refine hP.mono ?_
    rintro _ e29 M24 ⟨a25, rfl, rfl, hP⟩
    refine im_bkS ?_
    obtain ⟨hb26, hP⟩ := hP
    refine im_callV (q := 216) (kd := 1) (y := 66) (n := 1) (ci := 3) (a := p2) (vs := [.ref p2, .ref a25]) (r := []) (L2 := [some (.ref p2), some (.ref a25), none]) D124_213 (im_cal cn_124 cl_2_141) (Or.inl rfl) rfl hp2.1 rfl rfl rfl rfl hd ⟨rfl, rfl, trivial⟩ ?_
    refine hP.mono ?_
    rintro _ e28 M27 ⟨rfl, rfl, hP⟩
    refine im_bkN ?_
    refine im_iconst (q := 217) D124_216 ?_
    exact im_zret (q := 218) D124_217 rfl (by decide) hP
  by_cases hc40 : (M 14 p1) = 12
  · refine im_tsw (q := 31) (t := 218) D124_30 hr4 (fun _ => by rcases hc40 with hc40 <;> (rw [hc40]; rfl)) (by rcases hc40 with hc40 <;> (rw [hc40]; rfl)) ?_
    replace hP := hP.2.2.2.1 hc40
    refine im_ld (q := 219) (i := 2) D124_218 rfl rfl rfl ?_
    refine im_ld (q := 220) (i := 0) D124_219 rfl rfl rfl ?_
    obtain ⟨b31, hb32, hP⟩ := hP
    obtain ⟨hb33, hP⟩ := hP
    refine im_gfD (q := 223) D124_220 (im_fl cn_124 fl_2_31) sf_931 rfl rfl tR_2_4 rfl hb32 ?_
    refine im_gfR (q := 226) (b := (b31 + 87)) D124_223 (im_fl cn_124 fl_2_148) hb33.1 rfl rfl tR_9_1 rfl ?_
    refine im_ld (q := 227) (i := 3) D124_226 rfl rfl rfl ?_
    refine im_ld (q := 229) (i := 5) D124_227 rfl rfl rfl ?_
    refine im_callV (q := 232) (kd := 1) (y := 89) (n := 2) (ci := 0) (a := (b31 + 87)) (vs := [.ref (b31 + 87), vL (M 19 p1), vL (M 20 p1)]) (r := [.ref p2]) (L2 := [some (.ref (b31 + 87)), some (vL (M 19 p1)), none, some (vL (M 20 p1)), none, none]) D124_229 (im_cal cn_124 cl_2_71) (Or.inl rfl) rfl hb33.2.2.1.1 rfl rfl rfl rfl hd ⟨rfl, rfl, rfl, trivial⟩ ?_
    refine hP.mono ?_
    rintro _ e39 M34 ⟨a35, rfl, rfl, hP⟩
    refine im_bkS ?_
    obtain ⟨hb36, hP⟩ := hP
    refine im_callV (q := 235) (kd := 1) (y := 66) (n := 1) (ci := 3) (a := p2) (vs := [.ref p2, .ref a35]) (r := []) (L2 := [some (.ref p2), some (.ref a35), none]) D124_232 (im_cal cn_124 cl_2_141) (Or.inl rfl) rfl hp2.1 rfl rfl rfl rfl hd ⟨rfl, rfl, trivial⟩ ?_
    refine hP.mono ?_
    rintro _ e38 M37 ⟨rfl, rfl, hP⟩
    refine im_bkN ?_
    refine im_iconst (q := 236) D124_235 ?_
    exact im_zret (q := 237) D124_236 rfl (by decide) hP
  by_cases hc50 : (M 14 p1) = 15
  · refine im_tsw (q := 31) (t := 237) D124_30 hr4 (fun _ => by rcases hc50 with hc50 <;> (rw [hc50]; rfl)) (by rcases hc50 with hc50 <;> (rw [hc50]; rfl)) ?_
    replace hP := hP.2.2.2.2.1 hc50
    refine im_ld (q := 238) (i := 2) D124_237 rfl rfl rfl ?_
    refine im_ld (q := 239) (i := 0) D124_238 rfl rfl rfl ?_
    obtain ⟨b41, hb42, hP⟩ := hP
    obtain ⟨hb43, hP⟩ := hP
    refine im_gfD (q := 242) D124_239 (im_fl cn_124 fl_2_31) sf_931 rfl rfl tR_2_4 rfl hb42 ?_
    refine im_gfR (q := 245) (b := (b41 + 173)) D124_242 (im_fl cn_124 fl_2_151) hb43.1 rfl rfl tR_9_2 rfl ?_
    refine im_ld (q := 246) (i := 3) D124_245 rfl rfl rfl ?_
    refine im_lconst (q := 247) (z := 0) D124_246 rfl ?_
    refine im_callV (q := 250) (kd := 1) (y := 89) (n := 2) (ci := 0) (a := (b41 + 173)) (vs := [.ref (b41 + 173), vL (M 19 p1), vL 0]) (r := [.ref p2]) (L2 := [some (.ref (b41 + 173)), some (vL (M 19 p1)), none, some (vL 0), none, none]) D124_247 (im_cal cn_124 cl_2_71) (Or.inl rfl) rfl hb43.2.2.2.1 rfl rfl rfl rfl hd ⟨rfl, rfl, rfl, trivial⟩ ?_
    refine hP.mono ?_
    rintro _ e49 M44 ⟨a45, rfl, rfl, hP⟩
    refine im_bkS ?_
    obtain ⟨hb46, hP⟩ := hP
    refine im_callV (q := 253) (kd := 1) (y := 66) (n := 1) (ci := 3) (a := p2) (vs := [.ref p2, .ref a45]) (r := []) (L2 := [some (.ref p2), some (.ref a45), none]) D124_250 (im_cal cn_124 cl_2_141) (Or.inl rfl) rfl hp2.1 rfl rfl rfl rfl hd ⟨rfl, rfl, trivial⟩ ?_
    refine hP.mono ?_
    rintro _ e48 M47 ⟨rfl, rfl, hP⟩
    refine im_bkN ?_
    refine im_iconst (q := 254) D124_253 ?_
    exact im_zret (q := 255) D124_254 rfl (by decide) hP
  by_cases hc54 : (M 14 p1) = 13
  · refine im_tsw (q := 31) (t := 255) D124_30 hr4 (fun _ => by rcases hc54 with hc54 <;> (rw [hc54]; rfl)) (by rcases hc54 with hc54 <;> (rw [hc54]; rfl)) ?_
    replace hP := hP.2.2.2.2.2.1 hc54
    refine im_ld (q := 256) (i := 2) D124_255 rfl rfl rfl ?_
    refine im_ld (q := 257) (i := 0) D124_256 rfl rfl rfl ?_
    refine im_rng (j := 10) sf_931 (by decide) (by decide) (fun hr51 => ?_)
    refine im_gfL (q := 260) D124_257 (im_fl cn_124 fl_2_79) sf_931 rfl rfl tL_2_10 rfl ?_
    refine im_callV (q := 263) (kd := 1) (y := 127) (n := 1) (ci := 3) (a := p2) (vs := [.ref p2, vL (M 931 10)]) (r := []) (L2 := [some (.ref p2), some (vL (M 931 10)), none, none, none]) D124_260 (im_cal cn_124 cl_2_154) (Or.inl rfl) rfl hp2.1 rfl rfl rfl rfl hd ⟨rfl, rfl, trivial⟩ ?_
    refine hP.mono ?_
    rintro _ e53 M52 ⟨rfl, rfl, hP⟩
    refine im_bkN ?_
    refine im_iconst (q := 264) D124_263 ?_
    exact im_zret (q := 265) D124_264 rfl (by decide) hP
  by_cases hc58 : (M 14 p1) = 14
  · refine im_tsw (q := 31) (t := 265) D124_30 hr4 (fun _ => by rcases hc58 with hc58 <;> (rw [hc58]; rfl)) (by rcases hc58 with hc58 <;> (rw [hc58]; rfl)) ?_
    replace hP := hP.2.2.2.2.2.2.1 hc58
    refine im_ld (q := 266) (i := 2) D124_265 rfl rfl rfl ?_
    refine im_ld (q := 267) (i := 0) D124_266 rfl rfl rfl ?_
    refine im_rng (j := 11) sf_931 (by decide) (by decide) (fun hr55 => ?_)
    refine im_gfL (q := 270) D124_267 (im_fl cn_124 fl_2_83) sf_931 rfl rfl tL_2_11 rfl ?_
    refine im_callV (q := 273) (kd := 1) (y := 127) (n := 1) (ci := 3) (a := p2) (vs := [.ref p2, vL (M 931 11)]) (r := []) (L2 := [some (.ref p2), some (vL (M 931 11)), none, none, none]) D124_270 (im_cal cn_124 cl_2_154) (Or.inl rfl) rfl hp2.1 rfl rfl rfl rfl hd ⟨rfl, rfl, trivial⟩ ?_
    refine hP.mono ?_
    rintro _ e57 M56 ⟨rfl, rfl, hP⟩
    refine im_bkN ?_
    refine im_iconst (q := 274) D124_273 ?_
    exact im_zret (q := 275) D124_274 rfl (by decide) hP
  by_cases hc71 : (M 14 p1) = 20
  · refine im_tsw (q := 31) (t := 275) D124_30 hr4 (fun _ => by rcases hc71 with hc71 <;> (rw [hc71]; rfl)) (by rcases hc71 with hc71 <;> (rw [hc71]; rfl)) ?_
    replace hP := hP.2.2.2.2.2.2.2.1 hc71
    refine im_ld (q := 276) (i := 0) D124_275 rfl rfl rfl ?_
    obtain ⟨b59, hb60, hP⟩ := hP
    obtain ⟨hb61, hP⟩ := hP
    refine im_gfD (q := 279) D124_276 (im_fl cn_124 fl_2_31) sf_931 rfl rfl tR_2_4 rfl hb60 ?_
    refine im_gfR (q := 282) (b := (b59 + 87)) D124_279 (im_fl cn_124 fl_2_148) hb61.1 rfl rfl tR_9_1 rfl ?_
    refine im_ld (q := 283) (i := 3) D124_282 rfl rfl rfl ?_
    refine im_ld (q := 285) (i := 5) D124_283 rfl rfl rfl ?_
    refine im_callV (q := 288) (kd := 1) (y := 88) (n := 2) (ci := 0) (a := (b59 + 87)) (vs := [.ref (b59 + 87), vL (M 19 p1), vL (M 20 p1)]) (r := []) (L2 := [some (.ref (b59 + 87)), some (vL (M 19 p1)), none, some (vL (M 20 p1)), none, none]) D124_285 (im_cal cn_124 cl_2_158) (Or.inl rfl) rfl hb61.2.2.1.1 rfl rfl rfl rfl hd ⟨rfl, rfl, rfl, trivial⟩ ?_
    refine hP.mono ?_
    rintro _ e70 M62 ⟨x63, rfl, rfl, hP⟩
    refine im_bkS ?_
    obtain ⟨hg64, hP⟩ := hP
    have hJ67 := hP
    have kJ68 : ∀ x66 : Int, (((x63 < 0) ∧ x66 = 0) ∨ ((0 ≤ x63) ∧ x66 = 1)) → im_T g d 124 296 [none, none, none, none, none, none, none] [vI x66] e M62 K := by
      intro x66 hx69
      have hP := hJ67 x66 hx69
      exact im_zret (q := 297) D124_296 rfl (by clear hP; omega) hP
    refine im_ifc (q := 291) (t := 295) D124_288 rfl hg64 (fun hc65 => ?_) (fun hc65 => ?_)
    · refine im_iconst (q := 296) D124_295 ?_
      exact (kJ68 (0) (Or.inl ⟨hc65, rfl⟩)).wk trivial
    · refine im_iconst (q := 292) D124_291 ?_
      refine im_goto (q := 295) (t := 296) D124_292 rfl ?_
      exact (kJ68 (1) (Or.inr ⟨(Int.not_lt.mp hc65), rfl⟩)).wk trivial
  have hd78 : (M 14 p1) < 6 ∨ 35 < (M 14 p1) ∨ (M 14 p1) = 7 ∨ (M 14 p1) = 8 ∨ (M 14 p1) = 9 ∨ (M 14 p1) = 10 ∨ (M 14 p1) = 11 ∨ (M 14 p1) = 16 ∨ (M 14 p1) = 17 ∨ (M 14 p1) = 18 ∨ (M 14 p1) = 19 ∨ (M 14 p1) = 21 ∨ (M 14 p1) = 22 ∨ (M 14 p1) = 23 ∨ (M 14 p1) = 24 ∨ (M 14 p1) = 25 ∨ (M 14 p1) = 26 ∨ (M 14 p1) = 27 ∨ (M 14 p1) = 28 ∨ (M 14 p1) = 29 ∨ (M 14 p1) = 30 ∨ (M 14 p1) = 31 ∨ (M 14 p1) = 32 ∨ (M 14 p1) = 33 := by clear hP; omega
  refine im_tsw (q := 31) (t := 297) D124_30 hr4 ?_ ?_ ?_
  · intro z9
    have z8 : (M 14 p1) = 7 ∨ (M 14 p1) = 8 ∨ (M 14 p1) = 9 ∨ (M 14 p1) = 10 ∨ (M 14 p1) = 11 ∨ (M 14 p1) = 16 ∨ (M 14 p1) = 17 ∨ (M 14 p1) = 18 ∨ (M 14 p1) = 19 ∨ (M 14 p1) = 21 ∨ (M 14 p1) = 22 ∨ (M 14 p1) = 23 ∨ (M 14 p1) = 24 ∨ (M 14 p1) = 25 ∨ (M 14 p1) = 26 ∨ (M 14 p1) = 27 ∨ (M 14 p1) = 28 ∨ (M 14 p1) = 29 ∨ (M 14 p1) = 30 ∨ (M 14 p1) = 31 ∨ (M 14 p1) = 32 ∨ (M 14 p1) = 33 := by omega
    rcases z8 with z8 | z8 | z8 | z8 | z8 | z8 | z8 | z8 | z8 | z8 | z8 | z8 | z8 | z8 | z8 | z8 | z8 | z8 | z8 | z8 | z8 | z8 <;> (rw [z8]; rfl)
  · rcases hd78 with z8 | z8 | z8 | z8 | z8 | z8 | z8 | z8 | z8 | z8 | z8 | z8 | z8 | z8 | z8 | z8 | z8 | z8 | z8 | z8 | z8 | z8 | z8 | z8
    · rw [if_pos (Or.inl z8)]; rfl
    · rw [if_pos (Or.inr z8)]; rfl
    · rw [z8]; rfl
    · rw [z8]; rfl
    · rw [z8]; rfl
    · rw [z8]; rfl
    · rw [z8]; rfl
    · rw [z8]; rfl
    · rw [z8]; rfl
    · rw [z8]; rfl
    · rw [z8]; rfl
    · rw [z8]; rfl
    · rw [z8]; rfl
    · rw [z8]; rfl
    · rw [z8]; rfl
    · rw [z8]; rfl
    · rw [z8]; rfl
    · rw [z8]; rfl
    · rw [z8]; rfl
    · rw [z8]; rfl
    · rw [z8]; rfl
    · rw [z8]; rfl
    · rw [z8]; rfl
    · rw [z8]; rfl
  replace hP := hP.2.2.2.2.2.2.2.2 hd78
  refine im_ld (q := 298) (i := 0) D124_297 rfl rfl rfl ?_
  refine im_gfR (q := 301) (b := 13) D124_298 (im_fl cn_124 fl_2_55) sf_931 rfl rfl tR_2_0 rfl ?_
  refine im_gfR (q := 304) (b := 14) D124_301 (im_fl cn_124 fl_2_89) sf_13 rfl rfl tR_5_0 rfl ?_
  refine im_ld (q := 305) (i := 1) D124_304 rfl rfl rfl ?_
  refine im_iald (q := 306) D124_305 sf_14 hg1.1 hg1.2 (by decide) rfl ?_
  refine im_bipush (q := 308) D124_306 rfl ?_
  have hJ75 := hP
  have kJ76 : ∀ x74 : Int, (((¬ (M 14 p1) = 26) ∧ x74 = 0) ∨ (((M 14 p1) = 26) ∧ x74 = 1)) → im_T g d 124 316 [none, none, none, none, none, none, none] [vI x74] e M K := by
    intro x74 hx77
    have hP := hJ75 x74 hx77
    exact im_zret (q := 317) D124_316 rfl (by clear hP; omega) hP
  refine im_icmp (q := 311) (t := 315) D124_308 rfl hr4 (by decide) (fun hc73 => ?_) (fun hc73 => ?_)
  · refine im_iconst (q := 316) D124_315 ?_
    exact (kJ76 (0) (Or.inl ⟨hc73, rfl⟩)).wk trivial
  · refine im_iconst (q := 312) D124_311 ?_
    refine im_goto (q := 315) (t := 316) D124_312 rfl ?_
    exact (kJ76 (1) (Or.inr ⟨(Decidable.not_not.mp hc73), rfl⟩)).wk trivial
set_option maxRecDepth 20000 in
set_option maxHeartbeats 4000000 in
theorem k_Pool_load_0 {g : im_g} {d : Nat} {e : im_E} {M : im_M} {K : im_K} {p1 : Int} {p2 : Nat} (hp2 : im_num e p2) (hd : 1 ≤ d) (hP : im_T g (d - 1) 101 0 [some (.ref p2)] [] e M (im_r0 (fun  e_ M1 => e = e_ ∧ (im_i32 p1) ∧ ((((0 ≤ p1 → ((p1 < 32836 → (0 ≤ p1 ∧ p1 < 32836) ∧ (im_i32 (if 0 ≤ (M1 22 p1) then (M1 22 p1) else -(M1 22 p1))) ∧ im_T g (d - 1) 126 0 [some (vI ((im_u M1 p2 1 (min (if 0 ≤ (M1 22 p1) then (M1 22 p1) else -(M1 22 p1)) 34)) 22 p1)), some (vI 0)] [] e (im_u M1 p2 1 (min (if 0 ≤ (M1 22 p1) then (M1 22 p1) else -(M1 22 p1)) 34)) (im_ri (fun x13 e_ M12 => e = e_ ∧ (im_i32 x13) ∧ im_T g d 125 53 [some (.ref 13), some (vI p1), some (.ref p2), some (vI 0)] [] e (im_u M12 p2 0 x13) K))))))) ∧ ((((p1 < 0)) ∨ ((0 ≤ p1) ∧ (32836 ≤ p1))) → K (.inl (some (vI p1))) e M1))))) : im_T g d 125 0 [some (.ref 13), some (vI p1), some (.ref p2), none] [] e M K := by
  refine im_ld (q := 1) (i := 2) D125_0 rfl rfl rfl ?_
  refine im_callV (q := 4) (kd := 1) (y := 101) (n := 0) (ci := 3) (a := p2) (vs := [.ref p2]) (r := []) (L2 := [some (.ref p2)]) D125_1 (im_cal cn_125 cl_5_59) (Or.inl rfl) rfl hp2.1 rfl rfl rfl rfl hd ⟨rfl, trivial⟩ ?_
  refine hP.mono ?_
  rintro _ e16 M1 ⟨rfl, rfl, hP⟩
  refine im_bkN ?_
  refine im_ld (q := 5) (i := 1) D125_4 rfl rfl rfl ?_
  obtain ⟨hg2, hP⟩ := hP
  obtain ⟨hP, hJ7⟩ := hP
  have kJ8 : (((p1 < 0)) ∨ ((0 ≤ p1) ∧ (32836 ≤ p1))) → im_T g d 125 17 [none, some (vI p1), none, none] [] e M1 K := by
    intro  hx9
    have hP := hJ7  hx9
    refine im_ld (q := 18) (i := 1) D125_17 rfl rfl rfl ?_
    exact im_iret (q := 19) D125_18 rfl hP
  refine im_ifc (q := 8) (t := 17) D125_5 rfl hg2 (fun hc3 => ?_) (fun hc3 => ?_)
  · exact (kJ8  (Or.inl hc3)).wk ⟨rfl, trivial⟩
  · replace hP := hP (Int.not_lt.mp hc3)
    refine im_ld (q := 9) (i := 1) D125_8 rfl rfl rfl ?_
    refine im_ld (q := 10) (i := 0) D125_9 rfl rfl rfl ?_
    refine im_gfR (q := 13) (b := 22) D125_10 (im_fl cn_125 fl_5_38) sf_13 rfl rfl tR_5_9 rfl ?_
    refine im_alen (q := 14) D125_13 sf_22 (by decide) ?_
    refine im_icmp (q := 17) (t := 19) D125_14 rfl hg2 (by decide) (fun hc4 => ?_) (fun hc4 => ?_)
    · replace hP := hP hc4
      refine im_ld (q := 20) (i := 2) D125_19 rfl rfl rfl ?_
      refine im_ld (q := 21) (i := 0) D125_20 rfl rfl rfl ?_
      refine im_gfR (q := 24) (b := 22) D125_21 (im_fl cn_125 fl_5_38) sf_13 rfl rfl tR_5_9 rfl ?_
      refine im_ld (q := 25) (i := 1) D125_24 rfl rfl rfl ?_
      obtain ⟨hg5, hP⟩ := hP
      refine im_rng (j := p1) sf_22 hg5.1 hg5.2 (fun hr6 => ?_)
      refine im_iald (q := 26) D125_25 sf_22 hg5.1 hg5.2 (by decide) rfl ?_
      refine im_iabs (q := 29) D125_26 rfl hr6 rfl ?_
      refine im_bipush (q := 31) D125_29 rfl ?_
      obtain ⟨hg10, hP⟩ := hP
      refine im_imin (q := 34) D125_31 rfl hg10 (by decide) rfl ?_
      refine im_pfI (q := 37) D125_34 (im_fl cn_125 fl_5_48) hp2.1 rfl rfl ti_3_1 (im_minr hg10 (by decide)) ?_
      refine im_ld (q := 38) (i := 2) D125_37 rfl rfl rfl ?_
      refine im_ld (q := 39) (i := 0) D125_38 rfl rfl rfl ?_
      refine im_gfR (q := 42) (b := 22) D125_39 (im_fl cn_125 fl_5_38) sf_13 rfl rfl tR_5_9 rfl ?_
      refine im_ld (q := 43) (i := 1) D125_42 rfl rfl rfl ?_
      refine im_rng (j := p1) sf_22 hg5.1 hg5.2 (fun hr11 => ?_)
      refine im_iald (q := 44) D125_43 sf_22 hg5.1 hg5.2 (by decide) rfl ?_
      refine im_iconst (q := 45) D125_44 ?_
      refine im_callS (q := 48) (kd := 0) (y := 126) (n := 2) (z := 0) (vs := [vI ((im_u M1 p2 1 (min (if 0 ≤ (M1 22 p1) then (M1 22 p1) else -(M1 22 p1)) 34)) 22 p1), vI 0]) (r := [.ref p2]) (L2 := [some (vI ((im_u M1 p2 1 (min (if 0 ≤ (M1 22 p1) then (M1 22 p1) else -(M1 22 p1)) 34)) 22 p1)), some (vI 0)]) D125_45 rfl (im_cal cn_125 cl_5_72) (Or.inl rfl) rfl rfl rfl rfl rfl hd ⟨rfl, rfl, trivial⟩ ?_
      refine hP.mono ?_
      rintro _ e15 M12 ⟨x13, rfl, rfl, hP⟩
      refine im_bkS ?_
      obtain ⟨hg14, hP⟩ := hP
      refine im_pfI (q := 51) D125_48 (im_fl cn_125 fl_5_53) hp2.1 rfl rfl ti_3_0 hg14 ?_
      refine im_iconst (q := 52) D125_51 ?_
      refine im_st1 (q := 53) (i := 3) (L' := [some (.ref 13), some (vI p1), some (.ref p2), some (vI 0)]) D125_52 (Or.inl ⟨_, rfl, rfl⟩) (Nat.le_of_ble_eq_true rfl) rfl ?_
      exact hP.wk ⟨rfl, rfl, rfl, rfl, trivial⟩
    · exact (kJ8  (Or.inr ⟨(Int.not_lt.mp hc3), (Int.not_lt.mp hc4)⟩)).wk ⟨rfl, trivial⟩
set_option maxRecDepth 20000 in
set_option maxHeartbeats 4000000 in
theorem k_Pool_load_53 {g : im_g} {d : Nat} {e : im_E} {M : im_M} {K : im_K} {p1 p3 : Int} {p2 : Nat} (hp2 : im_num e p2) (hP : (im_i32 p3) ∧ ((((p3 < (M p2 1) → (im_i32 ((p1 + 1) + p3)) ∧ ((((p1 + 1) + p3) < 32836 → (0 ≤ ((p1 + 1) + p3) ∧ ((p1 + 1) + p3) < 32836) ∧ (0 ≤ p3 ∧ p3 < 34) ∧ im_T g d 125 53 [some (.ref 13), some (vI p1), some (.ref p2), some (vI (p3 + 1))] [] e (im_u M (p2 + 1) p3 (M 22 ((p1 + 1) + p3))) K))))) ∧ (((((M p2 1) ≤ p3)) ∨ ((p3 < (M p2 1)) ∧ (32836 ≤ ((p1 + 1) + p3)))) → K (.inl (some (vI ((p1 + 1) + (M p2 1))))) e M))) : im_T g d 125 53 [some (.ref 13), some (vI p1), some (.ref p2), some (vI p3)] [] e M K := by
  refine im_ld (q := 54) (i := 3) D125_53 rfl rfl rfl ?_
  refine im_ld (q := 55) (i := 2) D125_54 rfl rfl rfl ?_
  refine im_rng (j := 1) hp2.1 (by decide) (show (1 : Int) < ((3 : Nat) : Int) by decide) (fun hr1 => ?_)
  refine im_gfI (q := 58) D125_55 (im_fl cn_125 fl_5_48) hp2.1 rfl rfl tI_3_1 rfl ?_
  obtain ⟨hg2, hP⟩ := hP
  obtain ⟨hP, hJ8⟩ := hP
  have kJ9 : ((((M p2 1) ≤ p3)) ∨ ((p3 < (M p2 1)) ∧ (32836 ≤ ((p1 + 1) + p3)))) → im_T g d 125 96 [none, some (vI p1), some (.ref p2), none] [] e M K := by
    intro  hx10
    have hP := hJ8  hx10
    refine im_ld (q := 97) (i := 1) D125_96 rfl rfl rfl ?_
    refine im_iconst (q := 98) D125_97 ?_
    refine im_iadd (q := 99) D125_98 ?_
    refine im_ld (q := 100) (i := 2) D125_99 rfl rfl rfl ?_
    refine im_gfI (q := 103) D125_100 (im_fl cn_125 fl_5_48) hp2.1 rfl rfl tI_3_1 rfl ?_
    refine im_iadd (q := 104) D125_103 ?_
    exact im_iret (q := 105) D125_104 rfl hP
  refine im_icmp (q := 61) (t := 96) D125_58 rfl hg2 hr1 (fun hc3 => ?_) (fun hc3 => ?_)
  · exact (kJ9  (Or.inl hc3)).wk ⟨rfl, rfl, trivial⟩
  · replace hP := hP (Int.not_le.mp hc3)
    refine im_ld (q := 62) (i := 1) D125_61 rfl rfl rfl ?_
    refine im_iconst (q := 63) D125_62 ?_
    refine im_iadd (q := 64) D125_63 ?_
    refine im_ld (q := 65) (i := 3) D125_64 rfl rfl rfl ?_
    refine im_iadd (q := 66) D125_65 ?_
    refine im_ld (q := 67) (i := 0) D125_66 rfl rfl rfl ?_
    refine im_gfR (q := 70) (b := 22) D125_67 (im_fl cn_125 fl_5_38) sf_13 rfl rfl tR_5_9 rfl ?_
    refine im_alen (q := 71) D125_70 sf_22 (by decide) ?_
    obtain ⟨hg4, hP⟩ := hP
    refine im_icmp (q := 74) (t := 96) D125_71 rfl hg4 (by decide) (fun hc5 => ?_) (fun hc5 => ?_)
    · exact (kJ9  (Or.inr ⟨(Int.not_le.mp hc3), hc5⟩)).wk ⟨rfl, rfl, trivial⟩
    · replace hP := hP (Int.not_le.mp hc5)
      refine im_ld (q := 75) (i := 2) D125_74 rfl rfl rfl ?_
      refine im_gfR (q := 78) (b := (p2 + 1)) D125_75 (im_fl cn_125 fl_5_56) hp2.1 rfl rfl tR_3_2 rfl ?_
      refine im_ld (q := 79) (i := 3) D125_78 rfl rfl rfl ?_
      refine im_ld (q := 80) (i := 0) D125_79 rfl rfl rfl ?_
      refine im_gfR (q := 83) (b := 22) D125_80 (im_fl cn_125 fl_5_38) sf_13 rfl rfl tR_5_9 rfl ?_
      refine im_ld (q := 84) (i := 1) D125_83 rfl rfl rfl ?_
      refine im_iconst (q := 85) D125_84 ?_
      refine im_iadd (q := 86) D125_85 ?_
      refine im_ld (q := 87) (i := 3) D125_86 rfl rfl rfl ?_
      refine im_iadd (q := 88) D125_87 ?_
      obtain ⟨hg6, hP⟩ := hP
      refine im_rng (j := ((p1 + 1) + p3)) sf_22 hg6.1 hg6.2 (fun hr7 => ?_)
      refine im_iald (q := 89) D125_88 sf_22 hg6.1 hg6.2 (by decide) rfl ?_
      obtain ⟨hg12, hP⟩ := hP
      refine im_iast (q := 90) D125_89 hp2.2 hg12.1 hg12.2 (by decide) hr7 ?_
      refine im_iinc (q := 93) (i := 3) (L' := [some (.ref 13), some (vI p1), some (.ref p2), some (vI (p3 + 1))]) D125_90 rfl (Nat.le_of_ble_eq_true rfl) rfl ?_
      refine im_goto (q := 96) (t := 53) D125_93 rfl ?_
      exact hP.wk ⟨rfl, rfl, rfl, rfl, trivial⟩
set_option maxRecDepth 20000 in
set_option maxHeartbeats 4000000 in
theorem k_Num_setTime_0 {g : im_g} {d : Nat} {e : im_E} {M : im_M} {K : im_K} {p1 : Int} {a0 : Nat} (ha0 : im_num e a0) (hd : 1 ≤ d) (hP : im_T g (d - 1) 101 0 [some (.ref a0)] [] e M (im_r0 (fun  e_ M1 => e = e_ ∧ im_T g d 127 6 [some (.ref a0), none, none, some (vL p1), none] [] e M1 K))) : im_T g d 127 0 [some (.ref a0), some (vL p1), none, none, none] [] e M K := by
  refine im_ld (q := 1) (i := 0) D127_0 rfl rfl rfl ?_
  refine im_callV (q := 4) (kd := 1) (y := 101) (n := 0) (ci := 3) (a := a0) (vs := [.ref a0]) (r := []) (L2 := [some (.ref a0)]) D127_1 (im_cal cn_127 cl_3_22) (Or.inl rfl) rfl ha0.1 rfl rfl rfl rfl hd ⟨rfl, trivial⟩ ?_
  refine hP.mono ?_
  rintro _ e2 M1 ⟨rfl, rfl, hP⟩
  refine im_bkN ?_
  refine im_ld (q := 5) (i := 1) D127_4 rfl rfl rfl ?_
  refine im_st2 (q := 6) (i := 3) (L' := [some (.ref a0), some (vL p1), none, some (vL p1), none]) D127_5 (Or.inl ⟨_, rfl, rfl⟩) (Nat.le_of_ble_eq_true rfl) rfl ?_
  exact hP.wk ⟨rfl, rfl, trivial⟩
set_option maxRecDepth 20000 in
set_option maxHeartbeats 4000000 in
theorem k_Num_setTime_6 {g : im_g} {d : Nat} {e : im_E} {M : im_M} {K : im_K} {p3 : Int} {a0 : Nat} (ha0 : im_num e a0) (hP : (im_i64 p3) ∧ ((((0 < p3 → (((M a0 1) < 34 → (0 ≤ (M a0 1) ∧ (M a0 1) < 34) ∧ (im_i32 (p3.tmod 1000000000)) ∧ (im_i32 (((im_u M (a0 + 1) (M a0 1) (p3.tmod 1000000000)) a0 1) + 1)) ∧ im_T g d 127 6 [some (.ref a0), none, none, some (vL (p3.tdiv 1000000000)), none] [] e (im_u (im_u M (a0 + 1) (M a0 1) (p3.tmod 1000000000)) a0 1 (((im_u M (a0 + 1) (M a0 1) (p3.tmod 1000000000)) a0 1) + 1)) K))))) ∧ ((((p3 ≤ 0)) ∨ ((0 < p3) ∧ (34 ≤ (M a0 1)))) → ((∀ x11 : Int, (((¬ (M a0 1) = 0) ∧ x11 = 1) ∨ (((M a0 1) = 0) ∧ x11 = 0)) → K (.inl none) e (im_u M a0 0 x11)))))) : im_T g d 127 6 [some (.ref a0), none, none, some (vL p3), none] [] e M K := by
  refine im_ld (q := 7) (i := 3) D127_6 rfl rfl rfl ?_
  refine im_lconst (q := 8) (z := 0) D127_7 rfl ?_
  obtain ⟨hg1, hP⟩ := hP
  obtain ⟨hP, hJ6⟩ := hP
  have kJ7 : (((p3 ≤ 0)) ∨ ((0 < p3) ∧ (34 ≤ (M a0 1)))) → im_T g d 127 55 [some (.ref a0), none, none, none, none] [] e M K := by
    intro  hx8
    have hP := hJ6  hx8
    refine im_ld (q := 56) (i := 0) D127_55 rfl rfl rfl ?_
    refine im_ld (q := 57) (i := 0) D127_56 rfl rfl rfl ?_
    refine im_rng (j := 1) ha0.1 (by decide) (show (1 : Int) < ((3 : Nat) : Int) by decide) (fun hr9 => ?_)
    refine im_gfI (q := 60) D127_57 (im_fl cn_127 fl_3_19) ha0.1 rfl rfl tI_3_1 rfl ?_
    have hJ12 := hP
    have kJ13 : ∀ x11 : Int, (((¬ (M a0 1) = 0) ∧ x11 = 1) ∨ (((M a0 1) = 0) ∧ x11 = 0)) → im_T g d 127 68 [none, none, none, none, none] [vI x11, .ref a0] e M K := by
      intro x11 hx14
      have hP := hJ12 x11 hx14
      refine im_pfI (q := 71) D127_68 (im_fl cn_127 fl_3_15) ha0.1 rfl rfl ti_3_0 (by clear hP; omega) ?_
      exact im_vret (q := 72) D127_71 rfl hP
    refine im_ifc (q := 63) (t := 67) D127_60 rfl hr9 (fun hc10 => ?_) (fun hc10 => ?_)
    · refine im_iconst (q := 68) D127_67 ?_
      exact (kJ13 (1) (Or.inl ⟨hc10, rfl⟩)).wk trivial
    · refine im_iconst (q := 64) D127_63 ?_
      refine im_goto (q := 67) (t := 68) D127_64 rfl ?_
      exact (kJ13 (0) (Or.inr ⟨(Decidable.not_not.mp hc10), rfl⟩)).wk trivial
  refine im_lif (q := 9) (q2 := 12) (t := 55) D127_8 D127_9 rfl hg1 (by decide) (fun hc2 => ?_) (fun hc2 => ?_)
  · exact (kJ7  (Or.inl hc2)).wk ⟨rfl, trivial⟩
  · replace hP := hP (Int.not_le.mp hc2)
    refine im_ld (q := 13) (i := 0) D127_12 rfl rfl rfl ?_
    refine im_rng (j := 1) ha0.1 (by decide) (show (1 : Int) < ((3 : Nat) : Int) by decide) (fun hr3 => ?_)
    refine im_gfI (q := 16) D127_13 (im_fl cn_127 fl_3_19) ha0.1 rfl rfl tI_3_1 rfl ?_
    refine im_bipush (q := 18) D127_16 rfl ?_
    refine im_icmp (q := 21) (t := 55) D127_18 rfl hr3 (by decide) (fun hc4 => ?_) (fun hc4 => ?_)
    · exact (kJ7  (Or.inr ⟨(Int.not_le.mp hc2), hc4⟩)).wk ⟨rfl, trivial⟩
    · replace hP := hP (Int.not_le.mp hc4)
      refine im_ld (q := 22) (i := 0) D127_21 rfl rfl rfl ?_
      refine im_gfR (q := 25) (b := (a0 + 1)) D127_22 (im_fl cn_127 fl_3_9) ha0.1 rfl rfl tR_3_2 rfl ?_
      refine im_ld (q := 26) (i := 0) D127_25 rfl rfl rfl ?_
      refine im_gfI (q := 29) D127_26 (im_fl cn_127 fl_3_19) ha0.1 rfl rfl tI_3_1 rfl ?_
      refine im_ld (q := 30) (i := 3) D127_29 rfl rfl rfl ?_
      refine im_ldc2 (q := 33) (n := 1000000000) D127_30 rfl ?_
      refine im_lrem (q := 34) D127_33 hg1 (by decide) (by decide) ?_
      refine im_l2i (q := 35) D127_34 ?_
      obtain ⟨hg15, hP⟩ := hP
      obtain ⟨hg16, hP⟩ := hP
      refine im_iast (q := 36) D127_35 ha0.2 hg15.1 hg15.2 (by decide) hg16 ?_
      refine im_ld (q := 37) (i := 0) D127_36 rfl rfl rfl ?_
      refine im_dup (q := 38) D127_37 rfl ?_
      refine im_rng (j := 1) ha0.1 (by decide) (show (1 : Int) < ((3 : Nat) : Int) by decide) (fun hr17 => ?_)
      refine im_gfI (q := 41) D127_38 (im_fl cn_127 fl_3_19) ha0.1 rfl rfl tI_3_1 rfl ?_
      refine im_iconst (q := 42) D127_41 ?_
      refine im_iadd (q := 43) D127_42 ?_
      obtain ⟨hg18, hP⟩ := hP
      refine im_pfI (q := 46) D127_43 (im_fl cn_127 fl_3_19) ha0.1 rfl rfl ti_3_1 hg18 ?_
      refine im_ld (q := 47) (i := 3) D127_46 rfl rfl rfl ?_
      refine im_ldc2 (q := 50) (n := 1000000000) D127_47 rfl ?_
      refine im_ldiv (q := 51) D127_50 hg1 (by decide) (by decide) ?_
      refine im_st2 (q := 52) (i := 3) (L' := [some (.ref a0), none, none, some (vL (p3.tdiv 1000000000)), none]) D127_51 (Or.inl ⟨_, rfl, rfl⟩) (Nat.le_of_ble_eq_true rfl) rfl ?_
      refine im_goto (q := 55) (t := 6) D127_52 rfl ?_
      exact hP.wk ⟨rfl, rfl, trivial⟩
set_option maxRecDepth 20000 in
set_option maxHeartbeats 4000000 in
theorem k_Machine_raise_0 {g : im_g} {d : Nat} {e : im_E} {M : im_M} {K : im_K} {p1 : Int} (hP : (0 ≤ (p1 + 1) ∧ (p1 + 1) < 104) ∧ ∃ b2 : Nat, ((M 932 (p1 + 1)) = (b2 : Int)) ∧ (im_num e b2) ∧ (0 ≤ p1 ∧ p1 < 104) ∧ ∃ b6 : Nat, ((M 932 p1) = (b6 : Int)) ∧ (im_num e b6) ∧ K (.inl none) e (im_u (im_u M 932 (p1 + 1) (b6 : Nat)) 932 p1 (b2 : Nat))) : im_T g d 128 0 [some (.ref 931), some (vI p1), none] [] e M K := by
  refine im_ld (q := 1) (i := 0) D128_0 rfl rfl rfl ?_
  refine im_gfR (q := 4) (b := 932) D128_1 (im_fl cn_128 fl_2_11) sf_931 rfl rfl tR_2_1 rfl ?_
  refine im_ld (q := 5) (i := 1) D128_4 rfl rfl rfl ?_
  refine im_iconst (q := 6) D128_5 ?_
  refine im_iadd (q := 7) D128_6 ?_
  obtain ⟨hg1, hP⟩ := hP
  obtain ⟨b2, hb3, hP⟩ := hP
  obtain ⟨hb4, hP⟩ := hP
  refine im_aald (q := 8) D128_7 sf_932 (Or.inl rfl) hg1.1 hg1.2 (by decide) hb3 ?_
  refine im_stR (q := 9) (i := 2) (L' := [some (.ref 931), some (vI p1), some (.ref b2)]) D128_8 (Or.inl ⟨_, rfl, rfl⟩) (Nat.le_of_ble_eq_true rfl) rfl ?_
  refine im_ld (q := 10) (i := 0) D128_9 rfl rfl rfl ?_
  refine im_gfR (q := 13) (b := 932) D128_10 (im_fl cn_128 fl_2_11) sf_931 rfl rfl tR_2_1 rfl ?_
  refine im_ld (q := 14) (i := 1) D128_13 rfl rfl rfl ?_
  refine im_iconst (q := 15) D128_14 ?_
  refine im_iadd (q := 16) D128_15 ?_
  refine im_ld (q := 17) (i := 0) D128_16 rfl rfl rfl ?_
  refine im_gfR (q := 20) (b := 932) D128_17 (im_fl cn_128 fl_2_11) sf_931 rfl rfl tR_2_1 rfl ?_
  refine im_ld (q := 21) (i := 1) D128_20 rfl rfl rfl ?_
  obtain ⟨hg5, hP⟩ := hP
  obtain ⟨b6, hb7, hP⟩ := hP
  obtain ⟨hb8, hP⟩ := hP
  refine im_aald (q := 22) D128_21 sf_932 (Or.inl rfl) hg5.1 hg5.2 (by decide) hb7 ?_
  refine im_aast (q := 23) D128_22 sf_932 (Or.inl rfl) hb8.1 rfl hg1.1 hg1.2 (by decide) ?_
  refine im_ld (q := 24) (i := 0) D128_23 rfl rfl rfl ?_
  refine im_gfR (q := 27) (b := 932) D128_24 (im_fl cn_128 fl_2_11) sf_931 rfl rfl tR_2_1 rfl ?_
  refine im_ld (q := 28) (i := 1) D128_27 rfl rfl rfl ?_
  refine im_ld (q := 29) (i := 2) D128_28 rfl rfl rfl ?_
  refine im_aast (q := 30) D128_29 sf_932 (Or.inl rfl) hb4.1 rfl hg5.1 hg5.2 (by decide) ?_
  exact im_vret (q := 31) D128_30 rfl hP
set_option maxRecDepth 20000 in
set_option maxHeartbeats 4000000 in
theorem k_Num_add_0 {g : im_g} {d : Nat} {e : im_E} {M : im_M} {K : im_K} {p2 : Int} {a0 : Nat} (ha0 : im_num e a0) {p1 : Nat} (hp1 : im_num e p1) (hd : 1 ≤ d) (hP : (im_i32 ((M p1 0) * p2)) ∧ ((((¬ ((M p1 0) * p2) = 0 → ((¬ (M a0 0) = 0 → ((¬ (M a0 0) = ((M p1 0) * p2) → im_T g (d - 1) 69 0 [some (.ref a0), some (.ref p1), none] [] e M (im_ri (fun x16 e_ M15 => e = e_ ∧ (im_i32 x16) ∧ ((x16 < 0 → im_T g (d - 1) 120 0 [some (.ref a0), some (.ref p1), some (.ref a0), none, none, none, none] [] e (im_u M15 a0 0 ((M p1 0) * p2)) (im_r0 (fun  e_ M19 => e = e_ ∧ K (.inl (some (vI 1))) e M19))) ∧ (0 ≤ x16 → im_T g (d - 1) 120 0 [some (.ref a0), some (.ref a0), some (.ref p1), none, none, none, none] [] e M15 (im_r0 (fun  e_ M21 => e = e_ ∧ K (.inl (some (vI 1))) e M21))))))))))) ∧ (((M p1 0) * p2) = 0 → K (.inl (some (vI 1))) e M))) ∧ ((((¬ ((M p1 0) * p2) = 0) ∧ ((M a0 0) = 0)) ∨ ((¬ ((M p1 0) * p2) = 0) ∧ (¬ (M a0 0) = 0) ∧ ((M a0 0) = ((M p1 0) * p2)))) → im_T g (d - 1) 97 0 [some (.ref a0), some (.ref p1), none, none, none, none] [] e (im_u M a0 0 ((M p1 0) * p2)) (im_ri (fun x12 e_ M11 => e = e_ ∧ (0 ≤ x12 ∧ x12 ≤ 1) ∧ K (.inl (some (vI x12))) e M11))))) : im_T g d 129 0 [some (.ref a0), some (.ref p1), some (vI p2), none] [] e M K := by
  refine im_ld (q := 1) (i := 1) D129_0 rfl rfl rfl ?_
  refine im_rng (j := 0) hp1.1 (by decide) (show (0 : Int) < ((3 : Nat) : Int) by decide) (fun hr1 => ?_)
  refine im_gfI (q := 4) D129_1 (im_fl cn_129 fl_3_15) hp1.1 rfl rfl tI_3_0 rfl ?_
  refine im_ld (q := 5) (i := 2) D129_4 rfl rfl rfl ?_
  refine im_imul (q := 6) D129_5 ?_
  refine im_st1 (q := 7) (i := 3) (L' := [some (.ref a0), some (.ref p1), some (vI p2), some (vI ((M p1 0) * p2))]) D129_6 (Or.inl ⟨_, rfl, rfl⟩) (Nat.le_of_ble_eq_true rfl) rfl ?_
  refine im_ld (q := 8) (i := 3) D129_7 rfl rfl rfl ?_
  obtain ⟨hg2, hP⟩ := hP
  obtain ⟨hP, hJ8⟩ := hP
  have kJ9 : (((¬ ((M p1 0) * p2) = 0) ∧ ((M a0 0) = 0)) ∨ ((¬ ((M p1 0) * p2) = 0) ∧ (¬ (M a0 0) = 0) ∧ ((M a0 0) = ((M p1 0) * p2)))) → im_T g d 129 28 [some (.ref a0), some (.ref p1), none, some (vI ((M p1 0) * p2))] [] e M K := by
    intro  hx10
    have hP := hJ8  hx10
    refine im_ld (q := 29) (i := 0) D129_28 rfl rfl rfl ?_
    refine im_ld (q := 30) (i := 3) D129_29 rfl rfl rfl ?_
    refine im_pfI (q := 33) D129_30 (im_fl cn_129 fl_3_15) ha0.1 rfl rfl ti_3_0 hg2 ?_
    refine im_ld (q := 34) (i := 0) D129_33 rfl rfl rfl ?_
    refine im_ld (q := 35) (i := 1) D129_34 rfl rfl rfl ?_
    refine im_callV (q := 38) (kd := 1) (y := 97) (n := 1) (ci := 3) (a := a0) (vs := [.ref a0, .ref p1]) (r := []) (L2 := [some (.ref a0), some (.ref p1), none, none, none, none]) D129_35 (im_cal cn_129 cl_3_46) (Or.inl rfl) rfl ha0.1 rfl rfl rfl rfl hd ⟨rfl, rfl, trivial⟩ ?_
    refine hP.mono ?_
    rintro _ e14 M11 ⟨x12, rfl, rfl, hP⟩
    refine im_bkS ?_
    obtain ⟨hg13, hP⟩ := hP
    exact im_zret (q := 39) D129_38 rfl hg13 hP
  refine im_ifc (q := 11) (t := 13) D129_8 rfl hg2 (fun hc3 => ?_) (fun hc3 => ?_)
  · replace hP := hP.1 hc3
    refine im_ld (q := 14) (i := 0) D129_13 rfl rfl rfl ?_
    refine im_rng (j := 0) ha0.1 (by decide) (show (0 : Int) < ((3 : Nat) : Int) by decide) (fun hr4 => ?_)
    refine im_gfI (q := 17) D129_14 (im_fl cn_129 fl_3_15) ha0.1 rfl rfl tI_3_0 rfl ?_
    refine im_ifc (q := 20) (t := 28) D129_17 rfl hr4 (fun hc5 => ?_) (fun hc5 => ?_)
    · exact (kJ9  (Or.inl ⟨hc3, hc5⟩)).wk ⟨rfl, rfl, rfl, trivial⟩
    · replace hP := hP hc5
      refine im_ld (q := 21) (i := 0) D129_20 rfl rfl rfl ?_
      refine im_gfI (q := 24) D129_21 (im_fl cn_129 fl_3_15) ha0.1 rfl rfl tI_3_0 rfl ?_
      refine im_ld (q := 25) (i := 3) D129_24 rfl rfl rfl ?_
      refine im_icmp (q := 28) (t := 39) D129_25 rfl hr4 hg2 (fun hc7 => ?_) (fun hc7 => ?_)
      · replace hP := hP hc7
        refine im_ld (q := 40) (i := 0) D129_39 rfl rfl rfl ?_
        refine im_ld (q := 41) (i := 1) D129_40 rfl rfl rfl ?_
        refine im_callV (q := 44) (kd := 1) (y := 69) (n := 1) (ci := 3) (a := a0) (vs := [.ref a0, .ref p1]) (r := []) (L2 := [some (.ref a0), some (.ref p1), none]) D129_41 (im_cal cn_129 cl_3_37) (Or.inl rfl) rfl ha0.1 rfl rfl rfl rfl hd ⟨rfl, rfl, trivial⟩ ?_
        refine hP.mono ?_
        rintro _ e23 M15 ⟨x16, rfl, rfl, hP⟩
        refine im_bkS ?_
        obtain ⟨hg17, hP⟩ := hP
        refine im_ifc (q := 47) (t := 56) D129_44 rfl hg17 (fun hc18 => ?_) (fun hc18 => ?_)
        · replace hP := hP.1 hc18
          refine im_ld (q := 57) (i := 0) D129_56 rfl rfl rfl ?_
          refine im_ld (q := 58) (i := 3) D129_57 rfl rfl rfl ?_
          refine im_pfI (q := 61) D129_58 (im_fl cn_129 fl_3_15) ha0.1 rfl rfl ti_3_0 hg2 ?_
          refine im_ld (q := 62) (i := 0) D129_61 rfl rfl rfl ?_
          refine im_ld (q := 63) (i := 1) D129_62 rfl rfl rfl ?_
          refine im_ld (q := 64) (i := 0) D129_63 rfl rfl rfl ?_
          refine im_callV (q := 67) (kd := 1) (y := 120) (n := 2) (ci := 3) (a := a0) (vs := [.ref a0, .ref p1, .ref a0]) (r := []) (L2 := [some (.ref a0), some (.ref p1), some (.ref a0), none, none, none, none]) D129_64 (im_cal cn_129 cl_3_50) (Or.inl rfl) rfl ha0.1 rfl rfl rfl rfl hd ⟨rfl, rfl, rfl, trivial⟩ ?_
          refine hP.mono ?_
          rintro _ e20 M19 ⟨rfl, rfl, hP⟩
          refine im_bkN ?_
          refine im_iconst (q := 68) D129_67 ?_
          exact im_zret (q := 69) D129_68 rfl (by decide) hP
        · replace hP := hP.2 (Int.not_lt.mp hc18)
          refine im_ld (q := 48) (i := 0) D129_47 rfl rfl rfl ?_
          refine im_ld (q := 49) (i := 0) D129_48 rfl rfl rfl ?_
          refine im_ld (q := 50) (i := 1) D129_49 rfl rfl rfl ?_
          refine im_callV (q := 53) (kd := 1) (y := 120) (n := 2) (ci := 3) (a := a0) (vs := [.ref a0, .ref a0, .ref p1]) (r := []) (L2 := [some (.ref a0), some (.ref a0), some (.ref p1), none, none, none, none]) D129_50 (im_cal cn_129 cl_3_50) (Or.inl rfl) rfl ha0.1 rfl rfl rfl rfl hd ⟨rfl, rfl, rfl, trivial⟩ ?_
          refine hP.mono ?_
          rintro _ e22 M21 ⟨rfl, rfl, hP⟩
          refine im_bkN ?_
          refine im_goto (q := 56) (t := 67) D129_53 rfl ?_
          refine im_iconst (q := 68) D129_67 ?_
          exact im_zret (q := 69) D129_68 rfl (by decide) hP
      · exact (kJ9  (Or.inr ⟨hc3, hc5, (Decidable.not_not.mp hc7)⟩)).wk ⟨rfl, rfl, rfl, trivial⟩
  · replace hP := hP.2 (Decidable.not_not.mp hc3)
    refine im_iconst (q := 12) D129_11 ?_
    exact im_zret (q := 13) D129_12 rfl (by decide) hP
set_option maxRecDepth 20000 in
set_option maxHeartbeats 4000000 in
theorem k_Num_multiply_0 {g : im_g} {d : Nat} {e : im_E} {M : im_M} {K : im_K} {a0 : Nat} (ha0 : im_num e a0) {p1 : Nat} (hp1 : im_num e p1) (hd : 1 ≤ d) (hP : ((((¬ (M a0 0) = 0 → ((¬ (M p1 0) = 0 → (im_i32 ((M a0 1) + (M p1 1))) ∧ ((((M a0 1) + (M p1 1)) ≤ 35 → im_T g d 130 61 [some (.ref a0), some (.ref p1), some (.ref 933), some (vI ((M a0 1) + (M p1 1))), some (vI 0), none, none, none, none, none] [] e M K))))))) ∧ (((((M a0 0) = 0)) ∨ ((¬ (M a0 0) = 0) ∧ ((M p1 0) = 0)) ∨ ((¬ (M a0 0) = 0) ∧ (¬ (M p1 0) = 0) ∧ (35 < ((M a0 1) + (M p1 1))))) → ((((¬ (M a0 0) = 0 → ((¬ (M p1 0) = 0 → im_T g (d - 1) 101 0 [some (.ref a0)] [] e M (im_r0 (fun  e_ M21 => e = e_ ∧ K (.inl (some (vI 0))) e M21))))))) ∧ (((((M a0 0) = 0)) ∨ ((¬ (M a0 0) = 0) ∧ ((M p1 0) = 0))) → im_T g (d - 1) 101 0 [some (.ref a0)] [] e M (im_r0 (fun  e_ M19 => e = e_ ∧ K (.inl (some (vI 1))) e M19))))))) : im_T g d 130 0 [some (.ref a0), some (.ref p1), some (.ref 933), none, none, none, none, none, none, none] [] e M K := by
  refine im_ld (q := 1) (i := 0) D130_0 rfl rfl rfl ?_
  refine im_rng (j := 1) ha0.1 (by decide) (show (1 : Int) < ((3 : Nat) : Int) by decide) (fun hr1 => ?_)
  refine im_gfI (q := 4) D130_1 (im_fl cn_130 fl_3_19) ha0.1 rfl rfl tI_3_1 rfl ?_
  refine im_ld (q := 5) (i := 1) D130_4 rfl rfl rfl ?_
  refine im_rng (j := 1) hp1.1 (by decide) (show (1 : Int) < ((3 : Nat) : Int) by decide) (fun hr2 => ?_)
  refine im_gfI (q := 8) D130_5 (im_fl cn_130 fl_3_19) hp1.1 rfl rfl tI_3_1 rfl ?_
  refine im_iadd (q := 9) D130_8 ?_
  refine im_st1 (q := 10) (i := 3) (L' := [some (.ref a0), some (.ref p1), some (.ref 933), some (vI ((M a0 1) + (M p1 1))), none, none, none, none, none, none]) D130_9 (Or.inl ⟨_, rfl, rfl⟩) (Nat.le_of_ble_eq_true rfl) rfl ?_
  refine im_ld (q := 11) (i := 0) D130_10 rfl rfl rfl ?_
  refine im_rng (j := 0) ha0.1 (by decide) (show (0 : Int) < ((3 : Nat) : Int) by decide) (fun hr3 => ?_)
  refine im_gfI (q := 14) D130_11 (im_fl cn_130 fl_3_15) ha0.1 rfl rfl tI_3_0 rfl ?_
  obtain ⟨hP, hJ9⟩ := hP
  have kJ10 : ((((M a0 0) = 0)) ∨ ((¬ (M a0 0) = 0) ∧ ((M p1 0) = 0)) ∨ ((¬ (M a0 0) = 0) ∧ (¬ (M p1 0) = 0) ∧ (35 < ((M a0 1) + (M p1 1))))) → im_T g d 130 30 [some (.ref a0), some (.ref p1), none, none, none, none, none, none, none, none] [] e M K := by
    intro  hx11
    have hP := hJ9  hx11
    refine im_ld (q := 31) (i := 0) D130_30 rfl rfl rfl ?_
    refine im_gfI (q := 34) D130_31 (im_fl cn_130 fl_3_15) ha0.1 rfl rfl tI_3_0 rfl ?_
    obtain ⟨hP, hJ16⟩ := hP
    have kJ17 : ((((M a0 0) = 0)) ∨ ((¬ (M a0 0) = 0) ∧ ((M p1 0) = 0))) → im_T g d 130 44 [some (.ref a0), none, none, none, none, none, none, none, none, none] [] e M K := by
      intro  hx18
      have hP := hJ16  hx18
      refine im_iconst (q := 45) D130_44 ?_
      refine im_goto (q := 48) (t := 49) D130_45 rfl ?_
      refine im_st1 (q := 51) (i := 4) (L' := [some (.ref a0), none, none, none, some (vI 1), none, none, none, none, none]) D130_49 (Or.inr rfl) (Nat.le_of_ble_eq_true rfl) rfl ?_
      refine im_ld (q := 52) (i := 0) D130_51 rfl rfl rfl ?_
      refine im_callV (q := 55) (kd := 1) (y := 101) (n := 0) (ci := 3) (a := a0) (vs := [.ref a0]) (r := []) (L2 := [some (.ref a0)]) D130_52 (im_cal cn_130 cl_3_22) (Or.inl rfl) rfl ha0.1 rfl rfl rfl rfl hd ⟨rfl, trivial⟩ ?_
      refine hP.mono ?_
      rintro _ e20 M19 ⟨rfl, rfl, hP⟩
      refine im_bkN ?_
      refine im_ld (q := 57) (i := 4) D130_55 rfl rfl rfl ?_
      exact im_zret (q := 58) D130_57 rfl (by decide) hP
    refine im_ifc (q := 37) (t := 44) D130_34 rfl hr3 (fun hc13 => ?_) (fun hc13 => ?_)
    · exact (kJ17  (Or.inl hc13)).wk ⟨rfl, trivial⟩
    · replace hP := hP hc13
      refine im_ld (q := 38) (i := 1) D130_37 rfl rfl rfl ?_
      refine im_rng (j := 0) hp1.1 (by decide) (show (0 : Int) < ((3 : Nat) : Int) by decide) (fun hr14 => ?_)
      refine im_gfI (q := 41) D130_38 (im_fl cn_130 fl_3_15) hp1.1 rfl rfl tI_3_0 rfl ?_
      refine im_ifc (q := 44) (t := 48) D130_41 rfl hr14 (fun hc15 => ?_) (fun hc15 => ?_)
      · replace hP := hP hc15
        refine im_iconst (q := 49) D130_48 ?_
        refine im_st1 (q := 51) (i := 4) (L' := [some (.ref a0), some (.ref p1), none, none, some (vI 0), none, none, none, none, none]) D130_49 (Or.inr rfl) (Nat.le_of_ble_eq_true rfl) rfl ?_
        refine im_ld (q := 52) (i := 0) D130_51 rfl rfl rfl ?_
        refine im_callV (q := 55) (kd := 1) (y := 101) (n := 0) (ci := 3) (a := a0) (vs := [.ref a0]) (r := []) (L2 := [some (.ref a0)]) D130_52 (im_cal cn_130 cl_3_22) (Or.inl rfl) rfl ha0.1 rfl rfl rfl rfl hd ⟨rfl, trivial⟩ ?_
        refine hP.mono ?_
        rintro _ e22 M21 ⟨rfl, rfl, hP⟩
        refine im_bkN ?_
        refine im_ld (q := 57) (i := 4) D130_55 rfl rfl rfl ?_
        exact im_zret (q := 58) D130_57 rfl (by decide) hP
      · exact (kJ17  (Or.inr ⟨hc13, (Decidable.not_not.mp hc15)⟩)).wk ⟨rfl, trivial⟩
  refine im_ifc (q := 17) (t := 30) D130_14 rfl hr3 (fun hc4 => ?_) (fun hc4 => ?_)
  · exact (kJ10  (Or.inl hc4)).wk ⟨rfl, rfl, trivial⟩
  · replace hP := hP hc4
    refine im_ld (q := 18) (i := 1) D130_17 rfl rfl rfl ?_
    refine im_rng (j := 0) hp1.1 (by decide) (show (0 : Int) < ((3 : Nat) : Int) by decide) (fun hr5 => ?_)
    refine im_gfI (q := 21) D130_18 (im_fl cn_130 fl_3_15) hp1.1 rfl rfl tI_3_0 rfl ?_
    refine im_ifc (q := 24) (t := 30) D130_21 rfl hr5 (fun hc6 => ?_) (fun hc6 => ?_)
    · exact (kJ10  (Or.inr (Or.inl ⟨hc4, hc6⟩))).wk ⟨rfl, rfl, trivial⟩
    · replace hP := hP hc6
      refine im_ld (q := 25) (i := 3) D130_24 rfl rfl rfl ?_
      refine im_bipush (q := 27) D130_25 rfl ?_
      obtain ⟨hg7, hP⟩ := hP
      refine im_icmp (q := 30) (t := 58) D130_27 rfl hg7 (by decide) (fun hc8 => ?_) (fun hc8 => ?_)
      · replace hP := hP hc8
        refine im_iconst (q := 59) D130_58 ?_
        refine im_st1 (q := 61) (i := 4) (L' := [some (.ref a0), some (.ref p1), some (.ref 933), some (vI ((M a0 1) + (M p1 1))), some (vI 0), none, none, none, none, none]) D130_59 (Or.inr rfl) (Nat.le_of_ble_eq_true rfl) rfl ?_
        exact hP.wk ⟨rfl, rfl, rfl, rfl, rfl, trivial⟩
      · exact (kJ10  (Or.inr (Or.inr ⟨hc4, hc6, (Int.not_le.mp hc8)⟩))).wk ⟨rfl, rfl, trivial⟩
set_option maxRecDepth 20000 in
set_option maxHeartbeats 4000000 in
theorem k_Num_multiply_61 {g : im_g} {d : Nat} {e : im_E} {M : im_M} {K : im_K} {p3 p4 : Int} {a0 : Nat} (ha0 : im_num e a0) {p1 : Nat} (hp1 : im_num e p1) (hP : (im_i32 p4) ∧ (im_i32 p3) ∧ ((p3 ≤ p4 → im_T g d 130 81 [some (.ref a0), some (.ref p1), some (.ref 933), some (vI p3), some (vI 0), none, none, none, none, none] [] e M K) ∧ (p4 < p3 → (0 ≤ p4 ∧ p4 < 72) ∧ im_T g d 130 61 [some (.ref a0), some (.ref p1), some (.ref 933), some (vI p3), some (vI (p4 + 1)), none, none, none, none, none] [] e (im_u M 933 p4 0) K))) : im_T g d 130 61 [some (.ref a0), some (.ref p1), some (.ref 933), some (vI p3), some (vI p4), none, none, none, none, none] [] e M K := by
  refine im_ld (q := 63) (i := 4) D130_61 rfl rfl rfl ?_
  refine im_ld (q := 64) (i := 3) D130_63 rfl rfl rfl ?_
  obtain ⟨hg1, hP⟩ := hP
  obtain ⟨hg2, hP⟩ := hP
  refine im_icmp (q := 67) (t := 78) D130_64 rfl hg1 hg2 (fun hc3 => ?_) (fun hc3 => ?_)
  · replace hP := hP.1 hc3
    refine im_iconst (q := 79) D130_78 ?_
    refine im_st1 (q := 81) (i := 4) (L' := [some (.ref a0), some (.ref p1), some (.ref 933), some (vI p3), some (vI 0), none, none, none, none, none]) D130_79 (Or.inr rfl) (Nat.le_of_ble_eq_true rfl) rfl ?_
    exact hP.wk ⟨rfl, rfl, rfl, rfl, rfl, trivial⟩
  · replace hP := hP.2 (Int.not_le.mp hc3)
    refine im_ld (q := 68) (i := 2) D130_67 rfl rfl rfl ?_
    refine im_ld (q := 70) (i := 4) D130_68 rfl rfl rfl ?_
    refine im_lconst (q := 71) (z := 0) D130_70 rfl ?_
    obtain ⟨hg4, hP⟩ := hP
    refine im_last (q := 72) D130_71 sf_933 hg4.1 hg4.2 (by decide) (by decide) ?_
    refine im_iinc (q := 75) (i := 4) (L' := [some (.ref a0), some (.ref p1), some (.ref 933), some (vI p3), some (vI (p4 + 1)), none, none, none, none, none]) D130_72 rfl (Nat.le_of_ble_eq_true rfl) rfl ?_
    refine im_goto (q := 78) (t := 61) D130_75 rfl ?_
    exact hP.wk ⟨rfl, rfl, rfl, rfl, rfl, trivial⟩
set_option maxRecDepth 20000 in
set_option maxHeartbeats 4000000 in
theorem k_Num_multiply_81 {g : im_g} {d : Nat} {e : im_E} {M : im_M} {K : im_K} {p3 p4 : Int} {a0 : Nat} (ha0 : im_num e a0) {p1 : Nat} (hp1 : im_num e p1) (hd : 1 ≤ d) (hP : (im_i32 p4) ∧ (((((M a0 1) ≤ p4 → (im_i32 p3) ∧ ((34 < p3 → ((¬ (M 933 34) = 0 → im_T g (d - 1) 101 0 [some (.ref a0)] [] e M (im_r0 (fun  e_ M15 => e = e_ ∧ K (.inl (some (vI 0))) e M15))))))) ∧ (p4 < (M a0 1) → im_T g d 130 96 [some (.ref a0), some (.ref p1), some (.ref 933), some (vI p3), some (vI p4), some (vL 0), none, some (vI 0), none, none] [] e M K))) ∧ (((((M a0 1) ≤ p4) ∧ (p3 ≤ 34)) ∨ (((M a0 1) ≤ p4) ∧ (34 < p3) ∧ ((M 933 34) = 0))) → (im_i32 ((M a0 0) * (M p1 0))) ∧ (im_i32 p3) ∧ im_T g d 130 226 [some (.ref a0), none, some (.ref 933), none, some (vI 0), none, none, none, none, none] [] e (im_u (im_u M a0 0 ((M a0 0) * (M p1 0))) a0 1 (min p3 34)) K))) : im_T g d 130 81 [some (.ref a0), some (.ref p1), some (.ref 933), some (vI p3), some (vI p4), none, none, none, none, none] [] e M K := by
  refine im_ld (q := 83) (i := 4) D130_81 rfl rfl rfl ?_
  refine im_ld (q := 84) (i := 0) D130_83 rfl rfl rfl ?_
  refine im_rng (j := 1) ha0.1 (by decide) (show (1 : Int) < ((3 : Nat) : Int) by decide) (fun hr1 => ?_)
  refine im_gfI (q := 87) D130_84 (im_fl cn_130 fl_3_19) ha0.1 rfl rfl tI_3_1 rfl ?_
  obtain ⟨hg2, hP⟩ := hP
  obtain ⟨hP, hJ8⟩ := hP
  have kJ9 : ((((M a0 1) ≤ p4) ∧ (p3 ≤ 34)) ∨ (((M a0 1) ≤ p4) ∧ (34 < p3) ∧ ((M 933 34) = 0))) → im_T g d 130 200 [some (.ref a0), some (.ref p1), some (.ref 933), some (vI p3), none, none, none, none, none, none] [] e M K := by
    intro  hx10
    have hP := hJ8  hx10
    refine im_ld (q := 201) (i := 0) D130_200 rfl rfl rfl ?_
    refine im_ld (q := 202) (i := 0) D130_201 rfl rfl rfl ?_
    refine im_rng (j := 0) ha0.1 (by decide) (show (0 : Int) < ((3 : Nat) : Int) by decide) (fun hr11 => ?_)
    refine im_gfI (q := 205) D130_202 (im_fl cn_130 fl_3_15) ha0.1 rfl rfl tI_3_0 rfl ?_
    refine im_ld (q := 206) (i := 1) D130_205 rfl rfl rfl ?_
    refine im_rng (j := 0) hp1.1 (by decide) (show (0 : Int) < ((3 : Nat) : Int) by decide) (fun hr12 => ?_)
    refine im_gfI (q := 209) D130_206 (im_fl cn_130 fl_3_15) hp1.1 rfl rfl tI_3_0 rfl ?_
    refine im_imul (q := 210) D130_209 ?_
    obtain ⟨hg13, hP⟩ := hP
    refine im_pfI (q := 213) D130_210 (im_fl cn_130 fl_3_15) ha0.1 rfl rfl ti_3_0 hg13 ?_
    refine im_ld (q := 214) (i := 0) D130_213 rfl rfl rfl ?_
    refine im_ld (q := 215) (i := 3) D130_214 rfl rfl rfl ?_
    refine im_bipush (q := 217) D130_215 rfl ?_
    obtain ⟨hg14, hP⟩ := hP
    refine im_imin (q := 220) D130_217 rfl hg14 (by decide) rfl ?_
    refine im_pfI (q := 223) D130_220 (im_fl cn_130 fl_3_19) ha0.1 rfl rfl ti_3_1 (im_minr hg14 (by decide)) ?_
    refine im_iconst (q := 224) D130_223 ?_
    refine im_st1 (q := 226) (i := 4) (L' := [some (.ref a0), some (.ref p1), some (.ref 933), some (vI p3), some (vI 0), none, none, none, none, none]) D130_224 (Or.inr rfl) (Nat.le_of_ble_eq_true rfl) rfl ?_
    exact hP.wk ⟨rfl, rfl, rfl, trivial⟩
  refine im_icmp (q := 90) (t := 179) D130_87 rfl hg2 hr1 (fun hc3 => ?_) (fun hc3 => ?_)
  · replace hP := hP.1 hc3
    refine im_ld (q := 180) (i := 3) D130_179 rfl rfl rfl ?_
    refine im_bipush (q := 182) D130_180 rfl ?_
    obtain ⟨hg4, hP⟩ := hP
    refine im_icmp (q := 185) (t := 200) D130_182 rfl hg4 (by decide) (fun hc5 => ?_) (fun hc5 => ?_)
    · exact (kJ9  (Or.inl ⟨hc3, hc5⟩)).wk ⟨rfl, rfl, rfl, rfl, trivial⟩
    · replace hP := hP (Int.not_le.mp hc5)
      refine im_ld (q := 186) (i := 2) D130_185 rfl rfl rfl ?_
      refine im_bipush (q := 188) D130_186 rfl ?_
      refine im_rng (j := 34) sf_933 (by decide) (by decide) (fun hr6 => ?_)
      refine im_lald (q := 189) D130_188 sf_933 (by decide) (by decide) (by decide) rfl ?_
      refine im_lconst (q := 190) (z := 0) D130_189 rfl ?_
      refine im_lif (q := 191) (q2 := 194) (t := 200) D130_190 D130_191 rfl hr6 (by decide) (fun hc7 => ?_) (fun hc7 => ?_)
      · exact (kJ9  (Or.inr ⟨hc3, (Int.not_le.mp hc5), hc7⟩)).wk ⟨rfl, rfl, rfl, rfl, trivial⟩
      · replace hP := hP hc7
        refine im_ld (q := 195) (i := 0) D130_194 rfl rfl rfl ?_
        refine im_callV (q := 198) (kd := 1) (y := 101) (n := 0) (ci := 3) (a := a0) (vs := [.ref a0]) (r := []) (L2 := [some (.ref a0)]) D130_195 (im_cal cn_130 cl_3_22) (Or.inl rfl) rfl ha0.1 rfl rfl rfl rfl hd ⟨rfl, trivial⟩ ?_
        refine hP.mono ?_
        rintro _ e16 M15 ⟨rfl, rfl, hP⟩
        refine im_bkN ?_
        refine im_iconst (q := 199) D130_198 ?_
        exact im_zret (q := 200) D130_199 rfl (by decide) hP
  · replace hP := hP.2 (Int.not_le.mp hc3)
    refine im_lconst (q := 91) (z := 0) D130_90 rfl ?_
    refine im_st2 (q := 93) (i := 5) (L' := [some (.ref a0), some (.ref p1), some (.ref 933), some (vI p3), some (vI p4), some (vL 0), none, none, none, none]) D130_91 (Or.inr rfl) (Nat.le_of_ble_eq_true rfl) rfl ?_
    refine im_iconst (q := 94) D130_93 ?_
    refine im_st1 (q := 96) (i := 7) (L' := [some (.ref a0), some (.ref p1), some (.ref 933), some (vI p3), some (vI p4), some (vL 0), none, some (vI 0), none, none]) D130_94 (Or.inr rfl) (Nat.le_of_ble_eq_true rfl) rfl ?_
    exact hP.wk ⟨rfl, rfl, rfl, rfl, rfl, rfl, rfl, trivial⟩
set_option maxRecDepth 20000 in
set_option maxHeartbeats 4000000 in
theorem k_Num_multiply_96 {g : im_g} {d : Nat} {e : im_E} {M : im_M} {K : im_K} {p3 p4 p5 p7 : Int} {a0 : Nat} (ha0 : im_num e a0) {p1 : Nat} (hp1 : im_num e p1) (hP : (im_i32 p7) ∧ (((M p1 1) ≤ p7 → (0 ≤ (p4 + (M p1 1)) ∧ (p4 + (M p1 1)) < 72) ∧ (im_i64 p5) ∧ im_T g d 130 81 [some (.ref a0), some (.ref p1), some (.ref 933), some (vI p3), some (vI (p4 + 1)), none, none, none, none, none] [] e (im_u M 933 (p4 + (M p1 1)) p5) K) ∧ (p7 < (M p1 1) → (0 ≤ (p4 + p7) ∧ (p4 + p7) < 72) ∧ (0 ≤ p4 ∧ p4 < 34) ∧ (0 ≤ p7 ∧ p7 < 34) ∧ (im_i64 (((M 933 (p4 + p7)) + ((M (a0 + 1) p4) * (M (p1 + 1) p7))) + p5)) ∧ (im_i64 ((((M 933 (p4 + p7)) + ((M (a0 + 1) p4) * (M (p1 + 1) p7))) + p5).tmod 1000000000)) ∧ im_T g d 130 96 [some (.ref a0), some (.ref p1), some (.ref 933), some (vI p3), some (vI p4), some (vL ((((M 933 (p4 + p7)) + ((M (a0 + 1) p4) * (M (p1 + 1) p7))) + p5).tdiv 1000000000)), none, some (vI (p7 + 1)), none, none] [] e (im_u M 933 (p4 + p7) ((((M 933 (p4 + p7)) + ((M (a0 + 1) p4) * (M (p1 + 1) p7))) + p5).tmod 1000000000)) K))) : im_T g d 130 96 [some (.ref a0), some (.ref p1), some (.ref 933), some (vI p3), some (vI p4), some (vL p5), none, some (vI p7), none, none] [] e M K := by
  refine im_ld (q := 98) (i := 7) D130_96 rfl rfl rfl ?_
  refine im_ld (q := 99) (i := 1) D130_98 rfl rfl rfl ?_
  refine im_rng (j := 1) hp1.1 (by decide) (show (1 : Int) < ((3 : Nat) : Int) by decide) (fun hr1 => ?_)
  refine im_gfI (q := 102) D130_99 (im_fl cn_130 fl_3_19) hp1.1 rfl rfl tI_3_1 rfl ?_
  obtain ⟨hg2, hP⟩ := hP
  refine im_icmp (q := 105) (t := 162) D130_102 rfl hg2 hr1 (fun hc3 => ?_) (fun hc3 => ?_)
  · replace hP := hP.1 hc3
    refine im_ld (q := 163) (i := 2) D130_162 rfl rfl rfl ?_
    refine im_ld (q := 165) (i := 4) D130_163 rfl rfl rfl ?_
    refine im_ld (q := 166) (i := 1) D130_165 rfl rfl rfl ?_
    refine im_gfI (q := 169) D130_166 (im_fl cn_130 fl_3_19) hp1.1 rfl rfl tI_3_1 rfl ?_
    refine im_iadd (q := 170) D130_169 ?_
    refine im_ld (q := 172) (i := 5) D130_170 rfl rfl rfl ?_
    obtain ⟨hg11, hP⟩ := hP
    obtain ⟨hg12, hP⟩ := hP
    refine im_last (q := 173) D130_172 sf_933 hg11.1 hg11.2 (by decide) hg12 ?_
    refine im_iinc (q := 176) (i := 4) (L' := [some (.ref a0), some (.ref p1), some (.ref 933), some (vI p3), some (vI (p4 + 1)), some (vL p5), none, some (vI p7), none, none]) D130_173 rfl (Nat.le_of_ble_eq_true rfl) rfl ?_
    refine im_goto (q := 179) (t := 81) D130_176 rfl ?_
    exact hP.wk ⟨rfl, rfl, rfl, rfl, rfl, trivial⟩
  · replace hP := hP.2 (Int.not_le.mp hc3)
    refine im_ld (q := 106) (i := 2) D130_105 rfl rfl rfl ?_
    refine im_ld (q := 108) (i := 4) D130_106 rfl rfl rfl ?_
    refine im_ld (q := 110) (i := 7) D130_108 rfl rfl rfl ?_
    refine im_iadd (q := 111) D130_110 ?_
    obtain ⟨hg5, hP⟩ := hP
    refine im_rng (j := (p4 + p7)) sf_933 hg5.1 hg5.2 (fun hr6 => ?_)
    refine im_lald (q := 112) D130_111 sf_933 hg5.1 hg5.2 (by decide) rfl ?_
    refine im_ld (q := 113) (i := 0) D130_112 rfl rfl rfl ?_
    refine im_gfR (q := 116) (b := (a0 + 1)) D130_113 (im_fl cn_130 fl_3_9) ha0.1 rfl rfl tR_3_2 rfl ?_
    refine im_ld (q := 118) (i := 4) D130_116 rfl rfl rfl ?_
    obtain ⟨hg7, hP⟩ := hP
    refine im_rng (j := p4) ha0.2 hg7.1 hg7.2 (fun hr8 => ?_)
    refine im_iald (q := 119) D130_118 ha0.2 hg7.1 hg7.2 (by decide) rfl ?_
    refine im_i2l (q := 120) D130_119 hr8 ?_
    refine im_ld (q := 121) (i := 1) D130_120 rfl rfl rfl ?_
    refine im_gfR (q := 124) (b := (p1 + 1)) D130_121 (im_fl cn_130 fl_3_9) hp1.1 rfl rfl tR_3_2 rfl ?_
    refine im_ld (q := 126) (i := 7) D130_124 rfl rfl rfl ?_
    obtain ⟨hg9, hP⟩ := hP
    refine im_rng (j := p7) hp1.2 hg9.1 hg9.2 (fun hr10 => ?_)
    refine im_iald (q := 127) D130_126 hp1.2 hg9.1 hg9.2 (by decide) rfl ?_
    refine im_i2l (q := 128) D130_127 hr10 ?_
    refine im_lmul (q := 129) D130_128 ?_
    refine im_ladd (q := 130) D130_129 ?_
    refine im_ld (q := 132) (i := 5) D130_130 rfl rfl rfl ?_
    refine im_ladd (q := 133) D130_132 ?_
    refine im_st2 (q := 135) (i := 8) (L' := [some (.ref a0), some (.ref p1), some (.ref 933), some (vI p3), some (vI p4), some (vL p5), none, some (vI p7), some (vL (((M 933 (p4 + p7)) + ((M (a0 + 1) p4) * (M (p1 + 1) p7))) + p5)), none]) D130_133 (Or.inr rfl) (Nat.le_of_ble_eq_true rfl) rfl ?_
    refine im_ld (q := 136) (i := 2) D130_135 rfl rfl rfl ?_
    refine im_ld (q := 138) (i := 4) D130_136 rfl rfl rfl ?_
    refine im_ld (q := 140) (i := 7) D130_138 rfl rfl rfl ?_
    refine im_iadd (q := 141) D130_140 ?_
    refine im_ld (q := 143) (i := 8) D130_141 rfl rfl rfl ?_
    refine im_ldc2 (q := 146) (n := 1000000000) D130_143 rfl ?_
    obtain ⟨hg13, hP⟩ := hP
    refine im_lrem (q := 147) D130_146 hg13 (by decide) (by decide) ?_
    obtain ⟨hg14, hP⟩ := hP
    refine im_last (q := 148) D130_147 sf_933 hg5.1 hg5.2 (by decide) hg14 ?_
    refine im_ld (q := 150) (i := 8) D130_148 rfl rfl rfl ?_
    refine im_ldc2 (q := 153) (n := 1000000000) D130_150 rfl ?_
    refine im_ldiv (q := 154) D130_153 hg13 (by decide) (by decide) ?_
    refine im_st2 (q := 156) (i := 5) (L' := [some (.ref a0), some (.ref p1), some (.ref 933), some (vI p3), some (vI p4), some (vL ((((M 933 (p4 + p7)) + ((M (a0 + 1) p4) * (M (p1 + 1) p7))) + p5).tdiv 1000000000)), none, some (vI p7), some (vL (((M 933 (p4 + p7)) + ((M (a0 + 1) p4) * (M (p1 + 1) p7))) + p5)), none]) D130_154 (Or.inr rfl) (Nat.le_of_ble_eq_true rfl) rfl ?_
    refine im_iinc (q := 159) (i := 7) (L' := [some (.ref a0), some (.ref p1), some (.ref 933), some (vI p3), some (vI p4), some (vL ((((M 933 (p4 + p7)) + ((M (a0 + 1) p4) * (M (p1 + 1) p7))) + p5).tdiv 1000000000)), none, some (vI (p7 + 1)), some (vL (((M 933 (p4 + p7)) + ((M (a0 + 1) p4) * (M (p1 + 1) p7))) + p5)), none]) D130_156 rfl (Nat.le_of_ble_eq_true rfl) rfl ?_
    refine im_goto (q := 162) (t := 96) D130_159 rfl ?_
    exact hP.wk ⟨rfl, rfl, rfl, rfl, rfl, rfl, rfl, trivial⟩
set_option maxRecDepth 20000 in
set_option maxHeartbeats 4000000 in
theorem k_Num_multiply_226 {g : im_g} {d : Nat} {e : im_E} {M : im_M} {K : im_K} {p4 : Int} {a0 : Nat} (ha0 : im_num e a0) (hd : 1 ≤ d) (hP : (im_i32 p4) ∧ (((M a0 1) ≤ p4 → im_T g (d - 1) 98 0 [some (.ref a0), none] [] e M (im_ri (fun x7 e_ M6 => e = e_ ∧ (0 ≤ x7 ∧ x7 ≤ 1) ∧ K (.inl (some (vI x7))) e M6))) ∧ (p4 < (M a0 1) → (0 ≤ p4 ∧ p4 < 72) ∧ (0 ≤ p4 ∧ p4 < 34) ∧ (im_i32 (M 933 p4)) ∧ im_T g d 130 226 [some (.ref a0), none, some (.ref 933), none, some (vI (p4 + 1)), none, none, none, none, none] [] e (im_u M (a0 + 1) p4 (M 933 p4)) K))) : im_T g d 130 226 [some (.ref a0), none, some (.ref 933), none, some (vI p4), none, none, none, none, none] [] e M K := by
  refine im_ld (q := 228) (i := 4) D130_226 rfl rfl rfl ?_
  refine im_ld (q := 229) (i := 0) D130_228 rfl rfl rfl ?_
  refine im_rng (j := 1) ha0.1 (by decide) (show (1 : Int) < ((3 : Nat) : Int) by decide) (fun hr1 => ?_)
  refine im_gfI (q := 232) D130_229 (im_fl cn_130 fl_3_19) ha0.1 rfl rfl tI_3_1 rfl ?_
  obtain ⟨hg2, hP⟩ := hP
  refine im_icmp (q := 235) (t := 253) D130_232 rfl hg2 hr1 (fun hc3 => ?_) (fun hc3 => ?_)
  · replace hP := hP.1 hc3
    refine im_ld (q := 254) (i := 0) D130_253 rfl rfl rfl ?_
    refine im_callV (q := 257) (kd := 1) (y := 98) (n := 0) (ci := 3) (a := a0) (vs := [.ref a0]) (r := []) (L2 := [some (.ref a0), none]) D130_254 (im_cal cn_130 cl_3_42) (Or.inl rfl) rfl ha0.1 rfl rfl rfl rfl hd ⟨rfl, trivial⟩ ?_
    refine hP.mono ?_
    rintro _ e9 M6 ⟨x7, rfl, rfl, hP⟩
    refine im_bkS ?_
    obtain ⟨hg8, hP⟩ := hP
    exact im_zret (q := 258) D130_257 rfl hg8 hP
  · replace hP := hP.2 (Int.not_le.mp hc3)
    refine im_ld (q := 236) (i := 0) D130_235 rfl rfl rfl ?_
    refine im_gfR (q := 239) (b := (a0 + 1)) D130_236 (im_fl cn_130 fl_3_9) ha0.1 rfl rfl tR_3_2 rfl ?_
    refine im_ld (q := 241) (i := 4) D130_239 rfl rfl rfl ?_
    refine im_ld (q := 242) (i := 2) D130_241 rfl rfl rfl ?_
    refine im_ld (q := 244) (i := 4) D130_242 rfl rfl rfl ?_
    obtain ⟨hg4, hP⟩ := hP
    refine im_rng (j := p4) sf_933 hg4.1 hg4.2 (fun hr5 => ?_)
    refine im_lald (q := 245) D130_244 sf_933 hg4.1 hg4.2 (by decide) rfl ?_
    refine im_l2i (q := 246) D130_245 ?_
    obtain ⟨hg10, hP⟩ := hP
    obtain ⟨hg11, hP⟩ := hP
    refine im_iast (q := 247) D130_246 ha0.2 hg10.1 hg10.2 (by decide) hg11 ?_
    refine im_iinc (q := 250) (i := 4) (L' := [some (.ref a0), none, some (.ref 933), none, some (vI (p4 + 1)), none, none, none, none, none]) D130_247 rfl (Nat.le_of_ble_eq_true rfl) rfl ?_
    refine im_goto (q := 253) (t := 226) D130_250 rfl ?_
    exact hP.wk ⟨rfl, rfl, rfl, trivial⟩
set_option maxRecDepth 20000 in
set_option maxHeartbeats 4000000 in
theorem k_Num_divide_0 {g : im_g} {d : Nat} {e : im_E} {M : im_M} {K : im_K} {a0 : Nat} (ha0 : im_num e a0) {p1 : Nat} (hp1 : im_num e p1) (hd : 1 ≤ d) (hP : (((M p1 0) = 0 → im_T g (d - 1) 101 0 [some (.ref a0)] [] e M (im_r0 (fun  e_ M3 => e = e_ ∧ K (.inl none) e M3))) ∧ (¬ (M p1 0) = 0 → im_T g (d - 1) 69 0 [some (.ref a0), some (.ref p1), none] [] e M (im_ri (fun x6 e_ M5 => e = e_ ∧ (im_i32 x6) ∧ ((0 ≤ x6 → (im_i32 ((M5 a0 0) * (M5 p1 0))) ∧ ((¬ ((im_u M5 a0 0 ((M5 a0 0) * (M5 p1 0))) p1 1) = 1 → im_T g (d - 1) 133 0 [some (.ref a0), some (.ref p1), some (.ref 933), none, none, none, none, none] [] e (im_u M5 a0 0 ((M5 a0 0) * (M5 p1 0))) (im_r0 (fun  e_ M15 => e = e_ ∧ im_T g (d - 1) 98 0 [some (.ref a0), none] [] e M15 (im_ri (fun x17 e_ M16 => e = e_ ∧ K (.inl none) e M16))))) ∧ (((im_u M5 a0 0 ((M5 a0 0) * (M5 p1 0))) p1 1) = 1 → im_T g (d - 1) 132 0 [some (.ref a0), some (vI ((im_u M5 a0 0 ((M5 a0 0) * (M5 p1 0))) (p1 + 1) 0)), none, none, none, none, none] [] e (im_u M5 a0 0 ((M5 a0 0) * (M5 p1 0))) (im_r0 (fun  e_ M20 => e = e_ ∧ im_T g (d - 1) 98 0 [some (.ref a0), none] [] e M20 (im_ri (fun x22 e_ M21 => e = e_ ∧ K (.inl none) e M21))))))) ∧ (x6 < 0 → im_T g (d - 1) 101 0 [some (.ref a0)] [] e M5 (im_r0 (fun  e_ M25 => e = e_ ∧ K (.inl none) e M25))))))))) : im_T g d 131 0 [some (.ref a0), some (.ref p1), some (.ref 933)] [] e M K := by
  refine im_ld (q := 1) (i := 1) D131_0 rfl rfl rfl ?_
  refine im_rng (j := 0) hp1.1 (by decide) (show (0 : Int) < ((3 : Nat) : Int) by decide) (fun hr1 => ?_)
  refine im_gfI (q := 4) D131_1 (im_fl cn_131 fl_3_15) hp1.1 rfl rfl tI_3_0 rfl ?_
  refine im_ifc (q := 7) (t := 15) D131_4 rfl hr1 (fun hc2 => ?_) (fun hc2 => ?_)
  · replace hP := hP.1 hc2
    refine im_ld (q := 16) (i := 0) D131_15 rfl rfl rfl ?_
    refine im_callV (q := 19) (kd := 1) (y := 101) (n := 0) (ci := 3) (a := a0) (vs := [.ref a0]) (r := []) (L2 := [some (.ref a0)]) D131_16 (im_cal cn_131 cl_3_22) (Or.inl rfl) rfl ha0.1 rfl rfl rfl rfl hd ⟨rfl, trivial⟩ ?_
    refine hP.mono ?_
    rintro _ e4 M3 ⟨rfl, rfl, hP⟩
    refine im_bkN ?_
    exact im_vret (q := 20) D131_19 rfl hP
  · replace hP := hP.2 hc2
    refine im_ld (q := 8) (i := 0) D131_7 rfl rfl rfl ?_
    refine im_ld (q := 9) (i := 1) D131_8 rfl rfl rfl ?_
    refine im_callV (q := 12) (kd := 1) (y := 69) (n := 1) (ci := 3) (a := a0) (vs := [.ref a0, .ref p1]) (r := []) (L2 := [some (.ref a0), some (.ref p1), none]) D131_9 (im_cal cn_131 cl_3_37) (Or.inl rfl) rfl ha0.1 rfl rfl rfl rfl hd ⟨rfl, rfl, trivial⟩ ?_
    refine hP.mono ?_
    rintro _ e27 M5 ⟨x6, rfl, rfl, hP⟩
    refine im_bkS ?_
    obtain ⟨hg7, hP⟩ := hP
    refine im_ifc (q := 15) (t := 20) D131_12 rfl hg7 (fun hc8 => ?_) (fun hc8 => ?_)
    · replace hP := hP.1 hc8
      refine im_ld (q := 21) (i := 0) D131_20 rfl rfl rfl ?_
      refine im_ld (q := 22) (i := 0) D131_21 rfl rfl rfl ?_
      refine im_rng (j := 0) ha0.1 (by decide) (show (0 : Int) < ((3 : Nat) : Int) by decide) (fun hr9 => ?_)
      refine im_gfI (q := 25) D131_22 (im_fl cn_131 fl_3_15) ha0.1 rfl rfl tI_3_0 rfl ?_
      refine im_ld (q := 26) (i := 1) D131_25 rfl rfl rfl ?_
      refine im_rng (j := 0) hp1.1 (by decide) (show (0 : Int) < ((3 : Nat) : Int) by decide) (fun hr10 => ?_)
      refine im_gfI (q := 29) D131_26 (im_fl cn_131 fl_3_15) hp1.1 rfl rfl tI_3_0 rfl ?_
      refine im_imul (q := 30) D131_29 ?_
      obtain ⟨hg11, hP⟩ := hP
      refine im_pfI (q := 33) D131_30 (im_fl cn_131 fl_3_15) ha0.1 rfl rfl ti_3_0 hg11 ?_
      refine im_ld (q := 34) (i := 1) D131_33 rfl rfl rfl ?_
      refine im_rng (j := 1) hp1.1 (by decide) (show (1 : Int) < ((3 : Nat) : Int) by decide) (fun hr12 => ?_)
      refine im_gfI (q := 37) D131_34 (im_fl cn_131 fl_3_19) hp1.1 rfl rfl tI_3_1 rfl ?_
      refine im_iconst (q := 38) D131_37 ?_
      refine im_icmp (q := 41) (t := 54) D131_38 rfl hr12 (by decide) (fun hc13 => ?_) (fun hc13 => ?_)
      · replace hP := hP.1 hc13
        refine im_ld (q := 55) (i := 0) D131_54 rfl rfl rfl ?_
        refine im_ld (q := 56) (i := 1) D131_55 rfl rfl rfl ?_
        refine im_ld (q := 57) (i := 2) D131_56 rfl rfl rfl ?_
        refine im_callV (q := 60) (kd := 1) (y := 133) (n := 2) (ci := 3) (a := a0) (vs := [.ref a0, .ref p1, .ref 933]) (r := []) (L2 := [some (.ref a0), some (.ref p1), some (.ref 933), none, none, none, none, none]) D131_57 (im_cal cn_131 cl_3_61) (Or.inl rfl) rfl ha0.1 rfl rfl rfl rfl hd ⟨rfl, rfl, rfl, trivial⟩ ?_
        refine hP.mono ?_
        rintro _ e19 M15 ⟨rfl, rfl, hP⟩
        refine im_bkN ?_
        refine im_ld (q := 61) (i := 0) D131_60 rfl rfl rfl ?_
        refine im_callV (q := 64) (kd := 1) (y := 98) (n := 0) (ci := 3) (a := a0) (vs := [.ref a0]) (r := []) (L2 := [some (.ref a0), none]) D131_61 (im_cal cn_131 cl_3_42) (Or.inl rfl) rfl ha0.1 rfl rfl rfl rfl hd ⟨rfl, trivial⟩ ?_
        refine hP.mono ?_
        rintro _ e18 M16 ⟨x17, rfl, rfl, hP⟩
        refine im_bkS ?_
        refine im_pop (q := 65) D131_64 rfl ?_
        exact im_vret (q := 66) D131_65 rfl hP
      · replace hP := hP.2 (Decidable.not_not.mp hc13)
        refine im_ld (q := 42) (i := 0) D131_41 rfl rfl rfl ?_
        refine im_ld (q := 43) (i := 1) D131_42 rfl rfl rfl ?_
        refine im_gfR (q := 46) (b := (p1 + 1)) D131_43 (im_fl cn_131 fl_3_9) hp1.1 rfl rfl tR_3_2 rfl ?_
        refine im_iconst (q := 47) D131_46 ?_
        refine im_rng (j := 0) hp1.2 (by decide) (by decide) (fun hr14 => ?_)
        refine im_iald (q := 48) D131_47 hp1.2 (by decide) (by decide) (by decide) rfl ?_
        refine im_callV (q := 51) (kd := 1) (y := 132) (n := 1) (ci := 3) (a := a0) (vs := [.ref a0, vI ((im_u M5 a0 0 ((M5 a0 0) * (M5 p1 0))) (p1 + 1) 0)]) (r := []) (L2 := [some (.ref a0), some (vI ((im_u M5 a0 0 ((M5 a0 0) * (M5 p1 0))) (p1 + 1) 0)), none, none, none, none, none]) D131_48 (im_cal cn_131 cl_3_57) (Or.inl rfl) rfl ha0.1 rfl rfl rfl rfl hd ⟨rfl, rfl, trivial⟩ ?_
        refine hP.mono ?_
        rintro _ e24 M20 ⟨rfl, rfl, hP⟩
        refine im_bkN ?_
        refine im_goto (q := 54) (t := 60) D131_51 rfl ?_
        refine im_ld (q := 61) (i := 0) D131_60 rfl rfl rfl ?_
        refine im_callV (q := 64) (kd := 1) (y := 98) (n := 0) (ci := 3) (a := a0) (vs := [.ref a0]) (r := []) (L2 := [some (.ref a0), none]) D131_61 (im_cal cn_131 cl_3_42) (Or.inl rfl) rfl ha0.1 rfl rfl rfl rfl hd ⟨rfl, trivial⟩ ?_
        refine hP.mono ?_
        rintro _ e23 M21 ⟨x22, rfl, rfl, hP⟩
        refine im_bkS ?_
        refine im_pop (q := 65) D131_64 rfl ?_
        exact im_vret (q := 66) D131_65 rfl hP
    · replace hP := hP.2 (Int.not_le.mp hc8)
      refine im_ld (q := 16) (i := 0) D131_15 rfl rfl rfl ?_
      refine im_callV (q := 19) (kd := 1) (y := 101) (n := 0) (ci := 3) (a := a0) (vs := [.ref a0]) (r := []) (L2 := [some (.ref a0)]) D131_16 (im_cal cn_131 cl_3_22) (Or.inl rfl) rfl ha0.1 rfl rfl rfl rfl hd ⟨rfl, trivial⟩ ?_
      refine hP.mono ?_
      rintro _ e26 M25 ⟨rfl, rfl, hP⟩
      refine im_bkN ?_
      exact im_vret (q := 20) D131_19 rfl hP
set_option maxRecDepth 20000 in
set_option maxHeartbeats 4000000 in
theorem k_Num_divideShort_0 {g : im_g} {d : Nat} {e : im_E} {M : im_M} {K : im_K} {p1 : Int} {a0 : Nat} (ha0 : im_num e a0) (hP : (im_i32 p1) ∧ ((0 < p1 → im_T g d 132 15 [some (.ref a0), some (vI p1), some (vL 0), none, some (vI ((M a0 1) - 1)), none, none] [] e M K) ∧ (p1 ≤ 0 → K (.inl none) e M))) : im_T g d 132 0 [some (.ref a0), some (vI p1), none, none, none, none, none] [] e M K := by
  refine im_ld (q := 1) (i := 1) D132_0 rfl rfl rfl ?_
  obtain ⟨hg1, hP⟩ := hP
  refine im_ifc (q := 4) (t := 5) D132_1 rfl hg1 (fun hc2 => ?_) (fun hc2 => ?_)
  · replace hP := hP.1 hc2
    refine im_lconst (q := 6) (z := 0) D132_5 rfl ?_
    refine im_st2 (q := 7) (i := 2) (L' := [some (.ref a0), some (vI p1), some (vL 0), none, none, none, none]) D132_6 (Or.inl ⟨_, rfl, rfl⟩) (Nat.le_of_ble_eq_true rfl) rfl ?_
    refine im_ld (q := 8) (i := 0) D132_7 rfl rfl rfl ?_
    refine im_rng (j := 1) ha0.1 (by decide) (show (1 : Int) < ((3 : Nat) : Int) by decide) (fun hr3 => ?_)
    refine im_gfI (q := 11) D132_8 (im_fl cn_132 fl_3_19) ha0.1 rfl rfl tI_3_1 rfl ?_
    refine im_iconst (q := 12) D132_11 ?_
    refine im_isub (q := 13) D132_12 ?_
    refine im_st1 (q := 15) (i := 4) (L' := [some (.ref a0), some (vI p1), some (vL 0), none, some (vI ((M a0 1) - 1)), none, none]) D132_13 (Or.inr rfl) (Nat.le_of_ble_eq_true rfl) rfl ?_
    exact hP.wk ⟨rfl, rfl, rfl, rfl, trivial⟩
  · replace hP := hP.2 (Int.not_lt.mp hc2)
    exact im_vret (q := 5) D132_4 rfl hP
set_option maxRecDepth 20000 in
set_option maxHeartbeats 4000000 in
theorem k_Num_divideShort_15 {g : im_g} {d : Nat} {e : im_E} {M : im_M} {K : im_K} {p1 p2 p4 : Int} {a0 : Nat} (ha0 : im_num e a0) (hP : (im_i32 p4) ∧ ((p4 < 0 → K (.inl none) e M) ∧ (0 ≤ p4 → (0 ≤ p4 ∧ p4 < 34) ∧ (im_i32 p1) ∧ (im_i64 ((p2 * 1000000000) + (M (a0 + 1) p4))) ∧ (¬ p1 = 0) ∧ (im_i32 (((p2 * 1000000000) + (M (a0 + 1) p4)).tdiv p1)) ∧ (¬ p1 = 0) ∧ im_T g d 132 15 [some (.ref a0), some (vI p1), some (vL (((p2 * 1000000000) + (M (a0 + 1) p4)).tmod p1)), none, some (vI (p4 + (-1))), none, none] [] e (im_u M (a0 + 1) p4 (((p2 * 1000000000) + (M (a0 + 1) p4)).tdiv p1)) K))) : im_T g d 132 15 [some (.ref a0), some (vI p1), some (vL p2), none, some (vI p4), none, none] [] e M K := by
  refine im_ld (q := 17) (i := 4) D132_15 rfl rfl rfl ?_
  obtain ⟨hg1, hP⟩ := hP
  refine im_ifc (q := 20) (t := 61) D132_17 rfl hg1 (fun hc2 => ?_) (fun hc2 => ?_)
  · replace hP := hP.1 hc2
    exact im_vret (q := 62) D132_61 rfl hP
  · replace hP := hP.2 (Int.not_lt.mp hc2)
    refine im_ld (q := 21) (i := 2) D132_20 rfl rfl rfl ?_
    refine im_ldc2 (q := 24) (n := 1000000000) D132_21 rfl ?_
    refine im_lmul (q := 25) D132_24 ?_
    refine im_ld (q := 26) (i := 0) D132_25 rfl rfl rfl ?_
    refine im_gfR (q := 29) (b := (a0 + 1)) D132_26 (im_fl cn_132 fl_3_9) ha0.1 rfl rfl tR_3_2 rfl ?_
    refine im_ld (q := 31) (i := 4) D132_29 rfl rfl rfl ?_
    obtain ⟨hg3, hP⟩ := hP
    refine im_rng (j := p4) ha0.2 hg3.1 hg3.2 (fun hr4 => ?_)
    refine im_iald (q := 32) D132_31 ha0.2 hg3.1 hg3.2 (by decide) rfl ?_
    refine im_i2l (q := 33) D132_32 hr4 ?_
    refine im_ladd (q := 34) D132_33 ?_
    refine im_st2 (q := 36) (i := 5) (L' := [some (.ref a0), some (vI p1), some (vL p2), none, some (vI p4), some (vL ((p2 * 1000000000) + (M (a0 + 1) p4))), none]) D132_34 (Or.inr rfl) (Nat.le_of_ble_eq_true rfl) rfl ?_
    refine im_ld (q := 37) (i := 0) D132_36 rfl rfl rfl ?_
    refine im_gfR (q := 40) (b := (a0 + 1)) D132_37 (im_fl cn_132 fl_3_9) ha0.1 rfl rfl tR_3_2 rfl ?_
    refine im_ld (q := 42) (i := 4) D132_40 rfl rfl rfl ?_
    refine im_ld (q := 44) (i := 5) D132_42 rfl rfl rfl ?_
    refine im_ld (q := 45) (i := 1) D132_44 rfl rfl rfl ?_
    obtain ⟨hg5, hP⟩ := hP
    refine im_i2l (q := 46) D132_45 hg5 ?_
    obtain ⟨hg6, hP⟩ := hP
    obtain ⟨hg7, hP⟩ := hP
    refine im_ldiv (q := 47) D132_46 hg6 (im_32_64 hg5) hg7 ?_
    refine im_l2i (q := 48) D132_47 ?_
    obtain ⟨hg8, hP⟩ := hP
    refine im_iast (q := 49) D132_48 ha0.2 hg3.1 hg3.2 (by decide) hg8 ?_
    refine im_ld (q := 51) (i := 5) D132_49 rfl rfl rfl ?_
    refine im_ld (q := 52) (i := 1) D132_51 rfl rfl rfl ?_
    refine im_i2l (q := 53) D132_52 hg5 ?_
    obtain ⟨hg9, hP⟩ := hP
    refine im_lrem (q := 54) D132_53 hg6 (im_32_64 hg5) hg9 ?_
    refine im_st2 (q := 55) (i := 2) (L' := [some (.ref a0), some (vI p1), some (vL (((p2 * 1000000000) + (M (a0 + 1) p4)).tmod p1)), none, some (vI p4), some (vL ((p2 * 1000000000) + (M (a0 + 1) p4))), none]) D132_54 (Or.inl ⟨_, rfl, rfl⟩) (Nat.le_of_ble_eq_true rfl) rfl ?_
    refine im_iinc (q := 58) (i := 4) (L' := [some (.ref a0), some (vI p1), some (vL (((p2 * 1000000000) + (M (a0 + 1) p4)).tmod p1)), none, some (vI (p4 + (-1))), some (vL ((p2 * 1000000000) + (M (a0 + 1) p4))), none]) D132_55 rfl (Nat.le_of_ble_eq_true rfl) rfl ?_
    refine im_goto (q := 61) (t := 15) D132_58 rfl ?_
    exact hP.wk ⟨rfl, rfl, rfl, rfl, trivial⟩

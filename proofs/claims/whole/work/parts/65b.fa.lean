/-! links, types -/
theorem cn_19 : am_cn 19 = 11 := by decide +kernel
theorem cn_20 : am_cn 20 = 11 := by decide +kernel
theorem cn_21 : am_cn 21 = 11 := by decide +kernel
theorem cn_22 : am_cn 22 = 10 := by decide +kernel
theorem cn_23 : am_cn 23 = 5 := by decide +kernel
theorem cn_24 : am_cn 24 = 1 := by decide +kernel
theorem cn_25 : am_cn 25 = 1 := by decide +kernel
theorem cn_26 : am_cn 26 = 1 := by decide +kernel
theorem cn_27 : am_cn 27 = 1 := by decide +kernel
theorem cn_32 : am_cn 32 = 1 := by decide +kernel
theorem cn_33 : am_cn 33 = 1 := by decide +kernel
theorem cn_34 : am_cn 34 = 1 := by decide +kernel
theorem cn_35 : am_cn 35 = 1 := by decide +kernel
theorem cn_36 : am_cn 36 = 11 := by decide +kernel
theorem cn_37 : am_cn 37 = 4 := by decide +kernel
theorem cn_38 : am_cn 38 = 6 := by decide +kernel
theorem cn_39 : am_cn 39 = 4 := by decide +kernel
theorem cn_40 : am_cn 40 = 6 := by decide +kernel
theorem cn_43 : am_cn 43 = 6 := by decide +kernel
theorem cn_45 : am_cn 45 = 6 := by decide +kernel
theorem cn_46 : am_cn 46 = 3 := by decide +kernel
theorem cn_47 : am_cn 47 = 6 := by decide +kernel
theorem cn_49 : am_cn 49 = 6 := by decide +kernel
theorem cn_50 : am_cn 50 = 4 := by decide +kernel
theorem cn_51 : am_cn 51 = 4 := by decide +kernel
theorem cn_52 : am_cn 52 = 4 := by decide +kernel
theorem cn_53 : am_cn 53 = 4 := by decide +kernel
theorem cn_54 : am_cn 54 = 4 := by decide +kernel
theorem cn_55 : am_cn 55 = 4 := by decide +kernel
theorem cn_56 : am_cn 56 = 4 := by decide +kernel
theorem cn_57 : am_cn 57 = 4 := by decide +kernel
theorem cn_58 : am_cn 58 = 5 := by decide +kernel
theorem cn_59 : am_cn 59 = 4 := by decide +kernel
theorem cn_61 : am_cn 61 = 4 := by decide +kernel
theorem cn_62 : am_cn 62 = 4 := by decide +kernel
theorem cn_63 : am_cn 63 = 4 := by decide +kernel
theorem cn_64 : am_cn 64 = 3 := by decide +kernel
theorem cn_65 : am_cn 65 = 4 := by decide +kernel
theorem cn_66 : am_cn 66 = 3 := by decide +kernel
theorem cn_67 : am_cn 67 = 4 := by decide +kernel
theorem cn_68 : am_cn 68 = 3 := by decide +kernel
theorem cn_69 : am_cn 69 = 3 := by decide +kernel
theorem cn_70 : am_cn 70 = 4 := by decide +kernel
theorem cn_71 : am_cn 71 = 4 := by decide +kernel
theorem cn_72 : am_cn 72 = 4 := by decide +kernel
theorem cn_73 : am_cn 73 = 4 := by decide +kernel
theorem cn_74 : am_cn 74 = 6 := by decide +kernel
theorem cn_75 : am_cn 75 = 4 := by decide +kernel
theorem cn_76 : am_cn 76 = 6 := by decide +kernel
theorem cn_77 : am_cn 77 = 11 := by decide +kernel
theorem cn_78 : am_cn 78 = 1 := by decide +kernel
theorem cn_79 : am_cn 79 = 1 := by decide +kernel
theorem cn_80 : am_cn 80 = 1 := by decide +kernel
theorem cn_81 : am_cn 81 = 1 := by decide +kernel
theorem cn_82 : am_cn 82 = 1 := by decide +kernel
theorem cn_83 : am_cn 83 = 4 := by decide +kernel
theorem cn_84 : am_cn 84 = 11 := by decide +kernel
theorem cn_85 : am_cn 85 = 11 := by decide +kernel
theorem cn_86 : am_cn 86 = 5 := by decide +kernel
theorem cn_87 : am_cn 87 = 5 := by decide +kernel
theorem cn_88 : am_cn 88 = 0 := by decide +kernel
theorem cn_89 : am_cn 89 = 0 := by decide +kernel
theorem cn_90 : am_cn 90 = 9 := by decide +kernel
theorem cn_91 : am_cn 91 = 0 := by decide +kernel
theorem cn_92 : am_cn 92 = 11 := by decide +kernel
theorem cn_93 : am_cn 93 = 11 := by decide +kernel
theorem cn_94 : am_cn 94 = 11 := by decide +kernel
theorem cn_95 : am_cn 95 = 6 := by decide +kernel
theorem cn_96 : am_cn 96 = 6 := by decide +kernel
theorem cn_97 : am_cn 97 = 3 := by decide +kernel
theorem cn_98 : am_cn 98 = 3 := by decide +kernel
theorem cn_99 : am_cn 99 = 0 := by decide +kernel
theorem cn_100 : am_cn 100 = 0 := by decide +kernel
theorem cn_101 : am_cn 101 = 3 := by decide +kernel
theorem cn_102 : am_cn 102 = 11 := by decide +kernel
theorem cn_103 : am_cn 103 = 6 := by decide +kernel
theorem cn_104 : am_cn 104 = 6 := by decide +kernel
theorem cn_105 : am_cn 105 = 6 := by decide +kernel
theorem cn_106 : am_cn 106 = 7 := by decide +kernel
theorem cn_107 : am_cn 107 = 9 := by decide +kernel
theorem cn_108 : am_cn 108 = 2 := by decide +kernel
theorem cn_109 : am_cn 109 = 2 := by decide +kernel
theorem cn_110 : am_cn 110 = 2 := by decide +kernel
theorem cn_111 : am_cn 111 = 2 := by decide +kernel
theorem cn_112 : am_cn 112 = 2 := by decide +kernel
theorem cn_113 : am_cn 113 = 2 := by decide +kernel
theorem cn_114 : am_cn 114 = 2 := by decide +kernel
theorem cn_115 : am_cn 115 = 5 := by decide +kernel
theorem cn_116 : am_cn 116 = 5 := by decide +kernel
theorem cn_117 : am_cn 117 = 2 := by decide +kernel
theorem cn_118 : am_cn 118 = 7 := by decide +kernel
theorem cn_119 : am_cn 119 = 0 := by decide +kernel
theorem cn_120 : am_cn 120 = 3 := by decide +kernel
theorem cn_121 : am_cn 121 = 0 := by decide +kernel
theorem cn_122 : am_cn 122 = 2 := by decide +kernel
theorem cn_124 : am_cn 124 = 2 := by decide +kernel
theorem cn_125 : am_cn 125 = 5 := by decide +kernel
theorem cn_127 : am_cn 127 = 3 := by decide +kernel
theorem cn_128 : am_cn 128 = 2 := by decide +kernel
theorem cn_129 : am_cn 129 = 3 := by decide +kernel
theorem cn_130 : am_cn 130 = 3 := by decide +kernel
theorem cn_131 : am_cn 131 = 3 := by decide +kernel
theorem cn_132 : am_cn 132 = 3 := by decide +kernel
theorem cn_133 : am_cn 133 = 3 := by decide +kernel
theorem cn_134 : am_cn 134 = 3 := by decide +kernel
theorem cn_137 : am_cn 137 = 2 := by decide +kernel
theorem cn_138 : am_cn 138 = 5 := by decide +kernel
theorem cn_139 : am_cn 139 = 2 := by decide +kernel
theorem cn_140 : am_cn 140 = 2 := by decide +kernel
theorem cn_141 : am_cn 141 = 0 := by decide +kernel
theorem cn_142 : am_cn 142 = 2 := by decide +kernel
theorem cn_143 : am_cn 143 = 2 := by decide +kernel
theorem cn_144 : am_cn 144 = 2 := by decide +kernel
theorem cn_145 : am_cn 145 = 2 := by decide +kernel
theorem cn_146 : am_cn 146 = 7 := by decide +kernel
theorem cn_147 : am_cn 147 = 11 := by decide +kernel
theorem cn_148 : am_cn 148 = 11 := by decide +kernel
theorem cn_149 : am_cn 149 = 6 := by decide +kernel
theorem cn_151 : am_cn 151 = 11 := by decide +kernel
theorem cn_152 : am_cn 152 = 11 := by decide +kernel
theorem cn_153 : am_cn 153 = 11 := by decide +kernel
theorem cn_155 : am_cn 155 = 11 := by decide +kernel
theorem cn_157 : am_cn 157 = 11 := by decide +kernel
theorem cn_159 : am_cn 159 = 11 := by decide +kernel
theorem cn_161 : am_cn 161 = 11 := by decide +kernel
theorem cn_162 : am_cn 162 = 10 := by decide +kernel
theorem cn_164 : am_cn 164 = 11 := by decide +kernel
theorem cn_165 : am_cn 165 = 11 := by decide +kernel
theorem cn_166 : am_cn 166 = 11 := by decide +kernel
theorem cn_171 : am_cn 171 = 11 := by decide +kernel
theorem cn_173 : am_cn 173 = 11 := by decide +kernel
theorem cn_174 : am_cn 174 = 10 := by decide +kernel
theorem cn_175 : am_cn 175 = 10 := by decide +kernel
theorem cn_176 : am_cn 176 = 10 := by decide +kernel
theorem cn_177 : am_cn 177 = 10 := by decide +kernel
theorem cn_178 : am_cn 178 = 10 := by decide +kernel
theorem cn_179 : am_cn 179 = 10 := by decide +kernel
theorem cn_180 : am_cn 180 = 10 := by decide +kernel
theorem cn_181 : am_cn 181 = 10 := by decide +kernel
theorem cn_182 : am_cn 182 = 10 := by decide +kernel
theorem cn_183 : am_cn 183 = 10 := by decide +kernel
theorem cn_184 : am_cn 184 = 10 := by decide +kernel
theorem cn_185 : am_cn 185 = 10 := by decide +kernel
theorem cn_186 : am_cn 186 = 10 := by decide +kernel
theorem cn_187 : am_cn 187 = 10 := by decide +kernel
theorem cn_189 : am_cn 189 = 11 := by decide +kernel
theorem cn_190 : am_cn 190 = 5 := by decide +kernel
theorem cn_191 : am_cn 191 = 5 := by decide +kernel
theorem cn_192 : am_cn 192 = 5 := by decide +kernel
theorem cn_193 : am_cn 193 = 5 := by decide +kernel
theorem cn_194 : am_cn 194 = 5 := by decide +kernel
theorem cn_195 : am_cn 195 = 5 := by decide +kernel
theorem cn_197 : am_cn 197 = 11 := by decide +kernel
theorem cn_199 : am_cn 199 = 11 := by decide +kernel
theorem cn_201 : am_cn 201 = 11 := by decide +kernel
theorem cn_203 : am_cn 203 = 11 := by decide +kernel
theorem cn_205 : am_cn 205 = 11 := by decide +kernel
theorem cn_207 : am_cn 207 = 11 := by decide +kernel
theorem cn_208 : am_cn 208 = 11 := by decide +kernel
theorem cn_210 : am_cn 210 = 11 := by decide +kernel
theorem cn_211 : am_cn 211 = 9 := by decide +kernel
theorem cn_213 : am_cn 213 = 11 := by decide +kernel
theorem cn_214 : am_cn 214 = 11 := by decide +kernel
theorem cn_215 : am_cn 215 = 11 := by decide +kernel
theorem cn_217 : am_cn 217 = 11 := by decide +kernel
theorem cn_219 : am_cn 219 = 11 := by decide +kernel
theorem cn_221 : am_cn 221 = 11 := by decide +kernel
theorem cn_222 : am_cn 222 = 11 := by decide +kernel
theorem cn_224 : am_cn 224 = 11 := by decide +kernel
theorem cn_226 : am_cn 226 = 11 := by decide +kernel
theorem cn_228 : am_cn 228 = 11 := by decide +kernel
theorem cn_230 : am_cn 230 = 11 := by decide +kernel
theorem cn_232 : am_cn 232 = 11 := by decide +kernel
theorem cn_233 : am_cn 233 = 0 := by decide +kernel
theorem cn_235 : am_cn 235 = 11 := by decide +kernel
theorem cn_237 : am_cn 237 = 11 := by decide +kernel
theorem cn_238 : am_cn 238 = 8 := by decide +kernel
theorem cn_239 : am_cn 239 = 8 := by decide +kernel
theorem cn_240 : am_cn 240 = 8 := by decide +kernel
theorem cn_241 : am_cn 241 = 8 := by decide +kernel
theorem cn_242 : am_cn 242 = 8 := by decide +kernel
theorem cn_243 : am_cn 243 = 5 := by decide +kernel
theorem cn_244 : am_cn 244 = 8 := by decide +kernel
theorem cn_245 : am_cn 245 = 8 := by decide +kernel
theorem cn_246 : am_cn 246 = 8 := by decide +kernel
theorem cn_248 : am_cn 248 = 11 := by decide +kernel
theorem cn_250 : am_cn 250 = 11 := by decide +kernel
theorem cn_252 : am_cn 252 = 11 := by decide +kernel
theorem cn_254 : am_cn 254 = 11 := by decide +kernel
theorem cn_256 : am_cn 256 = 11 := by decide +kernel
theorem cn_258 : am_cn 258 = 11 := by decide +kernel
theorem cn_259 : am_cn 259 = 11 := by decide +kernel
theorem cn_260 : am_cn 260 = 11 := by decide +kernel
theorem cn_262 : am_cn 262 = 12 := by decide +kernel
theorem cn_263 : am_cn 263 = 12 := by decide +kernel
theorem cn_264 : am_cn 264 = 12 := by decide +kernel
theorem cn_265 : am_cn 265 = 12 := by decide +kernel
theorem cn_266 : am_cn 266 = 12 := by decide +kernel
theorem cn_267 : am_cn 267 = 12 := by decide +kernel
theorem cn_269 : am_cn 269 = 12 := by decide +kernel
theorem cn_270 : am_cn 270 = 12 := by decide +kernel
theorem cn_271 : am_cn 271 = 12 := by decide +kernel
theorem cn_272 : am_cn 272 = 12 := by decide +kernel
theorem cn_273 : am_cn 273 = 12 := by decide +kernel
theorem cn_274 : am_cn 274 = 12 := by decide +kernel
theorem cn_275 : am_cn 275 = 12 := by decide +kernel
theorem cn_276 : am_cn 276 = 12 := by decide +kernel
theorem cn_277 : am_cn 277 = 12 := by decide +kernel
theorem cn_279 : am_cn 279 = 12 := by decide +kernel
theorem cn_280 : am_cn 280 = 12 := by decide +kernel
theorem cn_282 : am_cn 282 = 12 := by decide +kernel
theorem cn_283 : am_cn 283 = 12 := by decide +kernel
theorem cn_285 : am_cn 285 = 12 := by decide +kernel
theorem cn_286 : am_cn 286 = 12 := by decide +kernel
theorem cn_287 : am_cn 287 = 12 := by decide +kernel
theorem cn_288 : am_cn 288 = 12 := by decide +kernel
theorem cn_289 : am_cn 289 = 12 := by decide +kernel
theorem cn_291 : am_cn 291 = 12 := by decide +kernel
theorem cn_292 : am_cn 292 = 12 := by decide +kernel
theorem cn_293 : am_cn 293 = 12 := by decide +kernel
theorem cn_295 : am_cn 295 = 12 := by decide +kernel
theorem cn_296 : am_cn 296 = 12 := by decide +kernel
theorem cn_297 : am_cn 297 = 12 := by decide +kernel
theorem cn_298 : am_cn 298 = 12 := by decide +kernel
theorem cn_299 : am_cn 299 = 12 := by decide +kernel
theorem cn_300 : am_cn 300 = 12 := by decide +kernel
theorem cn_301 : am_cn 301 = 12 := by decide +kernel
theorem cn_302 : am_cn 302 = 12 := by decide +kernel
theorem cn_303 : am_cn 303 = 12 := by decide +kernel
theorem cn_304 : am_cn 304 = 12 := by decide +kernel
theorem cn_305 : am_cn 305 = 12 := by decide +kernel
theorem cn_306 : am_cn 306 = 12 := by decide +kernel
theorem cn_307 : am_cn 307 = 12 := by decide +kernel
theorem cn_309 : am_cn 309 = 12 := by decide +kernel
theorem cn_310 : am_cn 310 = 12 := by decide +kernel
theorem cn_311 : am_cn 311 = 12 := by decide +kernel
theorem cn_312 : am_cn 312 = 12 := by decide +kernel
theorem cn_313 : am_cn 313 = 12 := by decide +kernel
theorem cn_314 : am_cn 314 = 12 := by decide +kernel
theorem cn_315 : am_cn 315 = 12 := by decide +kernel
theorem cn_316 : am_cn 316 = 12 := by decide +kernel
theorem cn_317 : am_cn 317 = 12 := by decide +kernel
theorem cn_318 : am_cn 318 = 12 := by decide +kernel
theorem cn_319 : am_cn 319 = 12 := by decide +kernel
theorem cn_320 : am_cn 320 = 12 := by decide +kernel
theorem cn_321 : am_cn 321 = 12 := by decide +kernel
theorem cn_322 : am_cn 322 = 12 := by decide +kernel
theorem cn_323 : am_cn 323 = 12 := by decide +kernel
theorem cn_324 : am_cn 324 = 12 := by decide +kernel
theorem cn_325 : am_cn 325 = 12 := by decide +kernel
theorem cn_327 : am_cn 327 = 12 := by decide +kernel
theorem cn_328 : am_cn 328 = 12 := by decide +kernel
theorem cn_329 : am_cn 329 = 12 := by decide +kernel
theorem cn_330 : am_cn 330 = 12 := by decide +kernel
theorem cn_331 : am_cn 331 = 12 := by decide +kernel
theorem cn_332 : am_cn 332 = 12 := by decide +kernel
theorem cn_333 : am_cn 333 = 12 := by decide +kernel
theorem cn_334 : am_cn 334 = 12 := by decide +kernel
theorem cn_335 : am_cn 335 = 12 := by decide +kernel
theorem cn_336 : am_cn 336 = 12 := by decide +kernel
theorem cn_337 : am_cn 337 = 12 := by decide +kernel
theorem cn_338 : am_cn 338 = 12 := by decide +kernel
theorem cn_340 : am_cn 340 = 12 := by decide +kernel
theorem cn_341 : am_cn 341 = 12 := by decide +kernel
theorem cn_342 : am_cn 342 = 12 := by decide +kernel
theorem cn_343 : am_cn 343 = 12 := by decide +kernel
theorem cn_344 : am_cn 344 = 12 := by decide +kernel
theorem cn_345 : am_cn 345 = 12 := by decide +kernel
theorem cn_346 : am_cn 346 = 12 := by decide +kernel
theorem cn_347 : am_cn 347 = 12 := by decide +kernel
theorem cn_348 : am_cn 348 = 12 := by decide +kernel
theorem cn_349 : am_cn 349 = 12 := by decide +kernel
theorem cn_350 : am_cn 350 = 12 := by decide +kernel
theorem cn_351 : am_cn 351 = 12 := by decide +kernel
theorem cn_352 : am_cn 352 = 12 := by decide +kernel
theorem cn_353 : am_cn 353 = 12 := by decide +kernel
theorem cn_354 : am_cn 354 = 12 := by decide +kernel
theorem cn_355 : am_cn 355 = 12 := by decide +kernel
theorem cn_356 : am_cn 356 = 12 := by decide +kernel
theorem cn_357 : am_cn 357 = 12 := by decide +kernel
theorem cn_358 : am_cn 358 = 12 := by decide +kernel
theorem cn_359 : am_cn 359 = 12 := by decide +kernel
theorem cn_360 : am_cn 360 = 12 := by decide +kernel
theorem cn_361 : am_cn 361 = 12 := by decide +kernel
theorem cn_362 : am_cn 362 = 12 := by decide +kernel
theorem cn_363 : am_cn 363 = 12 := by decide +kernel
theorem cn_364 : am_cn 364 = 12 := by decide +kernel
theorem cn_365 : am_cn 365 = 12 := by decide +kernel
theorem cn_366 : am_cn 366 = 12 := by decide +kernel
theorem cn_367 : am_cn 367 = 12 := by decide +kernel
theorem cn_368 : am_cn 368 = 12 := by decide +kernel
theorem cn_369 : am_cn 369 = 12 := by decide +kernel
theorem cn_370 : am_cn 370 = 12 := by decide +kernel
theorem cn_371 : am_cn 371 = 12 := by decide +kernel
theorem cn_372 : am_cn 372 = 12 := by decide +kernel
theorem cn_373 : am_cn 373 = 12 := by decide +kernel
theorem cn_374 : am_cn 374 = 12 := by decide +kernel
theorem cn_375 : am_cn 375 = 12 := by decide +kernel
theorem cn_376 : am_cn 376 = 12 := by decide +kernel
theorem cn_377 : am_cn 377 = 12 := by decide +kernel
theorem cn_378 : am_cn 378 = 12 := by decide +kernel
theorem cn_379 : am_cn 379 = 12 := by decide +kernel
theorem cn_380 : am_cn 380 = 12 := by decide +kernel
theorem cn_381 : am_cn 381 = 12 := by decide +kernel
theorem cn_382 : am_cn 382 = 12 := by decide +kernel
theorem cn_384 : am_cn 384 = 12 := by decide +kernel
theorem cn_385 : am_cn 385 = 12 := by decide +kernel
theorem cn_386 : am_cn 386 = 12 := by decide +kernel
theorem cn_387 : am_cn 387 = 12 := by decide +kernel
theorem cn_388 : am_cn 388 = 12 := by decide +kernel
theorem cn_389 : am_cn 389 = 12 := by decide +kernel
theorem cn_390 : am_cn 390 = 12 := by decide +kernel
theorem cn_391 : am_cn 391 = 12 := by decide +kernel
theorem cn_392 : am_cn 392 = 12 := by decide +kernel
theorem cn_393 : am_cn 393 = 12 := by decide +kernel
theorem cn_394 : am_cn 394 = 12 := by decide +kernel
theorem cn_395 : am_cn 395 = 12 := by decide +kernel
theorem cn_396 : am_cn 396 = 12 := by decide +kernel
theorem cn_397 : am_cn 397 = 12 := by decide +kernel
theorem cn_398 : am_cn 398 = 12 := by decide +kernel
theorem cn_400 : am_cn 400 = 12 := by decide +kernel
theorem cn_401 : am_cn 401 = 12 := by decide +kernel
theorem cn_402 : am_cn 402 = 12 := by decide +kernel
theorem cn_403 : am_cn 403 = 12 := by decide +kernel
theorem cn_404 : am_cn 404 = 12 := by decide +kernel
theorem cn_405 : am_cn 405 = 12 := by decide +kernel
theorem cn_406 : am_cn 406 = 12 := by decide +kernel
theorem cn_407 : am_cn 407 = 12 := by decide +kernel
theorem cn_408 : am_cn 408 = 12 := by decide +kernel
theorem cn_409 : am_cn 409 = 12 := by decide +kernel
theorem cn_410 : am_cn 410 = 12 := by decide +kernel
theorem cn_411 : am_cn 411 = 12 := by decide +kernel
theorem cn_412 : am_cn 412 = 12 := by decide +kernel
theorem cn_413 : am_cn 413 = 12 := by decide +kernel
theorem cn_414 : am_cn 414 = 12 := by decide +kernel
theorem cn_415 : am_cn 415 = 12 := by decide +kernel
theorem cn_416 : am_cn 416 = 12 := by decide +kernel
theorem cn_417 : am_cn 417 = 12 := by decide +kernel
theorem cn_418 : am_cn 418 = 12 := by decide +kernel
theorem cn_419 : am_cn 419 = 12 := by decide +kernel
theorem cn_420 : am_cn 420 = 12 := by decide +kernel
theorem cn_421 : am_cn 421 = 12 := by decide +kernel
theorem cn_422 : am_cn 422 = 12 := by decide +kernel
theorem cn_423 : am_cn 423 = 12 := by decide +kernel
theorem cn_424 : am_cn 424 = 12 := by decide +kernel
theorem cn_425 : am_cn 425 = 12 := by decide +kernel
theorem cn_426 : am_cn 426 = 12 := by decide +kernel
theorem cn_427 : am_cn 427 = 12 := by decide +kernel
theorem cn_428 : am_cn 428 = 12 := by decide +kernel
theorem cn_429 : am_cn 429 = 12 := by decide +kernel
theorem cn_430 : am_cn 430 = 12 := by decide +kernel
theorem cn_431 : am_cn 431 = 12 := by decide +kernel
theorem cn_432 : am_cn 432 = 12 := by decide +kernel
theorem cn_433 : am_cn 433 = 12 := by decide +kernel
theorem cn_434 : am_cn 434 = 12 := by decide +kernel
theorem cn_435 : am_cn 435 = 12 := by decide +kernel
theorem cn_436 : am_cn 436 = 12 := by decide +kernel
theorem cn_437 : am_cn 437 = 12 := by decide +kernel
theorem cn_438 : am_cn 438 = 12 := by decide +kernel
theorem cn_439 : am_cn 439 = 12 := by decide +kernel
theorem cn_440 : am_cn 440 = 12 := by decide +kernel
theorem cn_441 : am_cn 441 = 12 := by decide +kernel
theorem cn_442 : am_cn 442 = 12 := by decide +kernel
theorem cn_443 : am_cn 443 = 12 := by decide +kernel
theorem cn_444 : am_cn 444 = 12 := by decide +kernel
theorem cn_445 : am_cn 445 = 12 := by decide +kernel
theorem cn_446 : am_cn 446 = 12 := by decide +kernel
theorem cn_448 : am_cn 448 = 12 := by decide +kernel
theorem cn_449 : am_cn 449 = 12 := by decide +kernel
theorem cn_450 : am_cn 450 = 12 := by decide +kernel
theorem cn_451 : am_cn 451 = 12 := by decide +kernel
theorem fl_0_12 : (am_cfl.getD 0 []).lookup 12 = some (0, 3, 1) := by decide +kernel
theorem fl_0_18 : (am_cfl.getD 0 []).lookup 18 = some (0, 0, 1) := by decide +kernel
theorem fl_0_22 : (am_cfl.getD 0 []).lookup 22 = some (0, 1, 1) := by decide +kernel
theorem fl_0_25 : (am_cfl.getD 0 []).lookup 25 = some (0, 2, 1) := by decide +kernel
theorem fl_0_29 : (am_cfl.getD 0 []).lookup 29 = some (0, 4, 0) := by decide +kernel
theorem fl_0_62 : (am_cfl.getD 0 []).lookup 62 = some (3, 0, 0) := by decide +kernel
theorem fl_1_9 : (am_cfl.getD 1 []).lookup 9 = some (1, 0, 1) := by decide +kernel
theorem fl_1_15 : (am_cfl.getD 1 []).lookup 15 = some (1, 3, 0) := by decide +kernel
theorem fl_1_19 : (am_cfl.getD 1 []).lookup 19 = some (1, 1, 0) := by decide +kernel
theorem fl_1_22 : (am_cfl.getD 1 []).lookup 22 = some (1, 2, 0) := by decide +kernel
theorem fl_1_25 : (am_cfl.getD 1 []).lookup 25 = some (1, 4, 0) := by decide +kernel
theorem fl_1_37 : (am_cfl.getD 1 []).lookup 37 = some (1, 5, 0) := by decide +kernel
theorem fl_1_44 : (am_cfl.getD 1 []).lookup 44 = some (1, 6, 0) := by decide +kernel
theorem fl_2_11 : (am_cfl.getD 2 []).lookup 11 = some (2, 1, 1) := by decide +kernel
theorem fl_2_17 : (am_cfl.getD 2 []).lookup 17 = some (2, 2, 1) := by decide +kernel
theorem fl_2_22 : (am_cfl.getD 2 []).lookup 22 = some (2, 3, 1) := by decide +kernel
theorem fl_2_31 : (am_cfl.getD 2 []).lookup 31 = some (2, 4, 0) := by decide +kernel
theorem fl_2_38 : (am_cfl.getD 2 []).lookup 38 = some (2, 5, 0) := by decide +kernel
theorem fl_2_42 : (am_cfl.getD 2 []).lookup 42 = some (2, 7, 1) := by decide +kernel
theorem fl_2_48 : (am_cfl.getD 2 []).lookup 48 = some (2, 8, 1) := by decide +kernel
theorem fl_2_52 : (am_cfl.getD 2 []).lookup 52 = some (2, 9, 1) := by decide +kernel
theorem fl_2_55 : (am_cfl.getD 2 []).lookup 55 = some (2, 0, 1) := by decide +kernel
theorem fl_2_59 : (am_cfl.getD 2 []).lookup 59 = some (2, 6, 0) := by decide +kernel
theorem fl_2_63 : (am_cfl.getD 2 []).lookup 63 = some (5, 6, 2) := by decide +kernel
theorem fl_2_68 : (am_cfl.getD 2 []).lookup 68 = some (5, 5, 2) := by decide +kernel
theorem fl_2_79 : (am_cfl.getD 2 []).lookup 79 = some (2, 10, 0) := by decide +kernel
theorem fl_2_83 : (am_cfl.getD 2 []).lookup 83 = some (2, 11, 0) := by decide +kernel
theorem fl_2_86 : (am_cfl.getD 2 []).lookup 86 = some (2, 12, 0) := by decide +kernel
theorem fl_2_89 : (am_cfl.getD 2 []).lookup 89 = some (5, 0, 2) := by decide +kernel
theorem fl_2_108 : (am_cfl.getD 2 []).lookup 108 = some (3, 0, 0) := by decide +kernel
theorem fl_2_112 : (am_cfl.getD 2 []).lookup 112 = some (5, 1, 2) := by decide +kernel
theorem fl_2_134 : (am_cfl.getD 2 []).lookup 134 = some (5, 4, 2) := by decide +kernel
theorem fl_2_145 : (am_cfl.getD 2 []).lookup 145 = some (9, 0, 2) := by decide +kernel
theorem fl_2_148 : (am_cfl.getD 2 []).lookup 148 = some (9, 1, 2) := by decide +kernel
theorem fl_2_151 : (am_cfl.getD 2 []).lookup 151 = some (9, 2, 2) := by decide +kernel
theorem fl_2_162 : (am_cfl.getD 2 []).lookup 162 = some (7, 5, 0) := by decide +kernel
theorem fl_2_167 : (am_cfl.getD 2 []).lookup 167 = some (9, 4, 0) := by decide +kernel
theorem fl_2_180 : (am_cfl.getD 2 []).lookup 180 = some (2, 13, 0) := by decide +kernel
theorem fl_2_183 : (am_cfl.getD 2 []).lookup 183 = some (9, 5, 0) := by decide +kernel
theorem fl_2_194 : (am_cfl.getD 2 []).lookup 194 = some (0, 4, 0) := by decide +kernel
theorem fl_2_207 : (am_cfl.getD 2 []).lookup 207 = some (0, 0, 2) := by decide +kernel
theorem fl_2_208 : (am_cfl.getD 2 []).lookup 208 = some (0, 2, 2) := by decide +kernel
theorem fl_2_209 : (am_cfl.getD 2 []).lookup 209 = some (0, 1, 2) := by decide +kernel
theorem fl_2_218 : (am_cfl.getD 2 []).lookup 218 = some (5, 7, 2) := by decide +kernel
theorem fl_2_259 : (am_cfl.getD 2 []).lookup 259 = some (7, 0, 2) := by decide +kernel
theorem fl_2_260 : (am_cfl.getD 2 []).lookup 260 = some (7, 4, 2) := by decide +kernel
theorem fl_2_267 : (am_cfl.getD 2 []).lookup 267 = some (7, 1, 2) := by decide +kernel
theorem fl_2_268 : (am_cfl.getD 2 []).lookup 268 = some (7, 2, 2) := by decide +kernel
theorem fl_2_269 : (am_cfl.getD 2 []).lookup 269 = some (7, 3, 2) := by decide +kernel
theorem fl_3_9 : (am_cfl.getD 3 []).lookup 9 = some (3, 2, 1) := by decide +kernel
theorem fl_3_15 : (am_cfl.getD 3 []).lookup 15 = some (3, 0, 0) := by decide +kernel
theorem fl_3_19 : (am_cfl.getD 3 []).lookup 19 = some (3, 1, 0) := by decide +kernel
theorem fl_4_11 : (am_cfl.getD 4 []).lookup 11 = some (4, 2, 1) := by decide +kernel
theorem fl_4_15 : (am_cfl.getD 4 []).lookup 15 = some (4, 3, 1) := by decide +kernel
theorem fl_4_21 : (am_cfl.getD 4 []).lookup 21 = some (4, 6, 1) := by decide +kernel
theorem fl_4_25 : (am_cfl.getD 4 []).lookup 25 = some (4, 0, 1) := by decide +kernel
theorem fl_4_29 : (am_cfl.getD 4 []).lookup 29 = some (4, 1, 1) := by decide +kernel
theorem fl_4_39 : (am_cfl.getD 4 []).lookup 39 = some (4, 7, 0) := by decide +kernel
theorem fl_4_43 : (am_cfl.getD 4 []).lookup 43 = some (4, 5, 0) := by decide +kernel
theorem fl_4_46 : (am_cfl.getD 4 []).lookup 46 = some (4, 4, 0) := by decide +kernel
theorem fl_4_56 : (am_cfl.getD 4 []).lookup 56 = some (6, 4, 0) := by decide +kernel
theorem fl_4_70 : (am_cfl.getD 4 []).lookup 70 = some (5, 8, 0) := by decide +kernel
theorem fl_4_75 : (am_cfl.getD 4 []).lookup 75 = some (5, 10, 0) := by decide +kernel
theorem fl_4_78 : (am_cfl.getD 4 []).lookup 78 = some (5, 0, 2) := by decide +kernel
theorem fl_4_138 : (am_cfl.getD 4 []).lookup 138 = some (5, 4, 2) := by decide +kernel
theorem fl_4_144 : (am_cfl.getD 4 []).lookup 144 = some (5, 5, 2) := by decide +kernel
theorem fl_4_148 : (am_cfl.getD 4 []).lookup 148 = some (6, 6, 0) := by decide +kernel
theorem fl_4_156 : (am_cfl.getD 4 []).lookup 156 = some (5, 2, 2) := by decide +kernel
theorem fl_4_162 : (am_cfl.getD 4 []).lookup 162 = some (5, 3, 2) := by decide +kernel
theorem fl_4_165 : (am_cfl.getD 4 []).lookup 165 = some (5, 6, 2) := by decide +kernel
theorem fl_4_168 : (am_cfl.getD 4 []).lookup 168 = some (5, 7, 2) := by decide +kernel
theorem fl_4_171 : (am_cfl.getD 4 []).lookup 171 = some (6, 7, 2) := by decide +kernel
theorem fl_4_194 : (am_cfl.getD 4 []).lookup 194 = some (5, 1, 2) := by decide +kernel
theorem fl_5_9 : (am_cfl.getD 5 []).lookup 9 = some (5, 0, 1) := by decide +kernel
theorem fl_5_15 : (am_cfl.getD 5 []).lookup 15 = some (5, 1, 1) := by decide +kernel
theorem fl_5_21 : (am_cfl.getD 5 []).lookup 21 = some (5, 3, 1) := by decide +kernel
theorem fl_5_24 : (am_cfl.getD 5 []).lookup 24 = some (5, 4, 1) := by decide +kernel
theorem fl_5_27 : (am_cfl.getD 5 []).lookup 27 = some (5, 5, 1) := by decide +kernel
theorem fl_5_31 : (am_cfl.getD 5 []).lookup 31 = some (5, 6, 1) := by decide +kernel
theorem fl_5_34 : (am_cfl.getD 5 []).lookup 34 = some (5, 7, 1) := by decide +kernel
theorem fl_5_38 : (am_cfl.getD 5 []).lookup 38 = some (5, 9, 1) := by decide +kernel
theorem fl_5_41 : (am_cfl.getD 5 []).lookup 41 = some (5, 8, 0) := by decide +kernel
theorem fl_5_45 : (am_cfl.getD 5 []).lookup 45 = some (5, 10, 0) := by decide +kernel
theorem fl_5_48 : (am_cfl.getD 5 []).lookup 48 = some (3, 1, 0) := by decide +kernel
theorem fl_5_53 : (am_cfl.getD 5 []).lookup 53 = some (3, 0, 0) := by decide +kernel
theorem fl_5_56 : (am_cfl.getD 5 []).lookup 56 = some (3, 2, 2) := by decide +kernel
theorem fl_6_9 : (am_cfl.getD 6 []).lookup 9 = some (6, 0, 1) := by decide +kernel
theorem fl_6_15 : (am_cfl.getD 6 []).lookup 15 = some (6, 1, 0) := by decide +kernel
theorem fl_6_22 : (am_cfl.getD 6 []).lookup 22 = some (6, 7, 1) := by decide +kernel
theorem fl_6_26 : (am_cfl.getD 6 []).lookup 26 = some (6, 8, 0) := by decide +kernel
theorem fl_6_30 : (am_cfl.getD 6 []).lookup 30 = some (6, 9, 0) := by decide +kernel
theorem fl_6_45 : (am_cfl.getD 6 []).lookup 45 = some (6, 5, 0) := by decide +kernel
theorem fl_6_54 : (am_cfl.getD 6 []).lookup 54 = some (6, 2, 0) := by decide +kernel
theorem fl_6_56 : (am_cfl.getD 6 []).lookup 56 = some (6, 3, 0) := by decide +kernel
theorem fl_6_63 : (am_cfl.getD 6 []).lookup 63 = some (6, 4, 0) := by decide +kernel
theorem fl_6_83 : (am_cfl.getD 6 []).lookup 83 = some (6, 6, 0) := by decide +kernel
theorem fl_6_108 : (am_cfl.getD 6 []).lookup 108 = some (7, 5, 0) := by decide +kernel
theorem fl_6_131 : (am_cfl.getD 6 []).lookup 131 = some (7, 1, 2) := by decide +kernel
theorem fl_6_134 : (am_cfl.getD 6 []).lookup 134 = some (7, 2, 2) := by decide +kernel
theorem fl_6_137 : (am_cfl.getD 6 []).lookup 137 = some (7, 3, 2) := by decide +kernel
theorem fl_6_140 : (am_cfl.getD 6 []).lookup 140 = some (7, 4, 2) := by decide +kernel
theorem fl_7_7 : (am_cfl.getD 7 []).lookup 7 = some (7, 0, 1) := by decide +kernel
theorem fl_7_13 : (am_cfl.getD 7 []).lookup 13 = some (7, 1, 1) := by decide +kernel
theorem fl_7_17 : (am_cfl.getD 7 []).lookup 17 = some (7, 2, 1) := by decide +kernel
theorem fl_7_20 : (am_cfl.getD 7 []).lookup 20 = some (7, 3, 1) := by decide +kernel
theorem fl_7_25 : (am_cfl.getD 7 []).lookup 25 = some (7, 4, 1) := by decide +kernel
theorem fl_7_30 : (am_cfl.getD 7 []).lookup 30 = some (7, 5, 0) := by decide +kernel
theorem fl_8_11 : (am_cfl.getD 8 []).lookup 11 = some (8, 2, 1) := by decide +kernel
theorem fl_8_22 : (am_cfl.getD 8 []).lookup 22 = some (8, 3, 1) := by decide +kernel
theorem fl_8_26 : (am_cfl.getD 8 []).lookup 26 = some (8, 4, 1) := by decide +kernel
theorem fl_8_30 : (am_cfl.getD 8 []).lookup 30 = some (8, 5, 1) := by decide +kernel
theorem fl_8_34 : (am_cfl.getD 8 []).lookup 34 = some (8, 6, 1) := by decide +kernel
theorem fl_8_40 : (am_cfl.getD 8 []).lookup 40 = some (8, 7, 1) := by decide +kernel
theorem fl_8_47 : (am_cfl.getD 8 []).lookup 47 = some (8, 8, 0) := by decide +kernel
theorem fl_8_51 : (am_cfl.getD 8 []).lookup 51 = some (8, 0, 1) := by decide +kernel
theorem fl_8_55 : (am_cfl.getD 8 []).lookup 55 = some (8, 1, 1) := by decide +kernel
theorem fl_8_59 : (am_cfl.getD 8 []).lookup 59 = some (8, 9, 0) := by decide +kernel
theorem fl_8_81 : (am_cfl.getD 8 []).lookup 81 = some (7, 0, 2) := by decide +kernel
theorem fl_8_91 : (am_cfl.getD 8 []).lookup 91 = some (7, 5, 0) := by decide +kernel
theorem fl_8_95 : (am_cfl.getD 8 []).lookup 95 = some (2, 9, 2) := by decide +kernel
theorem fl_8_98 : (am_cfl.getD 8 []).lookup 98 = some (9, 4, 0) := by decide +kernel
theorem fl_8_110 : (am_cfl.getD 8 []).lookup 110 = some (5, 0, 2) := by decide +kernel
theorem fl_8_113 : (am_cfl.getD 8 []).lookup 113 = some (9, 5, 0) := by decide +kernel
theorem fl_8_136 : (am_cfl.getD 8 []).lookup 136 = some (5, 7, 2) := by decide +kernel
theorem fl_8_139 : (am_cfl.getD 8 []).lookup 139 = some (5, 1, 2) := by decide +kernel
theorem fl_8_142 : (am_cfl.getD 8 []).lookup 142 = some (5, 5, 2) := by decide +kernel
theorem fl_8_145 : (am_cfl.getD 8 []).lookup 145 = some (5, 6, 2) := by decide +kernel
theorem fl_8_148 : (am_cfl.getD 8 []).lookup 148 = some (7, 4, 2) := by decide +kernel
theorem fl_8_167 : (am_cfl.getD 8 []).lookup 167 = some (2, 12, 2) := by decide +kernel
theorem fl_8_171 : (am_cfl.getD 8 []).lookup 171 = some (2, 1, 2) := by decide +kernel
theorem fl_8_186 : (am_cfl.getD 8 []).lookup 186 = some (7, 1, 2) := by decide +kernel
theorem fl_8_187 : (am_cfl.getD 8 []).lookup 187 = some (7, 2, 2) := by decide +kernel
theorem fl_8_188 : (am_cfl.getD 8 []).lookup 188 = some (7, 3, 2) := by decide +kernel
theorem fl_9_14 : (am_cfl.getD 9 []).lookup 14 = some (9, 0, 1) := by decide +kernel
theorem fl_9_20 : (am_cfl.getD 9 []).lookup 20 = some (9, 1, 1) := by decide +kernel
theorem fl_9_23 : (am_cfl.getD 9 []).lookup 23 = some (9, 2, 1) := by decide +kernel
theorem fl_9_26 : (am_cfl.getD 9 []).lookup 26 = some (9, 3, 1) := by decide +kernel
theorem fl_9_29 : (am_cfl.getD 9 []).lookup 29 = some (0, 4, 0) := by decide +kernel
theorem fl_9_33 : (am_cfl.getD 9 []).lookup 33 = some (9, 4, 0) := by decide +kernel
theorem fl_9_37 : (am_cfl.getD 9 []).lookup 37 = some (9, 5, 0) := by decide +kernel
theorem fl_9_40 : (am_cfl.getD 9 []).lookup 40 = some (9, 6, 0) := by decide +kernel
theorem fl_10_9 : (am_cfl.getD 10 []).lookup 9 = some (10, 0, 1) := by decide +kernel
theorem fl_10_15 : (am_cfl.getD 10 []).lookup 15 = some (10, 3, 1) := by decide +kernel
theorem fl_10_19 : (am_cfl.getD 10 []).lookup 19 = some (10, 4, 1) := by decide +kernel
theorem fl_10_25 : (am_cfl.getD 10 []).lookup 25 = some (10, 6, 1) := by decide +kernel
theorem fl_10_29 : (am_cfl.getD 10 []).lookup 29 = some (10, 2, 1) := by decide +kernel
theorem fl_10_33 : (am_cfl.getD 10 []).lookup 33 = some (10, 1, 0) := by decide +kernel
theorem fl_10_51 : (am_cfl.getD 10 []).lookup 51 = some (3, 0, 0) := by decide +kernel
theorem fl_10_54 : (am_cfl.getD 10 []).lookup 54 = some (3, 1, 0) := by decide +kernel
theorem fl_10_58 : (am_cfl.getD 10 []).lookup 58 = some (3, 2, 2) := by decide +kernel
theorem fl_10_68 : (am_cfl.getD 10 []).lookup 68 = some (10, 5, 0) := by decide +kernel
theorem fl_10_75 : (am_cfl.getD 10 []).lookup 75 = some (5, 0, 2) := by decide +kernel
theorem fl_10_95 : (am_cfl.getD 10 []).lookup 95 = some (5, 4, 2) := by decide +kernel
theorem fl_10_102 : (am_cfl.getD 10 []).lookup 102 = some (5, 5, 2) := by decide +kernel
theorem fl_10_124 : (am_cfl.getD 10 []).lookup 124 = some (5, 6, 2) := by decide +kernel
theorem fl_10_127 : (am_cfl.getD 10 []).lookup 127 = some (5, 7, 2) := by decide +kernel
theorem fl_11_9 : (am_cfl.getD 11 []).lookup 9 = some (11, 0, 1) := by decide +kernel
theorem fl_11_16 : (am_cfl.getD 11 []).lookup 16 = some (11, 2, 1) := by decide +kernel
theorem fl_11_29 : (am_cfl.getD 11 []).lookup 29 = some (11, 3, 1) := by decide +kernel
theorem fl_11_36 : (am_cfl.getD 11 []).lookup 36 = some (11, 4, 1) := by decide +kernel
theorem fl_11_45 : (am_cfl.getD 11 []).lookup 45 = some (11, 5, 1) := by decide +kernel
theorem fl_11_49 : (am_cfl.getD 11 []).lookup 49 = some (11, 6, 1) := by decide +kernel
theorem fl_11_55 : (am_cfl.getD 11 []).lookup 55 = some (11, 7, 1) := by decide +kernel
theorem fl_11_64 : (am_cfl.getD 11 []).lookup 64 = some (11, 8, 1) := by decide +kernel
theorem fl_11_68 : (am_cfl.getD 11 []).lookup 68 = some (11, 9, 1) := by decide +kernel
theorem fl_11_71 : (am_cfl.getD 11 []).lookup 71 = some (11, 10, 1) := by decide +kernel
theorem fl_11_77 : (am_cfl.getD 11 []).lookup 77 = some (11, 11, 1) := by decide +kernel
theorem fl_11_81 : (am_cfl.getD 11 []).lookup 81 = some (11, 12, 1) := by decide +kernel
theorem fl_11_84 : (am_cfl.getD 11 []).lookup 84 = some (11, 13, 1) := by decide +kernel
theorem fl_11_88 : (am_cfl.getD 11 []).lookup 88 = some (11, 14, 1) := by decide +kernel
theorem fl_11_97 : (am_cfl.getD 11 []).lookup 97 = some (11, 15, 1) := by decide +kernel
theorem fl_11_106 : (am_cfl.getD 11 []).lookup 106 = some (11, 16, 1) := by decide +kernel
theorem fl_11_113 : (am_cfl.getD 11 []).lookup 113 = some (11, 17, 1) := by decide +kernel
theorem fl_11_120 : (am_cfl.getD 11 []).lookup 120 = some (11, 18, 1) := by decide +kernel
theorem fl_11_127 : (am_cfl.getD 11 []).lookup 127 = some (11, 1, 0) := by decide +kernel
theorem fl_11_149 : (am_cfl.getD 11 []).lookup 149 = some (10, 1, 0) := by decide +kernel
theorem fl_11_152 : (am_cfl.getD 11 []).lookup 152 = some (10, 0, 2) := by decide +kernel
theorem fl_11_173 : (am_cfl.getD 11 []).lookup 173 = some (6, 9, 0) := by decide +kernel
theorem fl_11_176 : (am_cfl.getD 11 []).lookup 176 = some (6, 8, 0) := by decide +kernel
theorem fl_11_202 : (am_cfl.getD 11 []).lookup 202 = some (5, 1, 2) := by decide +kernel
theorem fl_11_224 : (am_cfl.getD 11 []).lookup 224 = some (5, 8, 0) := by decide +kernel
theorem fl_11_225 : (am_cfl.getD 11 []).lookup 225 = some (4, 7, 0) := by decide +kernel
theorem fl_11_256 : (am_cfl.getD 11 []).lookup 256 = some (9, 5, 0) := by decide +kernel
theorem fl_11_259 : (am_cfl.getD 11 []).lookup 259 = some (9, 4, 0) := by decide +kernel
theorem fl_11_271 : (am_cfl.getD 11 []).lookup 271 = some (0, 4, 0) := by decide +kernel
theorem fl_11_276 : (am_cfl.getD 11 []).lookup 276 = some (0, 2, 2) := by decide +kernel
theorem fl_11_284 : (am_cfl.getD 11 []).lookup 284 = some (0, 1, 2) := by decide +kernel
theorem fl_11_287 : (am_cfl.getD 11 []).lookup 287 = some (0, 0, 2) := by decide +kernel
theorem fl_11_290 : (am_cfl.getD 11 []).lookup 290 = some (9, 6, 0) := by decide +kernel
theorem fl_11_293 : (am_cfl.getD 11 []).lookup 293 = some (5, 0, 2) := by decide +kernel
theorem fl_11_296 : (am_cfl.getD 11 []).lookup 296 = some (9, 0, 2) := by decide +kernel
theorem fl_11_310 : (am_cfl.getD 11 []).lookup 310 = some (6, 7, 2) := by decide +kernel
theorem fl_11_326 : (am_cfl.getD 11 []).lookup 326 = some (9, 3, 2) := by decide +kernel
theorem fl_11_340 : (am_cfl.getD 11 []).lookup 340 = some (2, 7, 2) := by decide +kernel
theorem fl_11_347 : (am_cfl.getD 11 []).lookup 347 = some (7, 5, 0) := by decide +kernel
theorem fl_11_352 : (am_cfl.getD 11 []).lookup 352 = some (2, 8, 2) := by decide +kernel
theorem fl_11_356 : (am_cfl.getD 11 []).lookup 356 = some (2, 9, 2) := by decide +kernel
theorem fl_11_361 : (am_cfl.getD 11 []).lookup 361 = some (7, 0, 2) := by decide +kernel
theorem fl_11_362 : (am_cfl.getD 11 []).lookup 362 = some (7, 4, 2) := by decide +kernel
theorem fl_11_363 : (am_cfl.getD 11 []).lookup 363 = some (7, 1, 2) := by decide +kernel
theorem fl_11_364 : (am_cfl.getD 11 []).lookup 364 = some (7, 2, 2) := by decide +kernel
theorem fl_11_365 : (am_cfl.getD 11 []).lookup 365 = some (7, 3, 2) := by decide +kernel
theorem fl_11_381 : (am_cfl.getD 11 []).lookup 381 = some (3, 0, 0) := by decide +kernel
theorem fl_11_402 : (am_cfl.getD 11 []).lookup 402 = some (8, 9, 0) := by decide +kernel
theorem fl_11_405 : (am_cfl.getD 11 []).lookup 405 = some (1, 3, 0) := by decide +kernel
theorem fl_11_408 : (am_cfl.getD 11 []).lookup 408 = some (1, 0, 2) := by decide +kernel
theorem fl_11_411 : (am_cfl.getD 11 []).lookup 411 = some (1, 4, 0) := by decide +kernel
theorem fl_11_417 : (am_cfl.getD 11 []).lookup 417 = some (11, 19, 0) := by decide +kernel
theorem fl_11_439 : (am_cfl.getD 11 []).lookup 439 = some (1, 2, 0) := by decide +kernel
theorem fl_11_448 : (am_cfl.getD 11 []).lookup 448 = some (1, 1, 0) := by decide +kernel
theorem fl_12_7 : (am_cfl.getD 12 []).lookup 7 = some (12, 1, 1) := by decide +kernel
theorem fl_12_13 : (am_cfl.getD 12 []).lookup 13 = some (12, 3, 1) := by decide +kernel
theorem fl_12_17 : (am_cfl.getD 12 []).lookup 17 = some (12, 5, 1) := by decide +kernel
theorem fl_12_20 : (am_cfl.getD 12 []).lookup 20 = some (12, 9, 1) := by decide +kernel
theorem fl_12_24 : (am_cfl.getD 12 []).lookup 24 = some (12, 10, 1) := by decide +kernel
theorem fl_12_27 : (am_cfl.getD 12 []).lookup 27 = some (12, 11, 1) := by decide +kernel
theorem fl_12_30 : (am_cfl.getD 12 []).lookup 30 = some (12, 12, 1) := by decide +kernel
theorem fl_12_33 : (am_cfl.getD 12 []).lookup 33 = some (12, 21, 1) := by decide +kernel
theorem fl_12_36 : (am_cfl.getD 12 []).lookup 36 = some (12, 22, 1) := by decide +kernel
theorem fl_12_39 : (am_cfl.getD 12 []).lookup 39 = some (12, 23, 1) := by decide +kernel
theorem fl_12_42 : (am_cfl.getD 12 []).lookup 42 = some (12, 24, 1) := by decide +kernel
theorem fl_12_45 : (am_cfl.getD 12 []).lookup 45 = some (12, 25, 1) := by decide +kernel
theorem fl_12_48 : (am_cfl.getD 12 []).lookup 48 = some (12, 26, 1) := by decide +kernel
theorem fl_12_51 : (am_cfl.getD 12 []).lookup 51 = some (12, 27, 1) := by decide +kernel
theorem fl_12_54 : (am_cfl.getD 12 []).lookup 54 = some (12, 28, 1) := by decide +kernel
theorem fl_12_57 : (am_cfl.getD 12 []).lookup 57 = some (12, 29, 1) := by decide +kernel
theorem fl_12_60 : (am_cfl.getD 12 []).lookup 60 = some (12, 30, 1) := by decide +kernel
theorem fl_12_63 : (am_cfl.getD 12 []).lookup 63 = some (12, 31, 1) := by decide +kernel
theorem fl_12_67 : (am_cfl.getD 12 []).lookup 67 = some (12, 32, 1) := by decide +kernel
theorem fl_12_70 : (am_cfl.getD 12 []).lookup 70 = some (12, 33, 1) := by decide +kernel
theorem fl_12_73 : (am_cfl.getD 12 []).lookup 73 = some (12, 34, 1) := by decide +kernel
theorem fl_12_76 : (am_cfl.getD 12 []).lookup 76 = some (12, 35, 1) := by decide +kernel
theorem fl_12_79 : (am_cfl.getD 12 []).lookup 79 = some (12, 41, 1) := by decide +kernel
theorem fl_12_82 : (am_cfl.getD 12 []).lookup 82 = some (12, 42, 1) := by decide +kernel
theorem fl_12_85 : (am_cfl.getD 12 []).lookup 85 = some (12, 43, 1) := by decide +kernel
theorem fl_12_88 : (am_cfl.getD 12 []).lookup 88 = some (12, 44, 1) := by decide +kernel
theorem fl_12_91 : (am_cfl.getD 12 []).lookup 91 = some (12, 47, 1) := by decide +kernel
theorem fl_12_94 : (am_cfl.getD 12 []).lookup 94 = some (12, 48, 1) := by decide +kernel
theorem fl_12_97 : (am_cfl.getD 12 []).lookup 97 = some (12, 49, 1) := by decide +kernel
theorem fl_12_100 : (am_cfl.getD 12 []).lookup 100 = some (12, 50, 1) := by decide +kernel
theorem fl_12_103 : (am_cfl.getD 12 []).lookup 103 = some (12, 51, 1) := by decide +kernel
theorem fl_12_106 : (am_cfl.getD 12 []).lookup 106 = some (12, 52, 1) := by decide +kernel
theorem fl_12_109 : (am_cfl.getD 12 []).lookup 109 = some (12, 53, 1) := by decide +kernel
theorem fl_12_112 : (am_cfl.getD 12 []).lookup 112 = some (12, 54, 1) := by decide +kernel
theorem fl_12_115 : (am_cfl.getD 12 []).lookup 115 = some (12, 55, 1) := by decide +kernel
theorem fl_12_118 : (am_cfl.getD 12 []).lookup 118 = some (12, 56, 1) := by decide +kernel
theorem fl_12_121 : (am_cfl.getD 12 []).lookup 121 = some (12, 58, 1) := by decide +kernel
theorem fl_12_124 : (am_cfl.getD 12 []).lookup 124 = some (12, 59, 1) := by decide +kernel
theorem fl_12_127 : (am_cfl.getD 12 []).lookup 127 = some (12, 61, 1) := by decide +kernel
theorem fl_12_130 : (am_cfl.getD 12 []).lookup 130 = some (12, 63, 1) := by decide +kernel
theorem fl_12_133 : (am_cfl.getD 12 []).lookup 133 = some (12, 64, 1) := by decide +kernel
theorem fl_12_136 : (am_cfl.getD 12 []).lookup 136 = some (12, 66, 1) := by decide +kernel
theorem fl_12_139 : (am_cfl.getD 12 []).lookup 139 = some (12, 67, 1) := by decide +kernel
theorem fl_12_142 : (am_cfl.getD 12 []).lookup 142 = some (12, 68, 1) := by decide +kernel
theorem fl_12_145 : (am_cfl.getD 12 []).lookup 145 = some (12, 69, 1) := by decide +kernel
theorem fl_12_148 : (am_cfl.getD 12 []).lookup 148 = some (12, 70, 1) := by decide +kernel
theorem fl_12_151 : (am_cfl.getD 12 []).lookup 151 = some (12, 71, 1) := by decide +kernel
theorem fl_12_155 : (am_cfl.getD 12 []).lookup 155 = some (12, 72, 1) := by decide +kernel
theorem fl_12_158 : (am_cfl.getD 12 []).lookup 158 = some (12, 73, 1) := by decide +kernel
theorem fl_12_161 : (am_cfl.getD 12 []).lookup 161 = some (12, 74, 1) := by decide +kernel
theorem fl_12_164 : (am_cfl.getD 12 []).lookup 164 = some (12, 75, 1) := by decide +kernel
theorem fl_12_167 : (am_cfl.getD 12 []).lookup 167 = some (12, 76, 1) := by decide +kernel
theorem fl_12_170 : (am_cfl.getD 12 []).lookup 170 = some (12, 77, 1) := by decide +kernel
theorem fl_12_173 : (am_cfl.getD 12 []).lookup 173 = some (12, 78, 1) := by decide +kernel
theorem fl_12_176 : (am_cfl.getD 12 []).lookup 176 = some (12, 79, 1) := by decide +kernel
theorem fl_12_179 : (am_cfl.getD 12 []).lookup 179 = some (12, 80, 1) := by decide +kernel
theorem fl_12_182 : (am_cfl.getD 12 []).lookup 182 = some (12, 81, 1) := by decide +kernel
theorem fl_12_186 : (am_cfl.getD 12 []).lookup 186 = some (12, 82, 1) := by decide +kernel
theorem fl_12_189 : (am_cfl.getD 12 []).lookup 189 = some (12, 86, 1) := by decide +kernel
theorem fl_12_192 : (am_cfl.getD 12 []).lookup 192 = some (12, 87, 1) := by decide +kernel
theorem fl_12_195 : (am_cfl.getD 12 []).lookup 195 = some (12, 88, 1) := by decide +kernel
theorem fl_12_198 : (am_cfl.getD 12 []).lookup 198 = some (12, 90, 1) := by decide +kernel
theorem fl_12_201 : (am_cfl.getD 12 []).lookup 201 = some (12, 91, 1) := by decide +kernel
theorem fl_12_204 : (am_cfl.getD 12 []).lookup 204 = some (12, 92, 1) := by decide +kernel
theorem fl_12_207 : (am_cfl.getD 12 []).lookup 207 = some (12, 94, 1) := by decide +kernel
theorem fl_12_210 : (am_cfl.getD 12 []).lookup 210 = some (12, 95, 1) := by decide +kernel
theorem fl_12_213 : (am_cfl.getD 12 []).lookup 213 = some (12, 97, 1) := by decide +kernel
theorem fl_12_216 : (am_cfl.getD 12 []).lookup 216 = some (12, 98, 1) := by decide +kernel
theorem fl_12_219 : (am_cfl.getD 12 []).lookup 219 = some (12, 105, 1) := by decide +kernel
theorem fl_12_222 : (am_cfl.getD 12 []).lookup 222 = some (12, 106, 1) := by decide +kernel
theorem fl_12_225 : (am_cfl.getD 12 []).lookup 225 = some (12, 107, 1) := by decide +kernel
theorem fl_12_228 : (am_cfl.getD 12 []).lookup 228 = some (12, 108, 1) := by decide +kernel
theorem fl_12_231 : (am_cfl.getD 12 []).lookup 231 = some (12, 109, 1) := by decide +kernel
theorem fl_12_234 : (am_cfl.getD 12 []).lookup 234 = some (12, 111, 1) := by decide +kernel
theorem fl_12_237 : (am_cfl.getD 12 []).lookup 237 = some (12, 112, 1) := by decide +kernel
theorem fl_12_240 : (am_cfl.getD 12 []).lookup 240 = some (12, 113, 1) := by decide +kernel
theorem fl_12_243 : (am_cfl.getD 12 []).lookup 243 = some (12, 114, 1) := by decide +kernel
theorem fl_12_246 : (am_cfl.getD 12 []).lookup 246 = some (12, 115, 1) := by decide +kernel
theorem fl_12_249 : (am_cfl.getD 12 []).lookup 249 = some (12, 117, 1) := by decide +kernel
theorem fl_12_252 : (am_cfl.getD 12 []).lookup 252 = some (12, 118, 1) := by decide +kernel
theorem fl_12_255 : (am_cfl.getD 12 []).lookup 255 = some (12, 119, 1) := by decide +kernel
theorem fl_12_258 : (am_cfl.getD 12 []).lookup 258 = some (12, 120, 1) := by decide +kernel
theorem fl_12_261 : (am_cfl.getD 12 []).lookup 261 = some (12, 121, 1) := by decide +kernel
theorem fl_12_264 : (am_cfl.getD 12 []).lookup 264 = some (12, 123, 1) := by decide +kernel
theorem fl_12_267 : (am_cfl.getD 12 []).lookup 267 = some (12, 125, 1) := by decide +kernel
theorem fl_12_270 : (am_cfl.getD 12 []).lookup 270 = some (12, 126, 1) := by decide +kernel
theorem fl_12_273 : (am_cfl.getD 12 []).lookup 273 = some (12, 127, 1) := by decide +kernel
theorem fl_12_276 : (am_cfl.getD 12 []).lookup 276 = some (12, 128, 1) := by decide +kernel
theorem fl_12_279 : (am_cfl.getD 12 []).lookup 279 = some (12, 129, 1) := by decide +kernel
theorem fl_12_282 : (am_cfl.getD 12 []).lookup 282 = some (12, 131, 1) := by decide +kernel
theorem fl_12_285 : (am_cfl.getD 12 []).lookup 285 = some (12, 132, 1) := by decide +kernel
theorem fl_12_288 : (am_cfl.getD 12 []).lookup 288 = some (12, 133, 1) := by decide +kernel
theorem fl_12_291 : (am_cfl.getD 12 []).lookup 291 = some (12, 135, 1) := by decide +kernel
theorem fl_12_294 : (am_cfl.getD 12 []).lookup 294 = some (12, 136, 1) := by decide +kernel
theorem fl_12_297 : (am_cfl.getD 12 []).lookup 297 = some (12, 138, 1) := by decide +kernel
theorem fl_12_300 : (am_cfl.getD 12 []).lookup 300 = some (12, 139, 1) := by decide +kernel
theorem fl_12_303 : (am_cfl.getD 12 []).lookup 303 = some (12, 140, 1) := by decide +kernel
theorem fl_12_306 : (am_cfl.getD 12 []).lookup 306 = some (12, 141, 1) := by decide +kernel
theorem fl_12_309 : (am_cfl.getD 12 []).lookup 309 = some (12, 142, 1) := by decide +kernel
theorem fl_12_312 : (am_cfl.getD 12 []).lookup 312 = some (12, 144, 1) := by decide +kernel
theorem fl_12_315 : (am_cfl.getD 12 []).lookup 315 = some (12, 145, 1) := by decide +kernel
theorem fl_12_318 : (am_cfl.getD 12 []).lookup 318 = some (12, 146, 1) := by decide +kernel
theorem fl_12_321 : (am_cfl.getD 12 []).lookup 321 = some (12, 147, 1) := by decide +kernel
theorem fl_12_324 : (am_cfl.getD 12 []).lookup 324 = some (12, 148, 1) := by decide +kernel
theorem fl_12_327 : (am_cfl.getD 12 []).lookup 327 = some (12, 151, 1) := by decide +kernel
theorem fl_12_330 : (am_cfl.getD 12 []).lookup 330 = some (12, 152, 1) := by decide +kernel
theorem fl_12_333 : (am_cfl.getD 12 []).lookup 333 = some (12, 153, 1) := by decide +kernel
theorem fl_12_336 : (am_cfl.getD 12 []).lookup 336 = some (12, 154, 1) := by decide +kernel
theorem fl_12_339 : (am_cfl.getD 12 []).lookup 339 = some (12, 155, 1) := by decide +kernel
theorem fl_12_342 : (am_cfl.getD 12 []).lookup 342 = some (12, 156, 1) := by decide +kernel
theorem fl_12_345 : (am_cfl.getD 12 []).lookup 345 = some (12, 157, 1) := by decide +kernel
theorem fl_12_348 : (am_cfl.getD 12 []).lookup 348 = some (12, 158, 1) := by decide +kernel
theorem fl_12_351 : (am_cfl.getD 12 []).lookup 351 = some (12, 159, 1) := by decide +kernel
theorem fl_12_354 : (am_cfl.getD 12 []).lookup 354 = some (12, 160, 1) := by decide +kernel
theorem fl_12_357 : (am_cfl.getD 12 []).lookup 357 = some (12, 161, 1) := by decide +kernel
theorem fl_12_360 : (am_cfl.getD 12 []).lookup 360 = some (12, 162, 1) := by decide +kernel
theorem fl_12_363 : (am_cfl.getD 12 []).lookup 363 = some (12, 163, 1) := by decide +kernel
theorem fl_12_366 : (am_cfl.getD 12 []).lookup 366 = some (12, 164, 1) := by decide +kernel
theorem fl_12_369 : (am_cfl.getD 12 []).lookup 369 = some (12, 165, 1) := by decide +kernel
theorem fl_12_372 : (am_cfl.getD 12 []).lookup 372 = some (12, 166, 1) := by decide +kernel
theorem fl_12_375 : (am_cfl.getD 12 []).lookup 375 = some (12, 167, 1) := by decide +kernel
theorem fl_12_378 : (am_cfl.getD 12 []).lookup 378 = some (12, 168, 1) := by decide +kernel
theorem fl_12_381 : (am_cfl.getD 12 []).lookup 381 = some (12, 169, 1) := by decide +kernel
theorem fl_12_384 : (am_cfl.getD 12 []).lookup 384 = some (12, 170, 1) := by decide +kernel
theorem fl_12_387 : (am_cfl.getD 12 []).lookup 387 = some (12, 171, 1) := by decide +kernel
theorem fl_12_390 : (am_cfl.getD 12 []).lookup 390 = some (12, 172, 1) := by decide +kernel
theorem fl_12_393 : (am_cfl.getD 12 []).lookup 393 = some (12, 173, 1) := by decide +kernel
theorem fl_12_396 : (am_cfl.getD 12 []).lookup 396 = some (12, 176, 1) := by decide +kernel
theorem fl_12_399 : (am_cfl.getD 12 []).lookup 399 = some (12, 179, 0) := by decide +kernel
theorem fl_12_403 : (am_cfl.getD 12 []).lookup 403 = some (12, 19, 0) := by decide +kernel
theorem fl_12_406 : (am_cfl.getD 12 []).lookup 406 = some (12, 20, 0) := by decide +kernel
theorem fl_12_409 : (am_cfl.getD 12 []).lookup 409 = some (12, 0, 0) := by decide +kernel
theorem fl_12_412 : (am_cfl.getD 12 []).lookup 412 = some (12, 180, 0) := by decide +kernel
theorem fl_12_416 : (am_cfl.getD 12 []).lookup 416 = some (12, 2, 0) := by decide +kernel
theorem fl_12_423 : (am_cfl.getD 12 []).lookup 423 = some (12, 4, 0) := by decide +kernel
theorem fl_12_449 : (am_cfl.getD 12 []).lookup 449 = some (12, 7, 0) := by decide +kernel
theorem fl_12_452 : (am_cfl.getD 12 []).lookup 452 = some (12, 8, 0) := by decide +kernel
theorem fl_12_585 : (am_cfl.getD 12 []).lookup 585 = some (12, 16, 0) := by decide +kernel
theorem fl_12_588 : (am_cfl.getD 12 []).lookup 588 = some (12, 17, 0) := by decide +kernel
theorem fl_12_591 : (am_cfl.getD 12 []).lookup 591 = some (12, 15, 0) := by decide +kernel
theorem fl_12_597 : (am_cfl.getD 12 []).lookup 597 = some (12, 18, 0) := by decide +kernel
theorem fl_12_601 : (am_cfl.getD 12 []).lookup 601 = some (12, 14, 0) := by decide +kernel
theorem fl_12_604 : (am_cfl.getD 12 []).lookup 604 = some (12, 13, 0) := by decide +kernel
theorem fl_12_617 : (am_cfl.getD 12 []).lookup 617 = some (12, 6, 0) := by decide +kernel
theorem fl_12_623 : (am_cfl.getD 12 []).lookup 623 = some (12, 45, 0) := by decide +kernel
theorem fl_12_626 : (am_cfl.getD 12 []).lookup 626 = some (12, 40, 0) := by decide +kernel
theorem fl_12_629 : (am_cfl.getD 12 []).lookup 629 = some (12, 39, 0) := by decide +kernel
theorem fl_12_632 : (am_cfl.getD 12 []).lookup 632 = some (12, 38, 0) := by decide +kernel
theorem fl_12_665 : (am_cfl.getD 12 []).lookup 665 = some (12, 37, 0) := by decide +kernel
theorem fl_12_710 : (am_cfl.getD 12 []).lookup 710 = some (12, 36, 0) := by decide +kernel
theorem fl_12_723 : (am_cfl.getD 12 []).lookup 723 = some (12, 46, 0) := by decide +kernel
theorem fl_12_747 : (am_cfl.getD 12 []).lookup 747 = some (12, 57, 0) := by decide +kernel
theorem fl_12_779 : (am_cfl.getD 12 []).lookup 779 = some (12, 60, 0) := by decide +kernel
theorem fl_12_794 : (am_cfl.getD 12 []).lookup 794 = some (12, 62, 0) := by decide +kernel
theorem fl_12_806 : (am_cfl.getD 12 []).lookup 806 = some (12, 65, 0) := by decide +kernel
theorem fl_12_855 : (am_cfl.getD 12 []).lookup 855 = some (12, 101, 0) := by decide +kernel
theorem fl_12_858 : (am_cfl.getD 12 []).lookup 858 = some (12, 83, 0) := by decide +kernel
theorem fl_12_861 : (am_cfl.getD 12 []).lookup 861 = some (12, 84, 0) := by decide +kernel
theorem fl_12_864 : (am_cfl.getD 12 []).lookup 864 = some (12, 85, 0) := by decide +kernel
theorem fl_12_867 : (am_cfl.getD 12 []).lookup 867 = some (12, 89, 0) := by decide +kernel
theorem fl_12_870 : (am_cfl.getD 12 []).lookup 870 = some (12, 93, 0) := by decide +kernel
theorem fl_12_873 : (am_cfl.getD 12 []).lookup 873 = some (12, 96, 0) := by decide +kernel
theorem fl_12_886 : (am_cfl.getD 12 []).lookup 886 = some (12, 122, 0) := by decide +kernel
theorem fl_12_889 : (am_cfl.getD 12 []).lookup 889 = some (12, 124, 0) := by decide +kernel
theorem fl_12_905 : (am_cfl.getD 12 []).lookup 905 = some (12, 99, 0) := by decide +kernel
theorem fl_12_911 : (am_cfl.getD 12 []).lookup 911 = some (12, 100, 0) := by decide +kernel
theorem fl_12_941 : (am_cfl.getD 12 []).lookup 941 = some (12, 102, 0) := by decide +kernel
theorem fl_12_965 : (am_cfl.getD 12 []).lookup 965 = some (12, 116, 0) := by decide +kernel
theorem fl_12_971 : (am_cfl.getD 12 []).lookup 971 = some (12, 104, 0) := by decide +kernel
theorem fl_12_981 : (am_cfl.getD 12 []).lookup 981 = some (12, 110, 0) := by decide +kernel
theorem fl_12_997 : (am_cfl.getD 12 []).lookup 997 = some (12, 103, 0) := by decide +kernel
theorem fl_12_1032 : (am_cfl.getD 12 []).lookup 1032 = some (12, 130, 0) := by decide +kernel
theorem fl_12_1035 : (am_cfl.getD 12 []).lookup 1035 = some (12, 137, 0) := by decide +kernel
theorem fl_12_1038 : (am_cfl.getD 12 []).lookup 1038 = some (12, 143, 0) := by decide +kernel
theorem fl_12_1071 : (am_cfl.getD 12 []).lookup 1071 = some (12, 134, 0) := by decide +kernel
theorem fl_12_1077 : (am_cfl.getD 12 []).lookup 1077 = some (12, 149, 0) := by decide +kernel
theorem fl_12_1080 : (am_cfl.getD 12 []).lookup 1080 = some (12, 150, 0) := by decide +kernel
theorem fl_12_1089 : (am_cfl.getD 12 []).lookup 1089 = some (12, 174, 0) := by decide +kernel
theorem fl_12_1111 : (am_cfl.getD 12 []).lookup 1111 = some (12, 175, 0) := by decide +kernel
theorem fl_12_1133 : (am_cfl.getD 12 []).lookup 1133 = some (12, 181, 0) := by decide +kernel
theorem fl_12_1140 : (am_cfl.getD 12 []).lookup 1140 = some (12, 177, 0) := by decide +kernel
theorem fl_12_1154 : (am_cfl.getD 12 []).lookup 1154 = some (12, 178, 0) := by decide +kernel
theorem cl_0_39 : (am_ccal.getD 0 []).lookup 39 = some (1, 66, 1, 3) := by decide +kernel
theorem cl_0_43 : (am_ccal.getD 0 []).lookup 43 = some (1, 88, 2, 0) := by decide +kernel
theorem cl_0_47 : (am_ccal.getD 0 []).lookup 47 = some (1, 100, 3, 0) := by decide +kernel
theorem cl_0_51 : (am_ccal.getD 0 []).lookup 51 = some (1, 101, 0, 3) := by decide +kernel
theorem cl_0_54 : (am_ccal.getD 0 []).lookup 54 = some (1, 97, 1, 3) := by decide +kernel
theorem cl_0_58 : (am_ccal.getD 0 []).lookup 58 = some (1, 120, 2, 3) := by decide +kernel
theorem cl_0_65 : (am_ccal.getD 0 []).lookup 65 = some (1, 121, 1, 0) := by decide +kernel
theorem cl_1_33 : (am_ccal.getD 1 []).lookup 33 = some (0, 28, 2, 1) := by decide +kernel
theorem cl_1_40 : (am_ccal.getD 1 []).lookup 40 = some (0, 30, 0, 1) := by decide +kernel
theorem cl_1_47 : (am_ccal.getD 1 []).lookup 47 = some (1, 80, 2, 1) := by decide +kernel
theorem cl_1_51 : (am_ccal.getD 1 []).lookup 51 = some (1, 81, 1, 1) := by decide +kernel
theorem cl_1_55 : (am_ccal.getD 1 []).lookup 55 = some (0, 33, 2, 1) := by decide +kernel
theorem cl_1_58 : (am_ccal.getD 1 []).lookup 58 = some (1, 82, 1, 1) := by decide +kernel
theorem cl_1_61 : (am_ccal.getD 1 []).lookup 61 = some (0, 31, 2, 1) := by decide +kernel
theorem cl_1_66 : (am_ccal.getD 1 []).lookup 66 = some (1, 26, 0, 1) := by decide +kernel
theorem cl_1_69 : (am_ccal.getD 1 []).lookup 69 = some (1, 27, 0, 1) := by decide +kernel
theorem cl_1_72 : (am_ccal.getD 1 []).lookup 72 = some (0, 29, 1, 1) := by decide +kernel
theorem cl_1_76 : (am_ccal.getD 1 []).lookup 76 = some (1, 32, 2, 1) := by decide +kernel
theorem cl_2_71 : (am_ccal.getD 2 []).lookup 71 = some (1, 89, 2, 0) := by decide +kernel
theorem cl_2_75 : (am_ccal.getD 2 []).lookup 75 = some (1, 64, 0, 3) := by decide +kernel
theorem cl_2_93 : (am_ccal.getD 2 []).lookup 93 = some (0, 123, 1, 2) := by decide +kernel
theorem cl_2_97 : (am_ccal.getD 2 []).lookup 97 = some (1, 124, 2, 2) := by decide +kernel
theorem cl_2_101 : (am_ccal.getD 2 []).lookup 101 = some (1, 122, 2, 2) := by decide +kernel
theorem cl_2_105 : (am_ccal.getD 2 []).lookup 105 = some (1, 128, 1, 2) := by decide +kernel
theorem cl_2_115 : (am_ccal.getD 2 []).lookup 115 = some (1, 129, 2, 3) := by decide +kernel
theorem cl_2_119 : (am_ccal.getD 2 []).lookup 119 = some (1, 130, 2, 3) := by decide +kernel
theorem cl_2_123 : (am_ccal.getD 2 []).lookup 123 = some (1, 131, 2, 3) := by decide +kernel
theorem cl_2_127 : (am_ccal.getD 2 []).lookup 127 = some (1, 68, 1, 3) := by decide +kernel
theorem cl_2_131 : (am_ccal.getD 2 []).lookup 131 = some (0, 136, 2, 2) := by decide +kernel
theorem cl_2_137 : (am_ccal.getD 2 []).lookup 137 = some (1, 125, 2, 5) := by decide +kernel
theorem cl_2_141 : (am_ccal.getD 2 []).lookup 141 = some (1, 66, 1, 3) := by decide +kernel
theorem cl_2_154 : (am_ccal.getD 2 []).lookup 154 = some (1, 127, 1, 3) := by decide +kernel
theorem cl_2_158 : (am_ccal.getD 2 []).lookup 158 = some (1, 88, 2, 0) := by decide +kernel
theorem cl_2_176 : (am_ccal.getD 2 []).lookup 176 = some (1, 110, 2, 2) := by decide +kernel
theorem cl_2_186 : (am_ccal.getD 2 []).lookup 186 = some (1, 111, 0, 2) := by decide +kernel
theorem cl_2_190 : (am_ccal.getD 2 []).lookup 190 = some (1, 142, 2, 2) := by decide +kernel
theorem cl_2_195 : (am_ccal.getD 2 []).lookup 195 = some (1, 113, 1, 2) := by decide +kernel
theorem cl_2_199 : (am_ccal.getD 2 []).lookup 199 = some (1, 112, 1, 2) := by decide +kernel
theorem cl_2_203 : (am_ccal.getD 2 []).lookup 203 = some (1, 114, 1, 2) := by decide +kernel
theorem cl_2_210 : (am_ccal.getD 2 []).lookup 210 = some (1, 117, 4, 2) := by decide +kernel
theorem cl_2_214 : (am_ccal.getD 2 []).lookup 214 = some (1, 137, 3, 2) := by decide +kernel
theorem cl_2_221 : (am_ccal.getD 2 []).lookup 221 = some (1, 115, 1, 5) := by decide +kernel
theorem cl_2_224 : (am_ccal.getD 2 []).lookup 224 = some (1, 138, 1, 5) := by decide +kernel
theorem cl_2_227 : (am_ccal.getD 2 []).lookup 227 = some (1, 139, 1, 2) := by decide +kernel
theorem cl_2_230 : (am_ccal.getD 2 []).lookup 230 = some (1, 140, 1, 2) := by decide +kernel
theorem cl_2_234 : (am_ccal.getD 2 []).lookup 234 = some (1, 118, 5, 7) := by decide +kernel
theorem cl_2_237 : (am_ccal.getD 2 []).lookup 237 = some (1, 141, 3, 0) := by decide +kernel
theorem cl_2_241 : (am_ccal.getD 2 []).lookup 241 = some (1, 101, 0, 3) := by decide +kernel
theorem cl_2_244 : (am_ccal.getD 2 []).lookup 244 = some (1, 119, 3, 0) := by decide +kernel
theorem cl_2_248 : (am_ccal.getD 2 []).lookup 248 = some (1, 99, 3, 0) := by decide +kernel
theorem cl_2_252 : (am_ccal.getD 2 []).lookup 252 = some (1, 116, 1, 5) := by decide +kernel
theorem cl_2_255 : (am_ccal.getD 2 []).lookup 255 = some (1, 143, 3, 2) := by decide +kernel
theorem cl_2_261 : (am_ccal.getD 2 []).lookup 261 = some (1, 144, 2, 2) := by decide +kernel
theorem cl_2_264 : (am_ccal.getD 2 []).lookup 264 = some (1, 145, 2, 2) := by decide +kernel
theorem cl_3_22 : (am_ccal.getD 3 []).lookup 22 = some (1, 101, 0, 3) := by decide +kernel
theorem cl_3_37 : (am_ccal.getD 3 []).lookup 37 = some (1, 69, 1, 3) := by decide +kernel
theorem cl_3_42 : (am_ccal.getD 3 []).lookup 42 = some (1, 98, 0, 3) := by decide +kernel
theorem cl_3_46 : (am_ccal.getD 3 []).lookup 46 = some (1, 97, 1, 3) := by decide +kernel
theorem cl_3_50 : (am_ccal.getD 3 []).lookup 50 = some (1, 120, 2, 3) := by decide +kernel
theorem cl_3_57 : (am_ccal.getD 3 []).lookup 57 = some (1, 132, 1, 3) := by decide +kernel
theorem cl_3_61 : (am_ccal.getD 3 []).lookup 61 = some (1, 133, 2, 3) := by decide +kernel
theorem cl_3_68 : (am_ccal.getD 3 []).lookup 68 = some (0, 134, 4, 3) := by decide +kernel
theorem cl_3_72 : (am_ccal.getD 3 []).lookup 72 = some (0, 135, 3, 3) := by decide +kernel
theorem cl_4_33 : (am_ccal.getD 4 []).lookup 33 = some (1, 38, 2, 6) := by decide +kernel
theorem cl_4_49 : (am_ccal.getD 4 []).lookup 49 = some (1, 39, 2, 4) := by decide +kernel
theorem cl_4_53 : (am_ccal.getD 4 []).lookup 53 = some (1, 40, 0, 6) := by decide +kernel
theorem cl_4_59 : (am_ccal.getD 4 []).lookup 59 = some (1, 50, 2, 4) := by decide +kernel
theorem cl_4_63 : (am_ccal.getD 4 []).lookup 63 = some (1, 74, 0, 6) := by decide +kernel
theorem cl_4_67 : (am_ccal.getD 4 []).lookup 67 = some (1, 75, 0, 4) := by decide +kernel
theorem cl_4_81 : (am_ccal.getD 4 []).lookup 81 = some (6, 60, 1, 11) := by decide +kernel
theorem cl_4_85 : (am_ccal.getD 4 []).lookup 85 = some (9, 3, 0, 0) := by decide +kernel
theorem cl_4_90 : (am_ccal.getD 4 []).lookup 90 = some (9, 5, 1, 0) := by decide +kernel
theorem cl_4_94 : (am_ccal.getD 4 []).lookup 94 = some (1, 51, 2, 4) := by decide +kernel
theorem cl_4_97 : (am_ccal.getD 4 []).lookup 97 = some (1, 61, 1, 4) := by decide +kernel
theorem cl_4_101 : (am_ccal.getD 4 []).lookup 101 = some (1, 62, 1, 4) := by decide +kernel
theorem cl_4_104 : (am_ccal.getD 4 []).lookup 104 = some (1, 63, 1, 4) := by decide +kernel
theorem cl_4_107 : (am_ccal.getD 4 []).lookup 107 = some (1, 65, 1, 4) := by decide +kernel
theorem cl_4_110 : (am_ccal.getD 4 []).lookup 110 = some (1, 67, 1, 4) := by decide +kernel
theorem cl_4_113 : (am_ccal.getD 4 []).lookup 113 = some (1, 70, 0, 4) := by decide +kernel
theorem cl_4_116 : (am_ccal.getD 4 []).lookup 116 = some (1, 71, 1, 4) := by decide +kernel
theorem cl_4_119 : (am_ccal.getD 4 []).lookup 119 = some (1, 72, 0, 4) := by decide +kernel
theorem cl_4_122 : (am_ccal.getD 4 []).lookup 122 = some (1, 73, 2, 4) := by decide +kernel
theorem cl_4_125 : (am_ccal.getD 4 []).lookup 125 = some (1, 52, 2, 4) := by decide +kernel
theorem cl_4_128 : (am_ccal.getD 4 []).lookup 128 = some (1, 53, 1, 4) := by decide +kernel
theorem cl_4_132 : (am_ccal.getD 4 []).lookup 132 = some (1, 54, 1, 4) := by decide +kernel
theorem cl_4_135 : (am_ccal.getD 4 []).lookup 135 = some (1, 56, 2, 4) := by decide +kernel
theorem cl_4_141 : (am_ccal.getD 4 []).lookup 141 = some (1, 57, 0, 4) := by decide +kernel
theorem cl_4_152 : (am_ccal.getD 4 []).lookup 152 = some (1, 59, 1, 4) := by decide +kernel
theorem cl_4_159 : (am_ccal.getD 4 []).lookup 159 = some (1, 55, 1, 4) := by decide +kernel
theorem cl_4_174 : (am_ccal.getD 4 []).lookup 174 = some (1, 58, 2, 5) := by decide +kernel
theorem cl_4_178 : (am_ccal.getD 4 []).lookup 178 = some (1, 64, 0, 3) := by decide +kernel
theorem cl_4_186 : (am_ccal.getD 4 []).lookup 186 = some (1, 66, 1, 3) := by decide +kernel
theorem cl_4_190 : (am_ccal.getD 4 []).lookup 190 = some (1, 68, 1, 3) := by decide +kernel
theorem cl_5_59 : (am_ccal.getD 5 []).lookup 59 = some (1, 101, 0, 3) := by decide +kernel
theorem cl_5_72 : (am_ccal.getD 5 []).lookup 72 = some (0, 126, 2, 0) := by decide +kernel
theorem cl_5_77 : (am_ccal.getD 5 []).lookup 77 = some (1, 125, 2, 5) := by decide +kernel
theorem cl_5_81 : (am_ccal.getD 5 []).lookup 81 = some (1, 116, 1, 5) := by decide +kernel
theorem cl_5_93 : (am_ccal.getD 5 []).lookup 93 = some (1, 87, 1, 5) := by decide +kernel
theorem cl_5_97 : (am_ccal.getD 5 []).lookup 97 = some (1, 194, 1, 5) := by decide +kernel
theorem cl_5_100 : (am_ccal.getD 5 []).lookup 100 = some (1, 195, 1, 5) := by decide +kernel
theorem cl_5_103 : (am_ccal.getD 5 []).lookup 103 = some (1, 88, 2, 0) := by decide +kernel
theorem cl_5_109 : (am_ccal.getD 5 []).lookup 109 = some (1, 89, 2, 0) := by decide +kernel
theorem cl_5_113 : (am_ccal.getD 5 []).lookup 113 = some (1, 64, 0, 3) := by decide +kernel
theorem cl_6_35 : (am_ccal.getD 6 []).lookup 35 = some (9, 3, 0, 0) := by decide +kernel
theorem cl_6_41 : (am_ccal.getD 6 []).lookup 41 = some (9, 5, 1, 0) := by decide +kernel
theorem cl_6_59 : (am_ccal.getD 6 []).lookup 59 = some (0, 41, 1, 6) := by decide +kernel
theorem cl_6_66 : (am_ccal.getD 6 []).lookup 66 = some (0, 42, 1, 6) := by decide +kernel
theorem cl_6_70 : (am_ccal.getD 6 []).lookup 70 = some (1, 43, 2, 6) := by decide +kernel
theorem cl_6_73 : (am_ccal.getD 6 []).lookup 73 = some (0, 44, 1, 6) := by decide +kernel
theorem cl_6_76 : (am_ccal.getD 6 []).lookup 76 = some (1, 45, 2, 6) := by decide +kernel
theorem cl_6_79 : (am_ccal.getD 6 []).lookup 79 = some (1, 47, 2, 6) := by decide +kernel
theorem cl_6_87 : (am_ccal.getD 6 []).lookup 87 = some (1, 49, 1, 6) := by decide +kernel
theorem cl_6_91 : (am_ccal.getD 6 []).lookup 91 = some (1, 46, 4, 3) := by decide +kernel
theorem cl_6_95 : (am_ccal.getD 6 []).lookup 95 = some (0, 48, 1, 6) := by decide +kernel
theorem cl_6_98 : (am_ccal.getD 6 []).lookup 98 = some (1, 40, 0, 6) := by decide +kernel
theorem cl_6_101 : (am_ccal.getD 6 []).lookup 101 = some (1, 38, 2, 6) := by decide +kernel
theorem cl_6_105 : (am_ccal.getD 6 []).lookup 105 = some (1, 74, 0, 6) := by decide +kernel
theorem cl_6_115 : (am_ccal.getD 6 []).lookup 115 = some (1, 104, 3, 6) := by decide +kernel
theorem cl_6_119 : (am_ccal.getD 6 []).lookup 119 = some (1, 105, 1, 6) := by decide +kernel
theorem cl_6_127 : (am_ccal.getD 6 []).lookup 127 = some (1, 106, 5, 7) := by decide +kernel
theorem cl_6_144 : (am_ccal.getD 6 []).lookup 144 = some (1, 66, 1, 3) := by decide +kernel
theorem cl_7_34 : (am_ccal.getD 7 []).lookup 34 = some (1, 106, 5, 7) := by decide +kernel
theorem cl_7_38 : (am_ccal.getD 7 []).lookup 38 = some (1, 66, 1, 3) := by decide +kernel
theorem cl_7_42 : (am_ccal.getD 7 []).lookup 42 = some (1, 118, 5, 7) := by decide +kernel
theorem cl_8_63 : (am_ccal.getD 8 []).lookup 63 = some (1, 239, 1, 8) := by decide +kernel
theorem cl_8_67 : (am_ccal.getD 8 []).lookup 67 = some (1, 107, 1, 9) := by decide +kernel
theorem cl_8_71 : (am_ccal.getD 8 []).lookup 71 = some (1, 240, 1, 8) := by decide +kernel
theorem cl_8_75 : (am_ccal.getD 8 []).lookup 75 = some (1, 108, 3, 2) := by decide +kernel
theorem cl_8_84 : (am_ccal.getD 8 []).lookup 84 = some (1, 109, 5, 2) := by decide +kernel
theorem cl_8_88 : (am_ccal.getD 8 []).lookup 88 = some (1, 245, 1, 8) := by decide +kernel
theorem cl_8_102 : (am_ccal.getD 8 []).lookup 102 = some (1, 112, 1, 2) := by decide +kernel
theorem cl_8_106 : (am_ccal.getD 8 []).lookup 106 = some (1, 241, 2, 8) := by decide +kernel
theorem cl_8_116 : (am_ccal.getD 8 []).lookup 116 = some (1, 116, 1, 5) := by decide +kernel
theorem cl_8_119 : (am_ccal.getD 8 []).lookup 119 = some (1, 113, 1, 2) := by decide +kernel
theorem cl_8_123 : (am_ccal.getD 8 []).lookup 123 = some (1, 242, 2, 8) := by decide +kernel
theorem cl_8_127 : (am_ccal.getD 8 []).lookup 127 = some (1, 244, 2, 8) := by decide +kernel
theorem cl_8_130 : (am_ccal.getD 8 []).lookup 130 = some (1, 106, 5, 7) := by decide +kernel
theorem cl_8_152 : (am_ccal.getD 8 []).lookup 152 = some (1, 243, 3, 5) := by decide +kernel
theorem cl_8_156 : (am_ccal.getD 8 []).lookup 156 = some (1, 68, 1, 3) := by decide +kernel
theorem cl_8_160 : (am_ccal.getD 8 []).lookup 160 = some (1, 110, 2, 2) := by decide +kernel
theorem cl_8_164 : (am_ccal.getD 8 []).lookup 164 = some (7, 122, 2, 2) := by decide +kernel
theorem cl_8_172 : (am_ccal.getD 8 []).lookup 172 = some (1, 66, 1, 3) := by decide +kernel
theorem cl_8_177 : (am_ccal.getD 8 []).lookup 177 = some (1, 183, 1, 10) := by decide +kernel
theorem cl_8_183 : (am_ccal.getD 8 []).lookup 183 = some (1, 182, 1, 10) := by decide +kernel
theorem cl_8_189 : (am_ccal.getD 8 []).lookup 189 = some (1, 177, 1, 10) := by decide +kernel
theorem cl_8_194 : (am_ccal.getD 8 []).lookup 194 = some (1, 187, 1, 10) := by decide +kernel
theorem cl_9_44 : (am_ccal.getD 9 []).lookup 44 = some (1, 91, 1, 0) := by decide +kernel
theorem cl_10_37 : (am_ccal.getD 10 []).lookup 37 = some (1, 162, 1, 10) := by decide +kernel
theorem cl_10_41 : (am_ccal.getD 10 []).lookup 41 = some (1, 178, 0, 10) := by decide +kernel
theorem cl_10_44 : (am_ccal.getD 10 []).lookup 44 = some (1, 181, 1, 10) := by decide +kernel
theorem cl_10_48 : (am_ccal.getD 10 []).lookup 48 = some (1, 183, 1, 10) := by decide +kernel
theorem cl_10_61 : (am_ccal.getD 10 []).lookup 61 = some (1, 127, 1, 3) := by decide +kernel
theorem cl_10_64 : (am_ccal.getD 10 []).lookup 64 = some (1, 177, 1, 10) := by decide +kernel
theorem cl_10_71 : (am_ccal.getD 10 []).lookup 71 = some (1, 175, 2, 10) := by decide +kernel
theorem cl_10_80 : (am_ccal.getD 10 []).lookup 80 = some (1, 176, 2, 10) := by decide +kernel
theorem cl_10_84 : (am_ccal.getD 10 []).lookup 84 = some (1, 116, 1, 5) := by decide +kernel
theorem cl_10_88 : (am_ccal.getD 10 []).lookup 88 = some (1, 182, 1, 10) := by decide +kernel
theorem cl_10_91 : (am_ccal.getD 10 []).lookup 91 = some (1, 184, 3, 10) := by decide +kernel
theorem cl_10_98 : (am_ccal.getD 10 []).lookup 98 = some (1, 125, 2, 5) := by decide +kernel
theorem cl_10_105 : (am_ccal.getD 10 []).lookup 105 = some (1, 179, 1, 10) := by decide +kernel
theorem cl_10_108 : (am_ccal.getD 10 []).lookup 108 = some (6, 60, 1, 11) := by decide +kernel
theorem cl_10_112 : (am_ccal.getD 10 []).lookup 112 = some (9, 3, 0, 0) := by decide +kernel
theorem cl_10_118 : (am_ccal.getD 10 []).lookup 118 = some (9, 5, 1, 0) := by decide +kernel
theorem cl_10_122 : (am_ccal.getD 10 []).lookup 122 = some (1, 180, 1, 10) := by decide +kernel
theorem cl_10_130 : (am_ccal.getD 10 []).lookup 130 = some (1, 185, 2, 10) := by decide +kernel
theorem cl_10_133 : (am_ccal.getD 10 []).lookup 133 = some (1, 186, 2, 10) := by decide +kernel
theorem cl_10_138 : (am_ccal.getD 10 []).lookup 138 = some (1, 187, 1, 10) := by decide +kernel
theorem cl_11_124 : (am_ccal.getD 11 []).lookup 124 = some (1, 152, 0, 11) := by decide +kernel
theorem cl_11_138 : (am_ccal.getD 11 []).lookup 138 = some (1, 153, 1, 11) := by decide +kernel
theorem cl_11_155 : (am_ccal.getD 11 []).lookup 155 = some (1, 22, 0, 10) := by decide +kernel
theorem cl_11_158 : (am_ccal.getD 11 []).lookup 158 = some (1, 162, 1, 10) := by decide +kernel
theorem cl_11_161 : (am_ccal.getD 11 []).lookup 161 = some (1, 165, 0, 11) := by decide +kernel
theorem cl_11_165 : (am_ccal.getD 11 []).lookup 165 = some (1, 36, 2, 11) := by decide +kernel
theorem cl_11_169 : (am_ccal.getD 11 []).lookup 169 = some (1, 166, 1, 11) := by decide +kernel
theorem cl_11_179 : (am_ccal.getD 11 []).lookup 179 = some (1, 84, 1, 11) := by decide +kernel
theorem cl_11_183 : (am_ccal.getD 11 []).lookup 183 = some (0, 169, 2, 11) := by decide +kernel
theorem cl_11_187 : (am_ccal.getD 11 []).lookup 187 = some (0, 167, 1, 11) := by decide +kernel
theorem cl_11_191 : (am_ccal.getD 11 []).lookup 191 = some (1, 174, 2, 10) := by decide +kernel
theorem cl_11_195 : (am_ccal.getD 11 []).lookup 195 = some (0, 168, 1, 11) := by decide +kernel
theorem cl_11_198 : (am_ccal.getD 11 []).lookup 198 = some (1, 190, 1, 5) := by decide +kernel
theorem cl_11_205 : (am_ccal.getD 11 []).lookup 205 = some (1, 191, 1, 5) := by decide +kernel
theorem cl_11_208 : (am_ccal.getD 11 []).lookup 208 = some (1, 192, 1, 5) := by decide +kernel
theorem cl_11_211 : (am_ccal.getD 11 []).lookup 211 = some (1, 193, 1, 5) := by decide +kernel
theorem cl_11_216 : (am_ccal.getD 11 []).lookup 216 = some (1, 37, 2, 4) := by decide +kernel
theorem cl_11_220 : (am_ccal.getD 11 []).lookup 220 = some (1, 76, 1, 6) := by decide +kernel
theorem cl_11_228 : (am_ccal.getD 11 []).lookup 228 = some (1, 77, 5, 11) := by decide +kernel
theorem cl_11_232 : (am_ccal.getD 11 []).lookup 232 = some (1, 83, 0, 4) := by decide +kernel
theorem cl_11_235 : (am_ccal.getD 11 []).lookup 235 = some (1, 147, 2, 11) := by decide +kernel
theorem cl_11_238 : (am_ccal.getD 11 []).lookup 238 = some (1, 148, 0, 11) := by decide +kernel
theorem cl_11_241 : (am_ccal.getD 11 []).lookup 241 = some (1, 85, 3, 11) := by decide +kernel
theorem cl_11_245 : (am_ccal.getD 11 []).lookup 245 = some (1, 92, 1, 11) := by decide +kernel
theorem cl_11_248 : (am_ccal.getD 11 []).lookup 248 = some (1, 102, 4, 11) := by decide +kernel
theorem cl_11_252 : (am_ccal.getD 11 []).lookup 252 = some (1, 208, 1, 11) := by decide +kernel
theorem cl_11_263 : (am_ccal.getD 11 []).lookup 263 = some (1, 93, 1, 11) := by decide +kernel
theorem cl_11_267 : (am_ccal.getD 11 []).lookup 267 = some (1, 211, 1, 9) := by decide +kernel
theorem cl_11_272 : (am_ccal.getD 11 []).lookup 272 = some (1, 214, 3, 11) := by decide +kernel
theorem cl_11_280 : (am_ccal.getD 11 []).lookup 280 = some (1, 215, 1, 11) := by decide +kernel
theorem cl_11_299 : (am_ccal.getD 11 []).lookup 299 = some (1, 95, 1, 6) := by decide +kernel
theorem cl_11_303 : (am_ccal.getD 11 []).lookup 303 = some (1, 96, 2, 6) := by decide +kernel
theorem cl_11_306 : (am_ccal.getD 11 []).lookup 306 = some (1, 88, 2, 0) := by decide +kernel
theorem cl_11_313 : (am_ccal.getD 11 []).lookup 313 = some (1, 141, 3, 0) := by decide +kernel
theorem cl_11_318 : (am_ccal.getD 11 []).lookup 318 = some (1, 86, 2, 5) := by decide +kernel
theorem cl_11_322 : (am_ccal.getD 11 []).lookup 322 = some (1, 90, 2, 9) := by decide +kernel
theorem cl_11_329 : (am_ccal.getD 11 []).lookup 329 = some (1, 91, 1, 0) := by decide +kernel
theorem cl_11_333 : (am_ccal.getD 11 []).lookup 333 = some (1, 103, 3, 6) := by decide +kernel
theorem cl_11_337 : (am_ccal.getD 11 []).lookup 337 = some (1, 107, 1, 9) := by decide +kernel
theorem cl_11_343 : (am_ccal.getD 11 []).lookup 343 = some (1, 108, 3, 2) := by decide +kernel
theorem cl_11_348 : (am_ccal.getD 11 []).lookup 348 = some (1, 109, 5, 2) := by decide +kernel
theorem cl_11_353 : (am_ccal.getD 11 []).lookup 353 = some (1, 146, 1, 7) := by decide +kernel
theorem cl_11_357 : (am_ccal.getD 11 []).lookup 357 = some (1, 222, 3, 11) := by decide +kernel
theorem cl_11_368 : (am_ccal.getD 11 []).lookup 368 = some (1, 94, 3, 11) := by decide +kernel
theorem cl_11_372 : (am_ccal.getD 11 []).lookup 372 = some (1, 89, 2, 0) := by decide +kernel
theorem cl_11_376 : (am_ccal.getD 11 []).lookup 376 = some (1, 101, 0, 3) := by decide +kernel
theorem cl_11_377 : (am_ccal.getD 11 []).lookup 377 = some (1, 233, 2, 0) := by decide +kernel
theorem cl_11_384 : (am_ccal.getD 11 []).lookup 384 = some (1, 66, 1, 3) := by decide +kernel
theorem cl_11_387 : (am_ccal.getD 11 []).lookup 387 = some (1, 97, 1, 3) := by decide +kernel
theorem cl_11_391 : (am_ccal.getD 11 []).lookup 391 = some (1, 99, 3, 0) := by decide +kernel
theorem cl_11_395 : (am_ccal.getD 11 []).lookup 395 = some (1, 238, 4, 8) := by decide +kernel
theorem cl_11_398 : (am_ccal.getD 11 []).lookup 398 = some (1, 246, 1, 8) := by decide +kernel
theorem cl_11_414 : (am_ccal.getD 11 []).lookup 414 = some (1, 21, 0, 11) := by decide +kernel
theorem cl_11_420 : (am_ccal.getD 11 []).lookup 420 = some (1, 25, 0, 1) := by decide +kernel
theorem cl_11_423 : (am_ccal.getD 11 []).lookup 423 = some (1, 34, 1, 1) := by decide +kernel
theorem cl_11_427 : (am_ccal.getD 11 []).lookup 427 = some (1, 35, 1, 1) := by decide +kernel
theorem cl_11_430 : (am_ccal.getD 11 []).lookup 430 = some (1, 27, 0, 1) := by decide +kernel
theorem cl_11_433 : (am_ccal.getD 11 []).lookup 433 = some (1, 82, 1, 1) := by decide +kernel
theorem cl_11_436 : (am_ccal.getD 11 []).lookup 436 = some (1, 149, 0, 6) := by decide +kernel
theorem cl_11_442 : (am_ccal.getD 11 []).lookup 442 = some (1, 259, 0, 11) := by decide +kernel
theorem cl_11_445 : (am_ccal.getD 11 []).lookup 445 = some (1, 260, 0, 11) := by decide +kernel
theorem cl_11_449 : (am_ccal.getD 11 []).lookup 449 = some (1, 23, 0, 5) := by decide +kernel
theorem cl_11_450 : (am_ccal.getD 11 []).lookup 450 = some (1, 24, 0, 1) := by decide +kernel
theorem cl_11_453 : (am_ccal.getD 11 []).lookup 453 = some (1, 78, 2, 1) := by decide +kernel
theorem cl_11_457 : (am_ccal.getD 11 []).lookup 457 = some (1, 79, 6, 1) := by decide +kernel
theorem cl_11_461 : (am_ccal.getD 11 []).lookup 461 = some (1, 177, 1, 10) := by decide +kernel
theorem cl_12_419 : (am_ccal.getD 12 []).lookup 419 = some (1, 264, 4, 12) := by decide +kernel
theorem cl_12_428 : (am_ccal.getD 12 []).lookup 428 = some (0, 268, 3, 12) := by decide +kernel
theorem cl_12_432 : (am_ccal.getD 12 []).lookup 432 = some (1, 322, 1, 12) := by decide +kernel
theorem cl_12_438 : (am_ccal.getD 12 []).lookup 438 = some (1, 321, 0, 12) := by decide +kernel
theorem cl_12_441 : (am_ccal.getD 12 []).lookup 441 = some (1, 323, 1, 12) := by decide +kernel
theorem cl_12_455 : (am_ccal.getD 12 []).lookup 455 = some (1, 292, 3, 12) := by decide +kernel
theorem cl_12_463 : (am_ccal.getD 12 []).lookup 463 = some (1, 304, 2, 12) := by decide +kernel
theorem cl_12_467 : (am_ccal.getD 12 []).lookup 467 = some (1, 303, 2, 12) := by decide +kernel
theorem cl_12_470 : (am_ccal.getD 12 []).lookup 470 = some (1, 373, 1, 12) := by decide +kernel
theorem cl_12_474 : (am_ccal.getD 12 []).lookup 474 = some (1, 396, 2, 12) := by decide +kernel
theorem cl_12_480 : (am_ccal.getD 12 []).lookup 480 = some (1, 397, 2, 12) := by decide +kernel
theorem cl_12_486 : (am_ccal.getD 12 []).lookup 486 = some (1, 401, 3, 12) := by decide +kernel
theorem cl_12_490 : (am_ccal.getD 12 []).lookup 490 = some (1, 402, 2, 12) := by decide +kernel
theorem cl_12_493 : (am_ccal.getD 12 []).lookup 493 = some (1, 386, 0, 12) := by decide +kernel
theorem cl_12_497 : (am_ccal.getD 12 []).lookup 497 = some (0, 399, 3, 12) := by decide +kernel
theorem cl_12_501 : (am_ccal.getD 12 []).lookup 501 = some (1, 400, 2, 12) := by decide +kernel
theorem cl_12_573 : (am_ccal.getD 12 []).lookup 573 = some (0, 281, 1, 12) := by decide +kernel
theorem cl_12_594 : (am_ccal.getD 12 []).lookup 594 = some (1, 280, 2, 12) := by decide +kernel
theorem cl_12_607 : (am_ccal.getD 12 []).lookup 607 = some (0, 278, 1, 12) := by decide +kernel
theorem cl_12_611 : (am_ccal.getD 12 []).lookup 611 = some (1, 279, 0, 12) := by decide +kernel
theorem cl_12_614 : (am_ccal.getD 12 []).lookup 614 = some (1, 286, 1, 12) := by decide +kernel
theorem cl_12_620 : (am_ccal.getD 12 []).lookup 620 = some (1, 277, 0, 12) := by decide +kernel
theorem cl_12_635 : (am_ccal.getD 12 []).lookup 635 = some (0, 284, 1, 12) := by decide +kernel
theorem cl_12_639 : (am_ccal.getD 12 []).lookup 639 = some (1, 285, 0, 12) := by decide +kernel
theorem cl_12_642 : (am_ccal.getD 12 []).lookup 642 = some (1, 287, 2, 12) := by decide +kernel
theorem cl_12_645 : (am_ccal.getD 12 []).lookup 645 = some (1, 288, 3, 12) := by decide +kernel
theorem cl_12_649 : (am_ccal.getD 12 []).lookup 649 = some (1, 282, 0, 12) := by decide +kernel
theorem cl_12_652 : (am_ccal.getD 12 []).lookup 652 = some (1, 275, 4, 12) := by decide +kernel
theorem cl_12_656 : (am_ccal.getD 12 []).lookup 656 = some (0, 290, 1, 12) := by decide +kernel
theorem cl_12_659 : (am_ccal.getD 12 []).lookup 659 = some (1, 291, 0, 12) := by decide +kernel
theorem cl_12_662 : (am_ccal.getD 12 []).lookup 662 = some (0, 294, 1, 12) := by decide +kernel
theorem cl_12_668 : (am_ccal.getD 12 []).lookup 668 = some (1, 298, 1, 12) := by decide +kernel
theorem cl_12_674 : (am_ccal.getD 12 []).lookup 674 = some (1, 302, 2, 12) := by decide +kernel
theorem cl_12_677 : (am_ccal.getD 12 []).lookup 677 = some (1, 283, 3, 12) := by decide +kernel
theorem cl_12_680 : (am_ccal.getD 12 []).lookup 680 = some (1, 289, 3, 12) := by decide +kernel
theorem cl_12_683 : (am_ccal.getD 12 []).lookup 683 = some (1, 293, 3, 12) := by decide +kernel
theorem cl_12_686 : (am_ccal.getD 12 []).lookup 686 = some (1, 295, 2, 12) := by decide +kernel
theorem cl_12_689 : (am_ccal.getD 12 []).lookup 689 = some (1, 296, 3, 12) := by decide +kernel
theorem cl_12_692 : (am_ccal.getD 12 []).lookup 692 = some (1, 297, 1, 12) := by decide +kernel
theorem cl_12_695 : (am_ccal.getD 12 []).lookup 695 = some (1, 299, 2, 12) := by decide +kernel
theorem cl_12_698 : (am_ccal.getD 12 []).lookup 698 = some (1, 300, 2, 12) := by decide +kernel
theorem cl_12_701 : (am_ccal.getD 12 []).lookup 701 = some (1, 301, 2, 12) := by decide +kernel
theorem cl_12_704 : (am_ccal.getD 12 []).lookup 704 = some (1, 305, 2, 12) := by decide +kernel
theorem cl_12_707 : (am_ccal.getD 12 []).lookup 707 = some (1, 274, 0, 12) := by decide +kernel
theorem cl_12_713 : (am_ccal.getD 12 []).lookup 713 = some (1, 276, 0, 12) := by decide +kernel
theorem cl_12_716 : (am_ccal.getD 12 []).lookup 716 = some (1, 306, 0, 12) := by decide +kernel
theorem cl_12_719 : (am_ccal.getD 12 []).lookup 719 = some (1, 360, 0, 12) := by decide +kernel
theorem cl_12_726 : (am_ccal.getD 12 []).lookup 726 = some (1, 359, 1, 12) := by decide +kernel
theorem cl_12_731 : (am_ccal.getD 12 []).lookup 731 = some (1, 273, 0, 12) := by decide +kernel
theorem cl_12_734 : (am_ccal.getD 12 []).lookup 734 = some (1, 271, 0, 12) := by decide +kernel
theorem cl_12_737 : (am_ccal.getD 12 []).lookup 737 = some (1, 272, 1, 12) := by decide +kernel
theorem cl_12_740 : (am_ccal.getD 12 []).lookup 740 = some (1, 307, 6, 12) := by decide +kernel
theorem cl_12_744 : (am_ccal.getD 12 []).lookup 744 = some (1, 312, 1, 12) := by decide +kernel
theorem cl_12_750 : (am_ccal.getD 12 []).lookup 750 = some (1, 320, 1, 12) := by decide +kernel
theorem cl_12_753 : (am_ccal.getD 12 []).lookup 753 = some (1, 317, 2, 12) := by decide +kernel
theorem cl_12_756 : (am_ccal.getD 12 []).lookup 756 = some (1, 324, 1, 12) := by decide +kernel
theorem cl_12_761 : (am_ccal.getD 12 []).lookup 761 = some (1, 319, 1, 12) := by decide +kernel
theorem cl_12_764 : (am_ccal.getD 12 []).lookup 764 = some (1, 325, 1, 12) := by decide +kernel
theorem cl_12_767 : (am_ccal.getD 12 []).lookup 767 = some (0, 326, 1, 12) := by decide +kernel
theorem cl_12_770 : (am_ccal.getD 12 []).lookup 770 = some (1, 318, 1, 12) := by decide +kernel
theorem cl_12_773 : (am_ccal.getD 12 []).lookup 773 = some (1, 327, 1, 12) := by decide +kernel
theorem cl_12_776 : (am_ccal.getD 12 []).lookup 776 = some (1, 316, 1, 12) := by decide +kernel
theorem cl_12_782 : (am_ccal.getD 12 []).lookup 782 = some (1, 330, 2, 12) := by decide +kernel
theorem cl_12_787 : (am_ccal.getD 12 []).lookup 787 = some (1, 329, 2, 12) := by decide +kernel
theorem cl_12_790 : (am_ccal.getD 12 []).lookup 790 = some (1, 331, 2, 12) := by decide +kernel
theorem cl_12_797 : (am_ccal.getD 12 []).lookup 797 = some (1, 337, 1, 12) := by decide +kernel
theorem cl_12_800 : (am_ccal.getD 12 []).lookup 800 = some (0, 333, 1, 12) := by decide +kernel
theorem cl_12_803 : (am_ccal.getD 12 []).lookup 803 = some (1, 335, 0, 12) := by decide +kernel
theorem cl_12_809 : (am_ccal.getD 12 []).lookup 809 = some (1, 336, 1, 12) := by decide +kernel
theorem cl_12_812 : (am_ccal.getD 12 []).lookup 812 = some (0, 339, 3, 12) := by decide +kernel
theorem cl_12_816 : (am_ccal.getD 12 []).lookup 816 = some (1, 340, 3, 12) := by decide +kernel
theorem cl_12_819 : (am_ccal.getD 12 []).lookup 819 = some (1, 334, 1, 12) := by decide +kernel
theorem cl_12_822 : (am_ccal.getD 12 []).lookup 822 = some (1, 338, 1, 12) := by decide +kernel
theorem cl_12_825 : (am_ccal.getD 12 []).lookup 825 = some (1, 345, 2, 12) := by decide +kernel
theorem cl_12_829 : (am_ccal.getD 12 []).lookup 829 = some (1, 344, 1, 12) := by decide +kernel
theorem cl_12_832 : (am_ccal.getD 12 []).lookup 832 = some (1, 343, 3, 12) := by decide +kernel
theorem cl_12_836 : (am_ccal.getD 12 []).lookup 836 = some (1, 346, 3, 12) := by decide +kernel
theorem cl_12_840 : (am_ccal.getD 12 []).lookup 840 = some (1, 349, 1, 12) := by decide +kernel
theorem cl_12_843 : (am_ccal.getD 12 []).lookup 843 = some (1, 348, 1, 12) := by decide +kernel
theorem cl_12_848 : (am_ccal.getD 12 []).lookup 848 = some (1, 352, 2, 12) := by decide +kernel
theorem cl_12_851 : (am_ccal.getD 12 []).lookup 851 = some (1, 354, 3, 12) := by decide +kernel
theorem cl_12_876 : (am_ccal.getD 12 []).lookup 876 = some (1, 375, 2, 12) := by decide +kernel
theorem cl_12_880 : (am_ccal.getD 12 []).lookup 880 = some (1, 388, 2, 12) := by decide +kernel
theorem cl_12_883 : (am_ccal.getD 12 []).lookup 883 = some (1, 390, 1, 12) := by decide +kernel
theorem cl_12_892 : (am_ccal.getD 12 []).lookup 892 = some (1, 385, 1, 12) := by decide +kernel
theorem cl_12_895 : (am_ccal.getD 12 []).lookup 895 = some (1, 376, 2, 12) := by decide +kernel
theorem cl_12_899 : (am_ccal.getD 12 []).lookup 899 = some (1, 387, 2, 12) := by decide +kernel
theorem cl_12_902 : (am_ccal.getD 12 []).lookup 902 = some (1, 389, 1, 12) := by decide +kernel
theorem cl_12_908 : (am_ccal.getD 12 []).lookup 908 = some (1, 391, 1, 12) := by decide +kernel
theorem cl_12_914 : (am_ccal.getD 12 []).lookup 914 = some (1, 372, 3, 12) := by decide +kernel
theorem cl_12_917 : (am_ccal.getD 12 []).lookup 917 = some (1, 395, 2, 12) := by decide +kernel
theorem cl_12_920 : (am_ccal.getD 12 []).lookup 920 = some (1, 398, 2, 12) := by decide +kernel
theorem cl_12_923 : (am_ccal.getD 12 []).lookup 923 = some (0, 383, 1, 12) := by decide +kernel
theorem cl_12_926 : (am_ccal.getD 12 []).lookup 926 = some (1, 384, 1, 12) := by decide +kernel
theorem cl_12_929 : (am_ccal.getD 12 []).lookup 929 = some (1, 392, 1, 12) := by decide +kernel
theorem cl_12_932 : (am_ccal.getD 12 []).lookup 932 = some (1, 381, 1, 12) := by decide +kernel
theorem cl_12_935 : (am_ccal.getD 12 []).lookup 935 = some (1, 393, 1, 12) := by decide +kernel
theorem cl_12_938 : (am_ccal.getD 12 []).lookup 938 = some (1, 394, 3, 12) := by decide +kernel
theorem cl_12_944 : (am_ccal.getD 12 []).lookup 944 = some (1, 404, 1, 12) := by decide +kernel
theorem cl_12_947 : (am_ccal.getD 12 []).lookup 947 = some (1, 380, 1, 12) := by decide +kernel
theorem cl_12_950 : (am_ccal.getD 12 []).lookup 950 = some (1, 382, 0, 12) := by decide +kernel
theorem cl_12_953 : (am_ccal.getD 12 []).lookup 953 = some (1, 403, 3, 12) := by decide +kernel
theorem cl_12_956 : (am_ccal.getD 12 []).lookup 956 = some (1, 379, 1, 12) := by decide +kernel
theorem cl_12_959 : (am_ccal.getD 12 []).lookup 959 = some (1, 368, 1, 12) := by decide +kernel
theorem cl_12_962 : (am_ccal.getD 12 []).lookup 962 = some (1, 371, 3, 12) := by decide +kernel
theorem cl_12_968 : (am_ccal.getD 12 []).lookup 968 = some (1, 370, 2, 12) := by decide +kernel
theorem cl_12_974 : (am_ccal.getD 12 []).lookup 974 = some (1, 369, 3, 12) := by decide +kernel
theorem cl_12_978 : (am_ccal.getD 12 []).lookup 978 = some (1, 374, 3, 12) := by decide +kernel
theorem cl_12_984 : (am_ccal.getD 12 []).lookup 984 = some (1, 378, 1, 12) := by decide +kernel
theorem cl_12_987 : (am_ccal.getD 12 []).lookup 987 = some (1, 405, 5, 12) := by decide +kernel
theorem cl_12_991 : (am_ccal.getD 12 []).lookup 991 = some (1, 366, 1, 12) := by decide +kernel
theorem cl_12_994 : (am_ccal.getD 12 []).lookup 994 = some (1, 367, 5, 12) := by decide +kernel
theorem cl_12_1000 : (am_ccal.getD 12 []).lookup 1000 = some (1, 377, 0, 12) := by decide +kernel
theorem cl_12_1003 : (am_ccal.getD 12 []).lookup 1003 = some (1, 406, 1, 12) := by decide +kernel
theorem cl_12_1006 : (am_ccal.getD 12 []).lookup 1006 = some (1, 407, 0, 12) := by decide +kernel
theorem cl_12_1009 : (am_ccal.getD 12 []).lookup 1009 = some (1, 365, 0, 12) := by decide +kernel
theorem cl_12_1013 : (am_ccal.getD 12 []).lookup 1013 = some (1, 410, 2, 12) := by decide +kernel
theorem cl_12_1017 : (am_ccal.getD 12 []).lookup 1017 = some (1, 409, 2, 12) := by decide +kernel
theorem cl_12_1020 : (am_ccal.getD 12 []).lookup 1020 = some (1, 411, 3, 12) := by decide +kernel
theorem cl_12_1023 : (am_ccal.getD 12 []).lookup 1023 = some (1, 412, 1, 12) := by decide +kernel
theorem cl_12_1026 : (am_ccal.getD 12 []).lookup 1026 = some (1, 364, 0, 12) := by decide +kernel
theorem cl_12_1029 : (am_ccal.getD 12 []).lookup 1029 = some (1, 408, 1, 12) := by decide +kernel
theorem cl_12_1041 : (am_ccal.getD 12 []).lookup 1041 = some (1, 358, 0, 12) := by decide +kernel
theorem cl_12_1044 : (am_ccal.getD 12 []).lookup 1044 = some (1, 361, 1, 12) := by decide +kernel
theorem cl_12_1047 : (am_ccal.getD 12 []).lookup 1047 = some (1, 362, 0, 12) := by decide +kernel
theorem cl_12_1050 : (am_ccal.getD 12 []).lookup 1050 = some (1, 363, 2, 12) := by decide +kernel
theorem cl_12_1053 : (am_ccal.getD 12 []).lookup 1053 = some (1, 414, 1, 12) := by decide +kernel
theorem cl_12_1056 : (am_ccal.getD 12 []).lookup 1056 = some (1, 415, 0, 12) := by decide +kernel
theorem cl_12_1059 : (am_ccal.getD 12 []).lookup 1059 = some (1, 416, 0, 12) := by decide +kernel
theorem cl_12_1062 : (am_ccal.getD 12 []).lookup 1062 = some (1, 357, 3, 12) := by decide +kernel
theorem cl_12_1066 : (am_ccal.getD 12 []).lookup 1066 = some (1, 413, 1, 12) := by decide +kernel
theorem cl_12_1074 : (am_ccal.getD 12 []).lookup 1074 = some (1, 423, 1, 12) := by decide +kernel
theorem cl_12_1083 : (am_ccal.getD 12 []).lookup 1083 = some (1, 422, 2, 12) := by decide +kernel
theorem cl_12_1086 : (am_ccal.getD 12 []).lookup 1086 = some (1, 424, 2, 12) := by decide +kernel
theorem cl_12_1092 : (am_ccal.getD 12 []).lookup 1092 = some (1, 435, 2, 12) := by decide +kernel
theorem cl_12_1095 : (am_ccal.getD 12 []).lookup 1095 = some (1, 434, 2, 12) := by decide +kernel
theorem cl_12_1102 : (am_ccal.getD 12 []).lookup 1102 = some (1, 431, 1, 12) := by decide +kernel
theorem cl_12_1105 : (am_ccal.getD 12 []).lookup 1105 = some (1, 432, 1, 12) := by decide +kernel
theorem cl_12_1108 : (am_ccal.getD 12 []).lookup 1108 = some (1, 433, 1, 12) := by decide +kernel
theorem cl_12_1114 : (am_ccal.getD 12 []).lookup 1114 = some (1, 436, 1, 12) := by decide +kernel
theorem cl_12_1117 : (am_ccal.getD 12 []).lookup 1117 = some (1, 437, 1, 12) := by decide +kernel
theorem cl_12_1120 : (am_ccal.getD 12 []).lookup 1120 = some (1, 438, 1, 12) := by decide +kernel
theorem cl_12_1127 : (am_ccal.getD 12 []).lookup 1127 = some (1, 429, 1, 12) := by decide +kernel
theorem cl_12_1130 : (am_ccal.getD 12 []).lookup 1130 = some (1, 430, 2, 12) := by decide +kernel
theorem cl_12_1137 : (am_ccal.getD 12 []).lookup 1137 = some (1, 309, 1, 12) := by decide +kernel
theorem cl_12_1144 : (am_ccal.getD 12 []).lookup 1144 = some (1, 308, 6, 12) := by decide +kernel
theorem cl_12_1148 : (am_ccal.getD 12 []).lookup 1148 = some (1, 310, 2, 12) := by decide +kernel
theorem cl_12_1151 : (am_ccal.getD 12 []).lookup 1151 = some (1, 311, 1, 12) := by decide +kernel
theorem cl_12_1159 : (am_ccal.getD 12 []).lookup 1159 = some (0, 447, 1, 12) := by decide +kernel
theorem cl_12_1162 : (am_ccal.getD 12 []).lookup 1162 = some (0, 450, 1, 12) := by decide +kernel
theorem cl_12_1165 : (am_ccal.getD 12 []).lookup 1165 = some (1, 446, 1, 12) := by decide +kernel
theorem cl_12_1168 : (am_ccal.getD 12 []).lookup 1168 = some (1, 448, 1, 12) := by decide +kernel
theorem cl_12_1171 : (am_ccal.getD 12 []).lookup 1171 = some (1, 449, 4, 12) := by decide +kernel
theorem cl_12_1175 : (am_ccal.getD 12 []).lookup 1175 = some (1, 445, 0, 12) := by decide +kernel
theorem tR_0_0 : im_isR (am_tyF 0 0) = true := by decide +kernel
theorem tR_0_1 : im_isR (am_tyF 0 1) = true := by decide +kernel
theorem tR_0_2 : im_isR (am_tyF 0 2) = true := by decide +kernel
theorem tR_0_3 : im_isR (am_tyF 0 3) = true := by decide +kernel
theorem tI_0_4 : im_isI (am_tyF 0 4) = true := by decide +kernel
theorem ti_0_4 : am_tyF 0 4 = .int := rfl
theorem tR_1_0 : im_isR (am_tyF 1 0) = true := by decide +kernel
theorem tI_1_1 : im_isI (am_tyF 1 1) = true := by decide +kernel
theorem ti_1_1 : am_tyF 1 1 = .int := rfl
theorem tI_1_2 : im_isI (am_tyF 1 2) = true := by decide +kernel
theorem ti_1_2 : am_tyF 1 2 = .int := rfl
theorem tI_1_3 : im_isI (am_tyF 1 3) = true := by decide +kernel
theorem ti_1_3 : am_tyF 1 3 = .int := rfl
theorem tI_1_4 : im_isI (am_tyF 1 4) = true := by decide +kernel
theorem tz_1_4 : am_tyF 1 4 = .boolean := rfl
theorem tI_1_5 : im_isI (am_tyF 1 5) = true := by decide +kernel
theorem ti_1_5 : am_tyF 1 5 = .int := rfl
theorem tI_1_6 : im_isI (am_tyF 1 6) = true := by decide +kernel
theorem ti_1_6 : am_tyF 1 6 = .int := rfl
theorem tR_2_0 : im_isR (am_tyF 2 0) = true := by decide +kernel
theorem tR_2_1 : im_isR (am_tyF 2 1) = true := by decide +kernel
theorem tR_2_2 : im_isR (am_tyF 2 2) = true := by decide +kernel
theorem tR_2_3 : im_isR (am_tyF 2 3) = true := by decide +kernel
theorem tR_2_4 : im_isR (am_tyF 2 4) = true := by decide +kernel
theorem tR_2_5 : im_isR (am_tyF 2 5) = true := by decide +kernel
theorem tI_2_6 : im_isI (am_tyF 2 6) = true := by decide +kernel
theorem tz_2_6 : am_tyF 2 6 = .boolean := rfl
theorem tR_2_7 : im_isR (am_tyF 2 7) = true := by decide +kernel
theorem tR_2_8 : im_isR (am_tyF 2 8) = true := by decide +kernel
theorem tR_2_9 : im_isR (am_tyF 2 9) = true := by decide +kernel
theorem tL_2_10 : im_isL (am_tyF 2 10) = true := by decide +kernel
theorem tl_2_10 : am_tyF 2 10 = .long := rfl
theorem tL_2_11 : im_isL (am_tyF 2 11) = true := by decide +kernel
theorem tl_2_11 : am_tyF 2 11 = .long := rfl
theorem tI_2_12 : im_isI (am_tyF 2 12) = true := by decide +kernel
theorem tz_2_12 : am_tyF 2 12 = .boolean := rfl
theorem tI_2_13 : im_isI (am_tyF 2 13) = true := by decide +kernel
theorem tz_2_13 : am_tyF 2 13 = .boolean := rfl
theorem tI_3_0 : im_isI (am_tyF 3 0) = true := by decide +kernel
theorem ti_3_0 : am_tyF 3 0 = .int := rfl
theorem tI_3_1 : im_isI (am_tyF 3 1) = true := by decide +kernel
theorem ti_3_1 : am_tyF 3 1 = .int := rfl
theorem tR_3_2 : im_isR (am_tyF 3 2) = true := by decide +kernel
theorem tR_4_0 : im_isR (am_tyF 4 0) = true := by decide +kernel
theorem tR_4_1 : im_isR (am_tyF 4 1) = true := by decide +kernel
theorem tR_4_2 : im_isR (am_tyF 4 2) = true := by decide +kernel
theorem tR_4_3 : im_isR (am_tyF 4 3) = true := by decide +kernel
theorem tI_4_4 : im_isI (am_tyF 4 4) = true := by decide +kernel
theorem ti_4_4 : am_tyF 4 4 = .int := rfl
theorem tI_4_5 : im_isI (am_tyF 4 5) = true := by decide +kernel
theorem ti_4_5 : am_tyF 4 5 = .int := rfl
theorem tR_4_6 : im_isR (am_tyF 4 6) = true := by decide +kernel
theorem tI_4_7 : im_isI (am_tyF 4 7) = true := by decide +kernel
theorem ti_4_7 : am_tyF 4 7 = .int := rfl
theorem tR_5_0 : im_isR (am_tyF 5 0) = true := by decide +kernel
theorem tR_5_1 : im_isR (am_tyF 5 1) = true := by decide +kernel
theorem tR_5_2 : im_isR (am_tyF 5 2) = true := by decide +kernel
theorem tR_5_3 : im_isR (am_tyF 5 3) = true := by decide +kernel
theorem tR_5_4 : im_isR (am_tyF 5 4) = true := by decide +kernel
theorem tR_5_5 : im_isR (am_tyF 5 5) = true := by decide +kernel
theorem tR_5_6 : im_isR (am_tyF 5 6) = true := by decide +kernel
theorem tR_5_7 : im_isR (am_tyF 5 7) = true := by decide +kernel
theorem tI_5_8 : im_isI (am_tyF 5 8) = true := by decide +kernel
theorem ti_5_8 : am_tyF 5 8 = .int := rfl
theorem tR_5_9 : im_isR (am_tyF 5 9) = true := by decide +kernel
theorem tI_5_10 : im_isI (am_tyF 5 10) = true := by decide +kernel
theorem ti_5_10 : am_tyF 5 10 = .int := rfl
theorem tR_6_0 : im_isR (am_tyF 6 0) = true := by decide +kernel
theorem tR_6_1 : im_isR (am_tyF 6 1) = true := by decide +kernel
theorem tI_6_2 : im_isI (am_tyF 6 2) = true := by decide +kernel
theorem ti_6_2 : am_tyF 6 2 = .int := rfl
theorem tI_6_3 : im_isI (am_tyF 6 3) = true := by decide +kernel
theorem ti_6_3 : am_tyF 6 3 = .int := rfl
theorem tI_6_4 : im_isI (am_tyF 6 4) = true := by decide +kernel
theorem ti_6_4 : am_tyF 6 4 = .int := rfl
theorem tI_6_5 : im_isI (am_tyF 6 5) = true := by decide +kernel
theorem ti_6_5 : am_tyF 6 5 = .int := rfl
theorem tL_6_6 : im_isL (am_tyF 6 6) = true := by decide +kernel
theorem tl_6_6 : am_tyF 6 6 = .long := rfl
theorem tR_6_7 : im_isR (am_tyF 6 7) = true := by decide +kernel
theorem tI_6_8 : im_isI (am_tyF 6 8) = true := by decide +kernel
theorem ti_6_8 : am_tyF 6 8 = .int := rfl
theorem tI_6_9 : im_isI (am_tyF 6 9) = true := by decide +kernel
theorem ti_6_9 : am_tyF 6 9 = .int := rfl
theorem tR_7_0 : im_isR (am_tyF 7 0) = true := by decide +kernel
theorem tR_7_1 : im_isR (am_tyF 7 1) = true := by decide +kernel
theorem tR_7_2 : im_isR (am_tyF 7 2) = true := by decide +kernel
theorem tR_7_3 : im_isR (am_tyF 7 3) = true := by decide +kernel
theorem tR_7_4 : im_isR (am_tyF 7 4) = true := by decide +kernel
theorem tI_7_5 : im_isI (am_tyF 7 5) = true := by decide +kernel
theorem ti_7_5 : am_tyF 7 5 = .int := rfl
theorem tR_8_0 : im_isR (am_tyF 8 0) = true := by decide +kernel
theorem tR_8_1 : im_isR (am_tyF 8 1) = true := by decide +kernel
theorem tR_8_2 : im_isR (am_tyF 8 2) = true := by decide +kernel
theorem tR_8_3 : im_isR (am_tyF 8 3) = true := by decide +kernel
theorem tR_8_4 : im_isR (am_tyF 8 4) = true := by decide +kernel
theorem tR_8_5 : im_isR (am_tyF 8 5) = true := by decide +kernel
theorem tR_8_6 : im_isR (am_tyF 8 6) = true := by decide +kernel
theorem tR_8_7 : im_isR (am_tyF 8 7) = true := by decide +kernel
theorem tR_8_8 : im_isR (am_tyF 8 8) = true := by decide +kernel
theorem tI_8_9 : im_isI (am_tyF 8 9) = true := by decide +kernel
theorem ti_8_9 : am_tyF 8 9 = .int := rfl
theorem tR_9_0 : im_isR (am_tyF 9 0) = true := by decide +kernel
theorem tR_9_1 : im_isR (am_tyF 9 1) = true := by decide +kernel
theorem tR_9_2 : im_isR (am_tyF 9 2) = true := by decide +kernel
theorem tR_9_3 : im_isR (am_tyF 9 3) = true := by decide +kernel
theorem tL_9_4 : im_isL (am_tyF 9 4) = true := by decide +kernel
theorem tl_9_4 : am_tyF 9 4 = .long := rfl
theorem tI_9_5 : im_isI (am_tyF 9 5) = true := by decide +kernel
theorem ti_9_5 : am_tyF 9 5 = .int := rfl
theorem tI_9_6 : im_isI (am_tyF 9 6) = true := by decide +kernel
theorem tz_9_6 : am_tyF 9 6 = .boolean := rfl
theorem tR_10_0 : im_isR (am_tyF 10 0) = true := by decide +kernel
theorem tI_10_1 : im_isI (am_tyF 10 1) = true := by decide +kernel
theorem ti_10_1 : am_tyF 10 1 = .int := rfl
theorem tR_10_2 : im_isR (am_tyF 10 2) = true := by decide +kernel
theorem tR_10_3 : im_isR (am_tyF 10 3) = true := by decide +kernel
theorem tR_10_4 : im_isR (am_tyF 10 4) = true := by decide +kernel
theorem tI_10_5 : im_isI (am_tyF 10 5) = true := by decide +kernel
theorem ti_10_5 : am_tyF 10 5 = .int := rfl
theorem tR_10_6 : im_isR (am_tyF 10 6) = true := by decide +kernel
theorem tR_11_0 : im_isR (am_tyF 11 0) = true := by decide +kernel
theorem tI_11_1 : im_isI (am_tyF 11 1) = true := by decide +kernel
theorem ti_11_1 : am_tyF 11 1 = .int := rfl
theorem tR_11_2 : im_isR (am_tyF 11 2) = true := by decide +kernel
theorem tR_11_3 : im_isR (am_tyF 11 3) = true := by decide +kernel
theorem tR_11_4 : im_isR (am_tyF 11 4) = true := by decide +kernel
theorem tR_11_5 : im_isR (am_tyF 11 5) = true := by decide +kernel
theorem tR_11_6 : im_isR (am_tyF 11 6) = true := by decide +kernel
theorem tR_11_7 : im_isR (am_tyF 11 7) = true := by decide +kernel
theorem tR_11_8 : im_isR (am_tyF 11 8) = true := by decide +kernel
theorem tR_11_9 : im_isR (am_tyF 11 9) = true := by decide +kernel
theorem tR_11_10 : im_isR (am_tyF 11 10) = true := by decide +kernel
theorem tR_11_11 : im_isR (am_tyF 11 11) = true := by decide +kernel
theorem tR_11_12 : im_isR (am_tyF 11 12) = true := by decide +kernel
theorem tR_11_13 : im_isR (am_tyF 11 13) = true := by decide +kernel
theorem tR_11_14 : im_isR (am_tyF 11 14) = true := by decide +kernel
theorem tR_11_15 : im_isR (am_tyF 11 15) = true := by decide +kernel
theorem tR_11_16 : im_isR (am_tyF 11 16) = true := by decide +kernel
theorem tR_11_17 : im_isR (am_tyF 11 17) = true := by decide +kernel
theorem tR_11_18 : im_isR (am_tyF 11 18) = true := by decide +kernel
theorem tI_11_19 : im_isI (am_tyF 11 19) = true := by decide +kernel
theorem tz_11_19 : am_tyF 11 19 = .boolean := rfl
theorem tI_12_0 : im_isI (am_tyF 12 0) = true := by decide +kernel
theorem ti_12_0 : am_tyF 12 0 = .int := rfl
theorem tR_12_1 : im_isR (am_tyF 12 1) = true := by decide +kernel
theorem tI_12_2 : im_isI (am_tyF 12 2) = true := by decide +kernel
theorem ti_12_2 : am_tyF 12 2 = .int := rfl
theorem tR_12_3 : im_isR (am_tyF 12 3) = true := by decide +kernel
theorem tI_12_4 : im_isI (am_tyF 12 4) = true := by decide +kernel
theorem ti_12_4 : am_tyF 12 4 = .int := rfl
theorem tR_12_5 : im_isR (am_tyF 12 5) = true := by decide +kernel
theorem tI_12_6 : im_isI (am_tyF 12 6) = true := by decide +kernel
theorem ti_12_6 : am_tyF 12 6 = .int := rfl
theorem tI_12_7 : im_isI (am_tyF 12 7) = true := by decide +kernel
theorem ti_12_7 : am_tyF 12 7 = .int := rfl
theorem tI_12_8 : im_isI (am_tyF 12 8) = true := by decide +kernel
theorem tz_12_8 : am_tyF 12 8 = .boolean := rfl
theorem tR_12_9 : im_isR (am_tyF 12 9) = true := by decide +kernel
theorem tR_12_10 : im_isR (am_tyF 12 10) = true := by decide +kernel
theorem tR_12_11 : im_isR (am_tyF 12 11) = true := by decide +kernel
theorem tR_12_12 : im_isR (am_tyF 12 12) = true := by decide +kernel
theorem tI_12_13 : im_isI (am_tyF 12 13) = true := by decide +kernel
theorem ti_12_13 : am_tyF 12 13 = .int := rfl
theorem tI_12_14 : im_isI (am_tyF 12 14) = true := by decide +kernel
theorem ti_12_14 : am_tyF 12 14 = .int := rfl
theorem tI_12_15 : im_isI (am_tyF 12 15) = true := by decide +kernel
theorem ti_12_15 : am_tyF 12 15 = .int := rfl
theorem tI_12_16 : im_isI (am_tyF 12 16) = true := by decide +kernel
theorem ti_12_16 : am_tyF 12 16 = .int := rfl
theorem tI_12_17 : im_isI (am_tyF 12 17) = true := by decide +kernel
theorem ti_12_17 : am_tyF 12 17 = .int := rfl
theorem tL_12_18 : im_isL (am_tyF 12 18) = true := by decide +kernel
theorem tl_12_18 : am_tyF 12 18 = .long := rfl
theorem tI_12_19 : im_isI (am_tyF 12 19) = true := by decide +kernel
theorem ti_12_19 : am_tyF 12 19 = .int := rfl
theorem tI_12_20 : im_isI (am_tyF 12 20) = true := by decide +kernel
theorem ti_12_20 : am_tyF 12 20 = .int := rfl
theorem tR_12_21 : im_isR (am_tyF 12 21) = true := by decide +kernel
theorem tR_12_22 : im_isR (am_tyF 12 22) = true := by decide +kernel
theorem tR_12_23 : im_isR (am_tyF 12 23) = true := by decide +kernel
theorem tR_12_24 : im_isR (am_tyF 12 24) = true := by decide +kernel
theorem tR_12_25 : im_isR (am_tyF 12 25) = true := by decide +kernel
theorem tR_12_26 : im_isR (am_tyF 12 26) = true := by decide +kernel
theorem tR_12_27 : im_isR (am_tyF 12 27) = true := by decide +kernel
theorem tR_12_28 : im_isR (am_tyF 12 28) = true := by decide +kernel
theorem tR_12_29 : im_isR (am_tyF 12 29) = true := by decide +kernel
theorem tR_12_30 : im_isR (am_tyF 12 30) = true := by decide +kernel
theorem tR_12_31 : im_isR (am_tyF 12 31) = true := by decide +kernel
theorem tR_12_32 : im_isR (am_tyF 12 32) = true := by decide +kernel
theorem tR_12_33 : im_isR (am_tyF 12 33) = true := by decide +kernel
theorem tR_12_34 : im_isR (am_tyF 12 34) = true := by decide +kernel
theorem tR_12_35 : im_isR (am_tyF 12 35) = true := by decide +kernel
theorem tI_12_36 : im_isI (am_tyF 12 36) = true := by decide +kernel
theorem ti_12_36 : am_tyF 12 36 = .int := rfl
theorem tI_12_37 : im_isI (am_tyF 12 37) = true := by decide +kernel
theorem ti_12_37 : am_tyF 12 37 = .int := rfl
theorem tI_12_38 : im_isI (am_tyF 12 38) = true := by decide +kernel
theorem ti_12_38 : am_tyF 12 38 = .int := rfl
theorem tI_12_39 : im_isI (am_tyF 12 39) = true := by decide +kernel
theorem ti_12_39 : am_tyF 12 39 = .int := rfl
theorem tI_12_40 : im_isI (am_tyF 12 40) = true := by decide +kernel
theorem ti_12_40 : am_tyF 12 40 = .int := rfl
theorem tR_12_41 : im_isR (am_tyF 12 41) = true := by decide +kernel
theorem tR_12_42 : im_isR (am_tyF 12 42) = true := by decide +kernel
theorem tR_12_43 : im_isR (am_tyF 12 43) = true := by decide +kernel
theorem tR_12_44 : im_isR (am_tyF 12 44) = true := by decide +kernel
theorem tI_12_45 : im_isI (am_tyF 12 45) = true := by decide +kernel
theorem ti_12_45 : am_tyF 12 45 = .int := rfl
theorem tI_12_46 : im_isI (am_tyF 12 46) = true := by decide +kernel
theorem ti_12_46 : am_tyF 12 46 = .int := rfl
theorem tR_12_47 : im_isR (am_tyF 12 47) = true := by decide +kernel
theorem tR_12_48 : im_isR (am_tyF 12 48) = true := by decide +kernel
theorem tR_12_49 : im_isR (am_tyF 12 49) = true := by decide +kernel
theorem tR_12_50 : im_isR (am_tyF 12 50) = true := by decide +kernel
theorem tR_12_51 : im_isR (am_tyF 12 51) = true := by decide +kernel
theorem tR_12_52 : im_isR (am_tyF 12 52) = true := by decide +kernel
theorem tR_12_53 : im_isR (am_tyF 12 53) = true := by decide +kernel
theorem tR_12_54 : im_isR (am_tyF 12 54) = true := by decide +kernel
theorem tR_12_55 : im_isR (am_tyF 12 55) = true := by decide +kernel
theorem tR_12_56 : im_isR (am_tyF 12 56) = true := by decide +kernel
theorem tI_12_57 : im_isI (am_tyF 12 57) = true := by decide +kernel
theorem ti_12_57 : am_tyF 12 57 = .int := rfl
theorem tR_12_58 : im_isR (am_tyF 12 58) = true := by decide +kernel
theorem tR_12_59 : im_isR (am_tyF 12 59) = true := by decide +kernel
theorem tI_12_60 : im_isI (am_tyF 12 60) = true := by decide +kernel
theorem ti_12_60 : am_tyF 12 60 = .int := rfl
theorem tR_12_61 : im_isR (am_tyF 12 61) = true := by decide +kernel
theorem tI_12_62 : im_isI (am_tyF 12 62) = true := by decide +kernel
theorem ti_12_62 : am_tyF 12 62 = .int := rfl
theorem tR_12_63 : im_isR (am_tyF 12 63) = true := by decide +kernel
theorem tR_12_64 : im_isR (am_tyF 12 64) = true := by decide +kernel
theorem tI_12_65 : im_isI (am_tyF 12 65) = true := by decide +kernel
theorem ti_12_65 : am_tyF 12 65 = .int := rfl
theorem tR_12_66 : im_isR (am_tyF 12 66) = true := by decide +kernel
theorem tR_12_67 : im_isR (am_tyF 12 67) = true := by decide +kernel
theorem tR_12_68 : im_isR (am_tyF 12 68) = true := by decide +kernel
theorem tR_12_69 : im_isR (am_tyF 12 69) = true := by decide +kernel
theorem tR_12_70 : im_isR (am_tyF 12 70) = true := by decide +kernel
theorem tR_12_71 : im_isR (am_tyF 12 71) = true := by decide +kernel
theorem tR_12_72 : im_isR (am_tyF 12 72) = true := by decide +kernel
theorem tR_12_73 : im_isR (am_tyF 12 73) = true := by decide +kernel
theorem tR_12_74 : im_isR (am_tyF 12 74) = true := by decide +kernel
theorem tR_12_75 : im_isR (am_tyF 12 75) = true := by decide +kernel
theorem tR_12_76 : im_isR (am_tyF 12 76) = true := by decide +kernel
theorem tR_12_77 : im_isR (am_tyF 12 77) = true := by decide +kernel
theorem tR_12_78 : im_isR (am_tyF 12 78) = true := by decide +kernel
theorem tR_12_79 : im_isR (am_tyF 12 79) = true := by decide +kernel
theorem tR_12_80 : im_isR (am_tyF 12 80) = true := by decide +kernel
theorem tR_12_81 : im_isR (am_tyF 12 81) = true := by decide +kernel
theorem tR_12_82 : im_isR (am_tyF 12 82) = true := by decide +kernel
theorem tI_12_83 : im_isI (am_tyF 12 83) = true := by decide +kernel
theorem ti_12_83 : am_tyF 12 83 = .int := rfl
theorem tL_12_84 : im_isL (am_tyF 12 84) = true := by decide +kernel
theorem tl_12_84 : am_tyF 12 84 = .long := rfl
theorem tI_12_85 : im_isI (am_tyF 12 85) = true := by decide +kernel
theorem ti_12_85 : am_tyF 12 85 = .int := rfl
theorem tR_12_86 : im_isR (am_tyF 12 86) = true := by decide +kernel
theorem tR_12_87 : im_isR (am_tyF 12 87) = true := by decide +kernel
theorem tR_12_88 : im_isR (am_tyF 12 88) = true := by decide +kernel
theorem tI_12_89 : im_isI (am_tyF 12 89) = true := by decide +kernel
theorem ti_12_89 : am_tyF 12 89 = .int := rfl
theorem tR_12_90 : im_isR (am_tyF 12 90) = true := by decide +kernel
theorem tR_12_91 : im_isR (am_tyF 12 91) = true := by decide +kernel
theorem tR_12_92 : im_isR (am_tyF 12 92) = true := by decide +kernel
theorem tI_12_93 : im_isI (am_tyF 12 93) = true := by decide +kernel
theorem ti_12_93 : am_tyF 12 93 = .int := rfl
theorem tR_12_94 : im_isR (am_tyF 12 94) = true := by decide +kernel
theorem tR_12_95 : im_isR (am_tyF 12 95) = true := by decide +kernel
theorem tI_12_96 : im_isI (am_tyF 12 96) = true := by decide +kernel
theorem ti_12_96 : am_tyF 12 96 = .int := rfl
theorem tR_12_97 : im_isR (am_tyF 12 97) = true := by decide +kernel
theorem tR_12_98 : im_isR (am_tyF 12 98) = true := by decide +kernel
theorem tL_12_99 : im_isL (am_tyF 12 99) = true := by decide +kernel
theorem tl_12_99 : am_tyF 12 99 = .long := rfl
theorem tL_12_100 : im_isL (am_tyF 12 100) = true := by decide +kernel
theorem tl_12_100 : am_tyF 12 100 = .long := rfl
theorem tI_12_101 : im_isI (am_tyF 12 101) = true := by decide +kernel
theorem ti_12_101 : am_tyF 12 101 = .int := rfl
theorem tI_12_102 : im_isI (am_tyF 12 102) = true := by decide +kernel
theorem tz_12_102 : am_tyF 12 102 = .boolean := rfl
theorem tI_12_103 : im_isI (am_tyF 12 103) = true := by decide +kernel
theorem tz_12_103 : am_tyF 12 103 = .boolean := rfl
theorem tI_12_104 : im_isI (am_tyF 12 104) = true := by decide +kernel
theorem ti_12_104 : am_tyF 12 104 = .int := rfl
theorem tR_12_105 : im_isR (am_tyF 12 105) = true := by decide +kernel
theorem tR_12_106 : im_isR (am_tyF 12 106) = true := by decide +kernel
theorem tR_12_107 : im_isR (am_tyF 12 107) = true := by decide +kernel
theorem tR_12_108 : im_isR (am_tyF 12 108) = true := by decide +kernel
theorem tR_12_109 : im_isR (am_tyF 12 109) = true := by decide +kernel
theorem tI_12_110 : im_isI (am_tyF 12 110) = true := by decide +kernel
theorem ti_12_110 : am_tyF 12 110 = .int := rfl
theorem tR_12_111 : im_isR (am_tyF 12 111) = true := by decide +kernel
theorem tR_12_112 : im_isR (am_tyF 12 112) = true := by decide +kernel
theorem tR_12_113 : im_isR (am_tyF 12 113) = true := by decide +kernel
theorem tR_12_114 : im_isR (am_tyF 12 114) = true := by decide +kernel
theorem tR_12_115 : im_isR (am_tyF 12 115) = true := by decide +kernel
theorem tI_12_116 : im_isI (am_tyF 12 116) = true := by decide +kernel
theorem ti_12_116 : am_tyF 12 116 = .int := rfl
theorem tR_12_117 : im_isR (am_tyF 12 117) = true := by decide +kernel
theorem tR_12_118 : im_isR (am_tyF 12 118) = true := by decide +kernel
theorem tR_12_119 : im_isR (am_tyF 12 119) = true := by decide +kernel
theorem tR_12_120 : im_isR (am_tyF 12 120) = true := by decide +kernel
theorem tR_12_121 : im_isR (am_tyF 12 121) = true := by decide +kernel
theorem tI_12_122 : im_isI (am_tyF 12 122) = true := by decide +kernel
theorem ti_12_122 : am_tyF 12 122 = .int := rfl
theorem tR_12_123 : im_isR (am_tyF 12 123) = true := by decide +kernel
theorem tI_12_124 : im_isI (am_tyF 12 124) = true := by decide +kernel
theorem ti_12_124 : am_tyF 12 124 = .int := rfl
theorem tR_12_125 : im_isR (am_tyF 12 125) = true := by decide +kernel
theorem tR_12_126 : im_isR (am_tyF 12 126) = true := by decide +kernel
theorem tR_12_127 : im_isR (am_tyF 12 127) = true := by decide +kernel
theorem tR_12_128 : im_isR (am_tyF 12 128) = true := by decide +kernel
theorem tR_12_129 : im_isR (am_tyF 12 129) = true := by decide +kernel
theorem tI_12_130 : im_isI (am_tyF 12 130) = true := by decide +kernel
theorem ti_12_130 : am_tyF 12 130 = .int := rfl
theorem tR_12_131 : im_isR (am_tyF 12 131) = true := by decide +kernel
theorem tR_12_132 : im_isR (am_tyF 12 132) = true := by decide +kernel
theorem tR_12_133 : im_isR (am_tyF 12 133) = true := by decide +kernel
theorem tI_12_134 : im_isI (am_tyF 12 134) = true := by decide +kernel
theorem ti_12_134 : am_tyF 12 134 = .int := rfl
theorem tR_12_135 : im_isR (am_tyF 12 135) = true := by decide +kernel
theorem tR_12_136 : im_isR (am_tyF 12 136) = true := by decide +kernel
theorem tI_12_137 : im_isI (am_tyF 12 137) = true := by decide +kernel
theorem ti_12_137 : am_tyF 12 137 = .int := rfl
theorem tR_12_138 : im_isR (am_tyF 12 138) = true := by decide +kernel
theorem tR_12_139 : im_isR (am_tyF 12 139) = true := by decide +kernel
theorem tR_12_140 : im_isR (am_tyF 12 140) = true := by decide +kernel
theorem tR_12_141 : im_isR (am_tyF 12 141) = true := by decide +kernel
theorem tR_12_142 : im_isR (am_tyF 12 142) = true := by decide +kernel
theorem tI_12_143 : im_isI (am_tyF 12 143) = true := by decide +kernel
theorem ti_12_143 : am_tyF 12 143 = .int := rfl
theorem tR_12_144 : im_isR (am_tyF 12 144) = true := by decide +kernel
theorem tR_12_145 : im_isR (am_tyF 12 145) = true := by decide +kernel
theorem tR_12_146 : im_isR (am_tyF 12 146) = true := by decide +kernel
theorem tR_12_147 : im_isR (am_tyF 12 147) = true := by decide +kernel
theorem tR_12_148 : im_isR (am_tyF 12 148) = true := by decide +kernel
theorem tI_12_149 : im_isI (am_tyF 12 149) = true := by decide +kernel
theorem ti_12_149 : am_tyF 12 149 = .int := rfl
theorem tI_12_150 : im_isI (am_tyF 12 150) = true := by decide +kernel
theorem ti_12_150 : am_tyF 12 150 = .int := rfl
theorem tR_12_151 : im_isR (am_tyF 12 151) = true := by decide +kernel
theorem tR_12_152 : im_isR (am_tyF 12 152) = true := by decide +kernel
theorem tR_12_153 : im_isR (am_tyF 12 153) = true := by decide +kernel
theorem tR_12_154 : im_isR (am_tyF 12 154) = true := by decide +kernel
theorem tR_12_155 : im_isR (am_tyF 12 155) = true := by decide +kernel
theorem tR_12_156 : im_isR (am_tyF 12 156) = true := by decide +kernel
theorem tR_12_157 : im_isR (am_tyF 12 157) = true := by decide +kernel
theorem tR_12_158 : im_isR (am_tyF 12 158) = true := by decide +kernel
theorem tR_12_159 : im_isR (am_tyF 12 159) = true := by decide +kernel
theorem tR_12_160 : im_isR (am_tyF 12 160) = true := by decide +kernel
theorem tR_12_161 : im_isR (am_tyF 12 161) = true := by decide +kernel
theorem tR_12_162 : im_isR (am_tyF 12 162) = true := by decide +kernel
theorem tR_12_163 : im_isR (am_tyF 12 163) = true := by decide +kernel
theorem tR_12_164 : im_isR (am_tyF 12 164) = true := by decide +kernel
theorem tR_12_165 : im_isR (am_tyF 12 165) = true := by decide +kernel
theorem tR_12_166 : im_isR (am_tyF 12 166) = true := by decide +kernel
theorem tR_12_167 : im_isR (am_tyF 12 167) = true := by decide +kernel
theorem tR_12_168 : im_isR (am_tyF 12 168) = true := by decide +kernel
theorem tR_12_169 : im_isR (am_tyF 12 169) = true := by decide +kernel
theorem tR_12_170 : im_isR (am_tyF 12 170) = true := by decide +kernel
theorem tR_12_171 : im_isR (am_tyF 12 171) = true := by decide +kernel
theorem tR_12_172 : im_isR (am_tyF 12 172) = true := by decide +kernel
theorem tR_12_173 : im_isR (am_tyF 12 173) = true := by decide +kernel
theorem tL_12_174 : im_isL (am_tyF 12 174) = true := by decide +kernel
theorem tl_12_174 : am_tyF 12 174 = .long := rfl
theorem tI_12_175 : im_isI (am_tyF 12 175) = true := by decide +kernel
theorem ti_12_175 : am_tyF 12 175 = .int := rfl
theorem tR_12_176 : im_isR (am_tyF 12 176) = true := by decide +kernel
theorem tI_12_177 : im_isI (am_tyF 12 177) = true := by decide +kernel
theorem ti_12_177 : am_tyF 12 177 = .int := rfl
theorem tI_12_178 : im_isI (am_tyF 12 178) = true := by decide +kernel
theorem ti_12_178 : am_tyF 12 178 = .int := rfl
theorem tI_12_179 : im_isI (am_tyF 12 179) = true := by decide +kernel
theorem ti_12_179 : am_tyF 12 179 = .int := rfl
theorem tI_12_180 : im_isI (am_tyF 12 180) = true := by decide +kernel
theorem tz_12_180 : am_tyF 12 180 = .boolean := rfl
theorem tI_12_181 : im_isI (am_tyF 12 181) = true := by decide +kernel
theorem ti_12_181 : am_tyF 12 181 = .int := rfl

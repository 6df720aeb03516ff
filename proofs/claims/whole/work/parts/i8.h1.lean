theorem am_kg0 : ∀ j, j < 32 → am_c1 (0 + j) = true := fun j hj => match j, hj with
  | 0, _ => am_k0
  | 1, _ => am_k1
  | 2, _ => am_k2
  | 3, _ => am_k3
  | 4, _ => am_k4
  | 5, _ => am_k5
  | 6, _ => am_k6
  | 7, _ => am_k7
  | 8, _ => am_k8
  | 9, _ => am_k9
  | 10, _ => am_k10
  | 11, _ => am_k11
  | 12, _ => am_k12
  | 13, _ => am_k13
  | 14, _ => am_k14
  | 15, _ => am_k15
  | 16, _ => am_k16
  | 17, _ => am_k17
  | 18, _ => am_k18
  | 19, _ => am_k19
  | 20, _ => am_k20
  | 21, _ => am_k21
  | 22, _ => am_k22
  | 23, _ => am_k23
  | 24, _ => am_k24
  | 25, _ => am_k25
  | 26, _ => am_k26
  | 27, _ => am_k27
  | 28, _ => am_k28
  | 29, _ => am_k29
  | 30, _ => am_k30
  | 31, _ => am_k31
  | n + 32, h => absurd h (by omega)
theorem am_kg1 : ∀ j, j < 32 → am_c1 (32 + j) = true := fun j hj => match j, hj with
  | 0, _ => am_k32
  | 1, _ => am_k33
  | 2, _ => am_k34
  | 3, _ => am_k35
  | 4, _ => am_k36
  | 5, _ => am_k37
  | 6, _ => am_k38
  | 7, _ => am_k39
  | 8, _ => am_k40
  | 9, _ => am_k41
  | 10, _ => am_k42
  | 11, _ => am_k43
  | 12, _ => am_k44
  | 13, _ => am_k45
  | 14, _ => am_k46
  | 15, _ => am_k47
  | 16, _ => am_k48
  | 17, _ => am_k49
  | 18, _ => am_k50
  | 19, _ => am_k51
  | 20, _ => am_k52
  | 21, _ => am_k53
  | 22, _ => am_k54
  | 23, _ => am_k55
  | 24, _ => am_k56
  | 25, _ => am_k57
  | 26, _ => am_k58
  | 27, _ => am_k59
  | 28, _ => am_k60
  | 29, _ => am_k61
  | 30, _ => am_k62
  | 31, _ => am_k63
  | n + 32, h => absurd h (by omega)
theorem am_kg2 : ∀ j, j < 32 → am_c1 (64 + j) = true := fun j hj => match j, hj with
  | 0, _ => am_k64
  | 1, _ => am_k65
  | 2, _ => am_k66
  | 3, _ => am_k67
  | 4, _ => am_k68
  | 5, _ => am_k69
  | 6, _ => am_k70
  | 7, _ => am_k71
  | 8, _ => am_k72
  | 9, _ => am_k73
  | 10, _ => am_k74
  | 11, _ => am_k75
  | 12, _ => am_k76
  | 13, _ => am_k77
  | 14, _ => am_k78
  | 15, _ => am_k79
  | 16, _ => am_k80
  | 17, _ => am_k81
  | 18, _ => am_k82
  | 19, _ => am_k83
  | 20, _ => am_k84
  | 21, _ => am_k85
  | 22, _ => am_k86
  | 23, _ => am_k87
  | 24, _ => am_k88
  | 25, _ => am_k89
  | 26, _ => am_k90
  | 27, _ => am_k91
  | 28, _ => am_k92
  | 29, _ => am_k93
  | 30, _ => am_k94
  | 31, _ => am_k95
  | n + 32, h => absurd h (by omega)
theorem am_kg3 : ∀ j, j < 32 → am_c1 (96 + j) = true := fun j hj => match j, hj with
  | 0, _ => am_k96
  | 1, _ => am_k97
  | 2, _ => am_k98
  | 3, _ => am_k99
  | 4, _ => am_k100
  | 5, _ => am_k101
  | 6, _ => am_k102
  | 7, _ => am_k103
  | 8, _ => am_k104
  | 9, _ => am_k105
  | 10, _ => am_k106
  | 11, _ => am_k107
  | 12, _ => am_k108
  | 13, _ => am_k109
  | 14, _ => am_k110
  | 15, _ => am_k111
  | 16, _ => am_k112
  | 17, _ => am_k113
  | 18, _ => am_k114
  | 19, _ => am_k115
  | 20, _ => am_k116
  | 21, _ => am_k117
  | 22, _ => am_k118
  | 23, _ => am_k119
  | 24, _ => am_k120
  | 25, _ => am_k121
  | 26, _ => am_k122
  | 27, _ => am_k123
  | 28, _ => am_k124
  | 29, _ => am_k125
  | 30, _ => am_k126
  | 31, _ => am_k127
  | n + 32, h => absurd h (by omega)
theorem am_kg4 : ∀ j, j < 32 → am_c1 (128 + j) = true := fun j hj => match j, hj with
  | 0, _ => am_k128
  | 1, _ => am_k129
  | 2, _ => am_k130
  | 3, _ => am_k131
  | 4, _ => am_k132
  | 5, _ => am_k133
  | 6, _ => am_k134
  | 7, _ => am_k135
  | 8, _ => am_k136
  | 9, _ => am_k137
  | 10, _ => am_k138
  | 11, _ => am_k139
  | 12, _ => am_k140
  | 13, _ => am_k141
  | 14, _ => am_k142
  | 15, _ => am_k143
  | 16, _ => am_k144
  | 17, _ => am_k145
  | 18, _ => am_k146
  | 19, _ => am_k147
  | 20, _ => am_k148
  | 21, _ => am_k149
  | 22, _ => am_k150
  | 23, _ => am_k151
  | 24, _ => am_k152
  | 25, _ => am_k153
  | 26, _ => am_k154
  | 27, _ => am_k155
  | 28, _ => am_k156
  | 29, _ => am_k157
  | 30, _ => am_k158
  | 31, _ => am_k159
  | n + 32, h => absurd h (by omega)
theorem am_kg5 : ∀ j, j < 32 → am_c1 (160 + j) = true := fun j hj => match j, hj with
  | 0, _ => am_k160
  | 1, _ => am_k161
  | 2, _ => am_k162
  | 3, _ => am_k163
  | 4, _ => am_k164
  | 5, _ => am_k165
  | 6, _ => am_k166
  | 7, _ => am_k167
  | 8, _ => am_k168
  | 9, _ => am_k169
  | 10, _ => am_k170
  | 11, _ => am_k171
  | 12, _ => am_k172
  | 13, _ => am_k173
  | 14, _ => am_k174
  | 15, _ => am_k175
  | 16, _ => am_k176
  | 17, _ => am_k177
  | 18, _ => am_k178
  | 19, _ => am_k179
  | 20, _ => am_k180
  | 21, _ => am_k181
  | 22, _ => am_k182
  | 23, _ => am_k183
  | 24, _ => am_k184
  | 25, _ => am_k185
  | 26, _ => am_k186
  | 27, _ => am_k187
  | 28, _ => am_k188
  | 29, _ => am_k189
  | 30, _ => am_k190
  | 31, _ => am_k191
  | n + 32, h => absurd h (by omega)
theorem am_kg6 : ∀ j, j < 32 → am_c1 (192 + j) = true := fun j hj => match j, hj with
  | 0, _ => am_k192
  | 1, _ => am_k193
  | 2, _ => am_k194
  | 3, _ => am_k195
  | 4, _ => am_k196
  | 5, _ => am_k197
  | 6, _ => am_k198
  | 7, _ => am_k199
  | 8, _ => am_k200
  | 9, _ => am_k201
  | 10, _ => am_k202
  | 11, _ => am_k203
  | 12, _ => am_k204
  | 13, _ => am_k205
  | 14, _ => am_k206
  | 15, _ => am_k207
  | 16, _ => am_k208
  | 17, _ => am_k209
  | 18, _ => am_k210
  | 19, _ => am_k211
  | 20, _ => am_k212
  | 21, _ => am_k213
  | 22, _ => am_k214
  | 23, _ => am_k215
  | 24, _ => am_k216
  | 25, _ => am_k217
  | 26, _ => am_k218
  | 27, _ => am_k219
  | 28, _ => am_k220
  | 29, _ => am_k221
  | 30, _ => am_k222
  | 31, _ => am_k223
  | n + 32, h => absurd h (by omega)
theorem am_kg7 : ∀ j, j < 32 → am_c1 (224 + j) = true := fun j hj => match j, hj with
  | 0, _ => am_k224
  | 1, _ => am_k225
  | 2, _ => am_k226
  | 3, _ => am_k227
  | 4, _ => am_k228
  | 5, _ => am_k229
  | 6, _ => am_k230
  | 7, _ => am_k231
  | 8, _ => am_k232
  | 9, _ => am_k233
  | 10, _ => am_k234
  | 11, _ => am_k235
  | 12, _ => am_k236
  | 13, _ => am_k237
  | 14, _ => am_k238
  | 15, _ => am_k239
  | 16, _ => am_k240
  | 17, _ => am_k241
  | 18, _ => am_k242
  | 19, _ => am_k243
  | 20, _ => am_k244
  | 21, _ => am_k245
  | 22, _ => am_k246
  | 23, _ => am_k247
  | 24, _ => am_k248
  | 25, _ => am_k249
  | 26, _ => am_k250
  | 27, _ => am_k251
  | 28, _ => am_k252
  | 29, _ => am_k253
  | 30, _ => am_k254
  | 31, _ => am_k255
  | n + 32, h => absurd h (by omega)
theorem am_kg8 : ∀ j, j < 32 → am_c1 (256 + j) = true := fun j hj => match j, hj with
  | 0, _ => am_k256
  | 1, _ => am_k257
  | 2, _ => am_k258
  | 3, _ => am_k259
  | 4, _ => am_k260
  | 5, _ => am_k261
  | 6, _ => am_k262
  | 7, _ => am_k263
  | 8, _ => am_k264
  | 9, _ => am_k265
  | 10, _ => am_k266
  | 11, _ => am_k267
  | 12, _ => am_k268
  | 13, _ => am_k269
  | 14, _ => am_k270
  | 15, _ => am_k271
  | 16, _ => am_k272
  | 17, _ => am_k273
  | 18, _ => am_k274
  | 19, _ => am_k275
  | 20, _ => am_k276
  | 21, _ => am_k277
  | 22, _ => am_k278
  | 23, _ => am_k279
  | 24, _ => am_k280
  | 25, _ => am_k281
  | 26, _ => am_k282
  | 27, _ => am_k283
  | 28, _ => am_k284
  | 29, _ => am_k285
  | 30, _ => am_k286
  | 31, _ => am_k287
  | n + 32, h => absurd h (by omega)
theorem am_kg9 : ∀ j, j < 32 → am_c1 (288 + j) = true := fun j hj => match j, hj with
  | 0, _ => am_k288
  | 1, _ => am_k289
  | 2, _ => am_k290
  | 3, _ => am_k291
  | 4, _ => am_k292
  | 5, _ => am_k293
  | 6, _ => am_k294
  | 7, _ => am_k295
  | 8, _ => am_k296
  | 9, _ => am_k297
  | 10, _ => am_k298
  | 11, _ => am_k299
  | 12, _ => am_k300
  | 13, _ => am_k301
  | 14, _ => am_k302
  | 15, _ => am_k303
  | 16, _ => am_k304
  | 17, _ => am_k305
  | 18, _ => am_k306
  | 19, _ => am_k307
  | 20, _ => am_k308
  | 21, _ => am_k309
  | 22, _ => am_k310
  | 23, _ => am_k311
  | 24, _ => am_k312
  | 25, _ => am_k313
  | 26, _ => am_k314
  | 27, _ => am_k315
  | 28, _ => am_k316
  | 29, _ => am_k317
  | 30, _ => am_k318
  | 31, _ => am_k319
  | n + 32, h => absurd h (by omega)
theorem am_kg10 : ∀ j, j < 32 → am_c1 (320 + j) = true := fun j hj => match j, hj with
  | 0, _ => am_k320
  | 1, _ => am_k321
  | 2, _ => am_k322
  | 3, _ => am_k323
  | 4, _ => am_k324
  | 5, _ => am_k325
  | 6, _ => am_k326
  | 7, _ => am_k327
  | 8, _ => am_k328
  | 9, _ => am_k329
  | 10, _ => am_k330
  | 11, _ => am_k331
  | 12, _ => am_k332
  | 13, _ => am_k333
  | 14, _ => am_k334
  | 15, _ => am_k335
  | 16, _ => am_k336
  | 17, _ => am_k337
  | 18, _ => am_k338
  | 19, _ => am_k339
  | 20, _ => am_k340
  | 21, _ => am_k341
  | 22, _ => am_k342
  | 23, _ => am_k343
  | 24, _ => am_k344
  | 25, _ => am_k345
  | 26, _ => am_k346
  | 27, _ => am_k347
  | 28, _ => am_k348
  | 29, _ => am_k349
  | 30, _ => am_k350
  | 31, _ => am_k351
  | n + 32, h => absurd h (by omega)
theorem am_kg11 : ∀ j, j < 32 → am_c1 (352 + j) = true := fun j hj => match j, hj with
  | 0, _ => am_k352
  | 1, _ => am_k353
  | 2, _ => am_k354
  | 3, _ => am_k355
  | 4, _ => am_k356
  | 5, _ => am_k357
  | 6, _ => am_k358
  | 7, _ => am_k359
  | 8, _ => am_k360
  | 9, _ => am_k361
  | 10, _ => am_k362
  | 11, _ => am_k363
  | 12, _ => am_k364
  | 13, _ => am_k365
  | 14, _ => am_k366
  | 15, _ => am_k367
  | 16, _ => am_k368
  | 17, _ => am_k369
  | 18, _ => am_k370
  | 19, _ => am_k371
  | 20, _ => am_k372
  | 21, _ => am_k373
  | 22, _ => am_k374
  | 23, _ => am_k375
  | 24, _ => am_k376
  | 25, _ => am_k377
  | 26, _ => am_k378
  | 27, _ => am_k379
  | 28, _ => am_k380
  | 29, _ => am_k381
  | 30, _ => am_k382
  | 31, _ => am_k383
  | n + 32, h => absurd h (by omega)
theorem am_kg12 : ∀ j, j < 32 → am_c1 (384 + j) = true := fun j hj => match j, hj with
  | 0, _ => am_k384
  | 1, _ => am_k385
  | 2, _ => am_k386
  | 3, _ => am_k387
  | 4, _ => am_k388
  | 5, _ => am_k389
  | 6, _ => am_k390
  | 7, _ => am_k391
  | 8, _ => am_k392
  | 9, _ => am_k393
  | 10, _ => am_k394
  | 11, _ => am_k395
  | 12, _ => am_k396
  | 13, _ => am_k397
  | 14, _ => am_k398
  | 15, _ => am_k399
  | 16, _ => am_k400
  | 17, _ => am_k401
  | 18, _ => am_k402
  | 19, _ => am_k403
  | 20, _ => am_k404
  | 21, _ => am_k405
  | 22, _ => am_k406
  | 23, _ => am_k407
  | 24, _ => am_k408
  | 25, _ => am_k409
  | 26, _ => am_k410
  | 27, _ => am_k411
  | 28, _ => am_k412
  | 29, _ => am_k413
  | 30, _ => am_k414
  | 31, _ => am_k415
  | n + 32, h => absurd h (by omega)
theorem am_kg13 : ∀ j, j < 32 → am_c1 (416 + j) = true := fun j hj => match j, hj with
  | 0, _ => am_k416
  | 1, _ => am_k417
  | 2, _ => am_k418
  | 3, _ => am_k419
  | 4, _ => am_k420
  | 5, _ => am_k421
  | 6, _ => am_k422
  | 7, _ => am_k423
  | 8, _ => am_k424
  | 9, _ => am_k425
  | 10, _ => am_k426
  | 11, _ => am_k427
  | 12, _ => am_k428
  | 13, _ => am_k429
  | 14, _ => am_k430
  | 15, _ => am_k431
  | 16, _ => am_k432
  | 17, _ => am_k433
  | 18, _ => am_k434
  | 19, _ => am_k435
  | 20, _ => am_k436
  | 21, _ => am_k437
  | 22, _ => am_k438
  | 23, _ => am_k439
  | 24, _ => am_k440
  | 25, _ => am_k441
  | 26, _ => am_k442
  | 27, _ => am_k443
  | 28, _ => am_k444
  | 29, _ => am_k445
  | 30, _ => am_k446
  | 31, _ => am_k447
  | n + 32, h => absurd h (by omega)
theorem am_kg14 : ∀ j, j < 5 → am_c1 (448 + j) = true := fun j hj => match j, hj with
  | 0, _ => am_k448
  | 1, _ => am_k449
  | 2, _ => am_k450
  | 3, _ => am_k451
  | 4, _ => am_k452
  | n + 5, h => absurd h (by omega)
theorem am_kall : ∀ M, M < 453 → am_c1 M = true := by
  intro M hM
  rcases Nat.lt_or_ge M 32 with z | z
  · have := am_kg0 (M - 0) (by omega); rwa [show 0 + (M - 0) = M by omega] at this
  rcases Nat.lt_or_ge M 64 with z | z
  · have := am_kg1 (M - 32) (by omega); rwa [show 32 + (M - 32) = M by omega] at this
  rcases Nat.lt_or_ge M 96 with z | z
  · have := am_kg2 (M - 64) (by omega); rwa [show 64 + (M - 64) = M by omega] at this
  rcases Nat.lt_or_ge M 128 with z | z
  · have := am_kg3 (M - 96) (by omega); rwa [show 96 + (M - 96) = M by omega] at this
  rcases Nat.lt_or_ge M 160 with z | z
  · have := am_kg4 (M - 128) (by omega); rwa [show 128 + (M - 128) = M by omega] at this
  rcases Nat.lt_or_ge M 192 with z | z
  · have := am_kg5 (M - 160) (by omega); rwa [show 160 + (M - 160) = M by omega] at this
  rcases Nat.lt_or_ge M 224 with z | z
  · have := am_kg6 (M - 192) (by omega); rwa [show 192 + (M - 192) = M by omega] at this
  rcases Nat.lt_or_ge M 256 with z | z
  · have := am_kg7 (M - 224) (by omega); rwa [show 224 + (M - 224) = M by omega] at this
  rcases Nat.lt_or_ge M 288 with z | z
  · have := am_kg8 (M - 256) (by omega); rwa [show 256 + (M - 256) = M by omega] at this
  rcases Nat.lt_or_ge M 320 with z | z
  · have := am_kg9 (M - 288) (by omega); rwa [show 288 + (M - 288) = M by omega] at this
  rcases Nat.lt_or_ge M 352 with z | z
  · have := am_kg10 (M - 320) (by omega); rwa [show 320 + (M - 320) = M by omega] at this
  rcases Nat.lt_or_ge M 384 with z | z
  · have := am_kg11 (M - 352) (by omega); rwa [show 352 + (M - 352) = M by omega] at this
  rcases Nat.lt_or_ge M 416 with z | z
  · have := am_kg12 (M - 384) (by omega); rwa [show 384 + (M - 384) = M by omega] at this
  rcases Nat.lt_or_ge M 448 with z | z
  · have := am_kg13 (M - 416) (by omega); rwa [show 416 + (M - 416) = M by omega] at this
  rcases Nat.lt_or_ge M 453 with z | z
  · have := am_kg14 (M - 448) (by omega); rwa [show 448 + (M - 448) = M by omega] at this
  · omega
theorem am_tbs_out {M : Nat} (h : 453 ≤ M) : am_2 am_tbs [] M = [] := by
  rcases Nat.lt_or_ge M 480 with z | z
  · have h0 : ∀ j, j < 27 → am_2 am_tbs [] (453 + j) = [] := fun j hj => match j, hj with
      | 0, _ => rfl
      | 1, _ => rfl
      | 2, _ => rfl
      | 3, _ => rfl
      | 4, _ => rfl
      | 5, _ => rfl
      | 6, _ => rfl
      | 7, _ => rfl
      | 8, _ => rfl
      | 9, _ => rfl
      | 10, _ => rfl
      | 11, _ => rfl
      | 12, _ => rfl
      | 13, _ => rfl
      | 14, _ => rfl
      | 15, _ => rfl
      | 16, _ => rfl
      | 17, _ => rfl
      | 18, _ => rfl
      | 19, _ => rfl
      | 20, _ => rfl
      | 21, _ => rfl
      | 22, _ => rfl
      | 23, _ => rfl
      | 24, _ => rfl
      | 25, _ => rfl
      | 26, _ => rfl
      | n + 27, h => absurd h (by omega)
    have := h0 (M - 453) (by omega)
    rwa [show 453 + (M - 453) = M by omega] at this
  · exact am_2_out (by decide) z
theorem am_P1 (sp : Nat → Nat → List Value → Option (Nat × List Value)) : am_H1 (am_P sp) am_cc := by
  intro M pc ins len h
  have hm := am_lookup (show (am_2 am_tbs [] M).lookup pc = some (ins, len) from h)
  rcases Nat.lt_or_ge M 453 with z | z
  · have hc := List.all_eq_true.mp (am_kall M z) _ hm
    simp only [am_ck1, Bool.and_eq_true, Bool.or_eq_true, decide_eq_true_eq] at hc
    refine ⟨hc.1, fun hsw => ?_⟩
    rcases hc.2 with q | q
    · rw [hsw] at q; cases q
    · exact q
  · rw [am_tbs_out z] at hm; cases hm

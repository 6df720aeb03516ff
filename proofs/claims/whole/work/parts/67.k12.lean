/-! blocks of the class -/
theorem D237_0 {g : im_g} : im_D g 237 0 (.aload_n 0) 1 := im_D.of (by decide +kernel)
theorem D237_1 {g : im_g} : im_D g 237 1 (.invokevirtual 124) 4 := im_D.of (by decide +kernel)
theorem D237_4 {g : im_g} : im_D g 237 4 (.iload_n 1) 5 := im_D.of (by decide +kernel)
theorem D237_5 {g : im_g} : im_D g 237 5 (.bipush 16) 7 := im_D.of (by decide +kernel)
theorem D237_7 {g : im_g} : im_D g 237 7 (.invokestatic 183) 10 := im_D.of (by decide +kernel)
theorem D237_10 {g : im_g} : im_D g 237 10 (.iload_n 3) 11 := im_D.of (by decide +kernel)
theorem D237_11 {g : im_g} : im_D g 237 11 (.iconst 1) 12 := im_D.of (by decide +kernel)
theorem D237_12 {g : im_g} : im_D g 237 12 (.if_icmp .lt 26) 15 := im_D.of (by decide +kernel)
theorem D237_15 {g : im_g} : im_D g 237 15 (.iload_n 3) 16 := im_D.of (by decide +kernel)
theorem D237_16 {g : im_g} : im_D g 237 16 (.bipush 31) 18 := im_D.of (by decide +kernel)
theorem D237_18 {g : im_g} : im_D g 237 18 (.if_icmp .gt 20) 21 := im_D.of (by decide +kernel)
theorem D237_21 {g : im_g} : im_D g 237 21 (.iload 4) 23 := im_D.of (by decide +kernel)
theorem D237_23 {g : im_g} : im_D g 237 23 (.ifCond .lt 15) 26 := im_D.of (by decide +kernel)
theorem D237_26 {g : im_g} : im_D g 237 26 (.iload 4) 28 := im_D.of (by decide +kernel)
theorem D237_28 {g : im_g} : im_D g 237 28 (.sipush 400) 31 := im_D.of (by decide +kernel)
theorem D237_31 {g : im_g} : im_D g 237 31 (.if_icmp .gt 7) 34 := im_D.of (by decide +kernel)
theorem D237_34 {g : im_g} : im_D g 237 34 (.iconst 1) 35 := im_D.of (by decide +kernel)
theorem D237_35 {g : im_g} : im_D g 237 35 (.goto 4) 38 := im_D.of (by decide +kernel)
theorem D237_38 {g : im_g} : im_D g 237 38 (.iconst 0) 39 := im_D.of (by decide +kernel)
theorem D237_39 {g : im_g} : im_D g 237 39 (.invokestatic 195) 42 := im_D.of (by decide +kernel)
theorem D237_42 {g : im_g} : im_D g 237 42 (.iload_n 2) 43 := im_D.of (by decide +kernel)
theorem D237_43 {g : im_g} : im_D g 237 43 (.ifCond .eq 21) 46 := im_D.of (by decide +kernel)
theorem D237_46 {g : im_g} : im_D g 237 46 (.aload_n 0) 47 := im_D.of (by decide +kernel)
theorem D237_47 {g : im_g} : im_D g 237 47 (.getfield 49) 50 := im_D.of (by decide +kernel)
theorem D237_50 {g : im_g} : im_D g 237 50 (.iload_n 1) 51 := im_D.of (by decide +kernel)
theorem D237_51 {g : im_g} : im_D g 237 51 (.iaload) 52 := im_D.of (by decide +kernel)
theorem D237_52 {g : im_g} : im_D g 237 52 (.iconst (-1)) 53 := im_D.of (by decide +kernel)
theorem D237_53 {g : im_g} : im_D g 237 53 (.if_icmp .eq 7) 56 := im_D.of (by decide +kernel)
theorem D237_56 {g : im_g} : im_D g 237 56 (.iconst 1) 57 := im_D.of (by decide +kernel)
theorem D237_57 {g : im_g} : im_D g 237 57 (.goto 16) 60 := im_D.of (by decide +kernel)
theorem D237_60 {g : im_g} : im_D g 237 60 (.iconst 0) 61 := im_D.of (by decide +kernel)
theorem D237_61 {g : im_g} : im_D g 237 61 (.goto 12) 64 := im_D.of (by decide +kernel)
theorem D237_64 {g : im_g} : im_D g 237 64 (.aload_n 0) 65 := im_D.of (by decide +kernel)
theorem D237_65 {g : im_g} : im_D g 237 65 (.getfield 55) 68 := im_D.of (by decide +kernel)
theorem D237_68 {g : im_g} : im_D g 237 68 (.iload_n 1) 69 := im_D.of (by decide +kernel)
theorem D237_69 {g : im_g} : im_D g 237 69 (.aaload) 70 := im_D.of (by decide +kernel)
theorem D237_70 {g : im_g} : im_D g 237 70 (.getfield 290) 73 := im_D.of (by decide +kernel)
theorem D237_73 {g : im_g} : im_D g 237 73 (.invokestatic 187) 76 := im_D.of (by decide +kernel)
theorem D237_76 {g : im_g} : im_D g 237 76 (.iload_n 2) 77 := im_D.of (by decide +kernel)
theorem D237_77 {g : im_g} : im_D g 237 77 (.ifCond .eq 26) 80 := im_D.of (by decide +kernel)
theorem D237_80 {g : im_g} : im_D g 237 80 (.aload_n 0) 81 := im_D.of (by decide +kernel)
theorem D237_81 {g : im_g} : im_D g 237 81 (.getfield 36) 84 := im_D.of (by decide +kernel)
theorem D237_84 {g : im_g} : im_D g 237 84 (.aload_n 0) 85 := im_D.of (by decide +kernel)
theorem D237_85 {g : im_g} : im_D g 237 85 (.getfield 49) 88 := im_D.of (by decide +kernel)
theorem D237_88 {g : im_g} : im_D g 237 88 (.iload_n 1) 89 := im_D.of (by decide +kernel)
theorem D237_89 {g : im_g} : im_D g 237 89 (.iaload) 90 := im_D.of (by decide +kernel)
theorem D237_90 {g : im_g} : im_D g 237 90 (.aload_n 0) 91 := im_D.of (by decide +kernel)
theorem D237_91 {g : im_g} : im_D g 237 91 (.getfield 64) 94 := im_D.of (by decide +kernel)
theorem D237_94 {g : im_g} : im_D g 237 94 (.invokevirtual 318) 97 := im_D.of (by decide +kernel)
theorem D237_97 {g : im_g} : im_D g 237 97 (.ifCond .eq 6) 100 := im_D.of (by decide +kernel)
theorem D237_100 {g : im_g} : im_D g 237 100 (.bipush (-11)) 102 := im_D.of (by decide +kernel)
theorem D237_102 {g : im_g} : im_D g 237 102 (.ireturn) 103 := im_D.of (by decide +kernel)
theorem D237_103 {g : im_g} : im_D g 237 103 (.iload_n 2) 104 := im_D.of (by decide +kernel)
theorem D237_104 {g : im_g} : im_D g 237 104 (.ifCond .eq 20) 107 := im_D.of (by decide +kernel)
theorem D237_107 {g : im_g} : im_D g 237 107 (.aload_n 0) 108 := im_D.of (by decide +kernel)
theorem D237_108 {g : im_g} : im_D g 237 108 (.getfield 88) 111 := im_D.of (by decide +kernel)
theorem D237_111 {g : im_g} : im_D g 237 111 (.aload_n 0) 112 := im_D.of (by decide +kernel)
theorem D237_112 {g : im_g} : im_D g 237 112 (.getfield 49) 115 := im_D.of (by decide +kernel)
theorem D237_115 {g : im_g} : im_D g 237 115 (.iload_n 1) 116 := im_D.of (by decide +kernel)
theorem D237_116 {g : im_g} : im_D g 237 116 (.iaload) 117 := im_D.of (by decide +kernel)
theorem D237_117 {g : im_g} : im_D g 237 117 (.lconst 0) 118 := im_D.of (by decide +kernel)
theorem D237_118 {g : im_g} : im_D g 237 118 (.invokevirtual 322) 121 := im_D.of (by decide +kernel)
theorem D237_121 {g : im_g} : im_D g 237 121 (.goto 16) 124 := im_D.of (by decide +kernel)
theorem D237_124 {g : im_g} : im_D g 237 124 (.aload_n 0) 125 := im_D.of (by decide +kernel)
theorem D237_125 {g : im_g} : im_D g 237 125 (.getfield 88) 128 := im_D.of (by decide +kernel)
theorem D237_128 {g : im_g} : im_D g 237 128 (.aload_n 0) 129 := im_D.of (by decide +kernel)
theorem D237_129 {g : im_g} : im_D g 237 129 (.getfield 55) 132 := im_D.of (by decide +kernel)
theorem D237_132 {g : im_g} : im_D g 237 132 (.iload_n 1) 133 := im_D.of (by decide +kernel)
theorem D237_133 {g : im_g} : im_D g 237 133 (.aaload) 134 := im_D.of (by decide +kernel)
theorem D237_134 {g : im_g} : im_D g 237 134 (.invokevirtual 337) 137 := im_D.of (by decide +kernel)
theorem D237_137 {g : im_g} : im_D g 237 137 (.aload_n 0) 138 := im_D.of (by decide +kernel)
theorem D237_138 {g : im_g} : im_D g 237 138 (.getfield 106) 141 := im_D.of (by decide +kernel)
theorem D237_141 {g : im_g} : im_D g 237 141 (.aload_n 0) 142 := im_D.of (by decide +kernel)
theorem D237_142 {g : im_g} : im_D g 237 142 (.getfield 88) 145 := im_D.of (by decide +kernel)
theorem D237_145 {g : im_g} : im_D g 237 145 (.iload_n 2) 146 := im_D.of (by decide +kernel)
theorem D237_146 {g : im_g} : im_D g 237 146 (.ifCond .eq 10) 149 := im_D.of (by decide +kernel)
theorem D237_149 {g : im_g} : im_D g 237 149 (.aload_n 0) 150 := im_D.of (by decide +kernel)
theorem D237_150 {g : im_g} : im_D g 237 150 (.getfield 64) 153 := im_D.of (by decide +kernel)
theorem D237_153 {g : im_g} : im_D g 237 153 (.goto 12) 156 := im_D.of (by decide +kernel)
theorem D237_156 {g : im_g} : im_D g 237 156 (.aload_n 0) 157 := im_D.of (by decide +kernel)
theorem D237_157 {g : im_g} : im_D g 237 157 (.getfield 55) 160 := im_D.of (by decide +kernel)
theorem D237_160 {g : im_g} : im_D g 237 160 (.iload_n 1) 161 := im_D.of (by decide +kernel)
theorem D237_161 {g : im_g} : im_D g 237 161 (.aaload) 162 := im_D.of (by decide +kernel)
theorem D237_162 {g : im_g} : im_D g 237 162 (.getfield 326) 165 := im_D.of (by decide +kernel)
theorem D237_165 {g : im_g} : im_D g 237 165 (.iload_n 3) 166 := im_D.of (by decide +kernel)
theorem D237_166 {g : im_g} : im_D g 237 166 (.iload 4) 168 := im_D.of (by decide +kernel)
theorem D237_168 {g : im_g} : im_D g 237 168 (.invokevirtual 395) 171 := im_D.of (by decide +kernel)
theorem D237_171 {g : im_g} : im_D g 237 171 (.istore 5) 173 := im_D.of (by decide +kernel)
theorem D237_173 {g : im_g} : im_D g 237 173 (.aload_n 0) 174 := im_D.of (by decide +kernel)
theorem D237_174 {g : im_g} : im_D g 237 174 (.getfield 29) 177 := im_D.of (by decide +kernel)
theorem D237_177 {g : im_g} : im_D g 237 177 (.invokevirtual 155) 180 := im_D.of (by decide +kernel)
theorem D237_180 {g : im_g} : im_D g 237 180 (.iload 5) 182 := im_D.of (by decide +kernel)
theorem D237_182 {g : im_g} : im_D g 237 182 (.iconst 1) 183 := im_D.of (by decide +kernel)
theorem D237_183 {g : im_g} : im_D g 237 183 (.if_icmp .ne 14) 186 := im_D.of (by decide +kernel)
theorem D237_186 {g : im_g} : im_D g 237 186 (.aload_n 0) 187 := im_D.of (by decide +kernel)
theorem D237_187 {g : im_g} : im_D g 237 187 (.getfield 106) 190 := im_D.of (by decide +kernel)
theorem D237_190 {g : im_g} : im_D g 237 190 (.aload_n 0) 191 := im_D.of (by decide +kernel)
theorem D237_191 {g : im_g} : im_D g 237 191 (.getfield 29) 194 := im_D.of (by decide +kernel)
theorem D237_194 {g : im_g} : im_D g 237 194 (.invokevirtual 398) 197 := im_D.of (by decide +kernel)
theorem D237_197 {g : im_g} : im_D g 237 197 (.iload 5) 199 := im_D.of (by decide +kernel)
theorem D237_199 {g : im_g} : im_D g 237 199 (.ireturn) 200 := im_D.of (by decide +kernel)
set_option maxRecDepth 20000 in
set_option maxHeartbeats 4000000 in
theorem k_P_look_0 {g : im_g} {d : Nat} {e : im_E} {M : im_M} {K : im_K} {p1 p2 p3 p4 : Int} (hd : 1 ≤ d) (hP : im_T g (d - 1) 152 0 [some (.ref 0)] [] e M (im_rx (im_r0 (fun  e_ M1 => e = e_ ∧ im_T g (d - 1) 169 0 [some (vI p1), some (vI 16)] [] e M1 (im_rx (im_r0 (fun  e_ M2 => e = e_ ∧ (im_i32 p3) ∧ ((((1 ≤ p3 → ((p3 ≤ 31 → (im_i32 p4) ∧ ((0 ≤ p4 → ((p4 ≤ 400 → im_T g (d - 1) 168 0 [some (vI 1)] [] e M2 (im_rx (im_r0 (fun  e_ M277 => e = e_ ∧ (im_i32 p2) ∧ ((((p2 = 0 → (0 ≤ p1 ∧ p1 < 16) ∧ ∃ b414 : Nat, ((M277 29 p1) = (b414 : Int)) ∧ (im_state e b414) ∧ im_T g (d - 1) 167 0 [some (vI (M277 b414 6))] [] e M277 (im_rx (im_r0 (fun  e_ M418 => e = e_ ∧ ((p2 = 0 → ((p2 = 0 → ∃ b423 : Nat, ((M418 29 p1) = (b423 : Int)) ∧ (im_state e b423) ∧ im_T g (d - 1) 107 0 [some (.ref 666), some (.ref b423)] [] e M418 (im_r0 (fun  e_ M426 => e = e_ ∧ ((p2 = 0 → ∃ b428 : Nat, ((M426 29 p1) = (b428 : Int)) ∧ (im_state e b428) ∧ ∃ n431 : Nat, (im_book e (b428 + 259) n431) ∧ im_T g (d - 1) 238 0 [some (.ref 1793), some (.ref 666), some (.ref (b428 + 259)), some (vI p3), some (vI p4), none, none, none, none] [] e M426 (im_ri (fun x435 e434 M433 => im_T g (d - 1) 22 0 [some (.ref 7)] [] e434 M433 (im_r0 (fun  e_ M436 => e434 = e_ ∧ (im_i32 x435) ∧ ((¬ x435 = 1 → K (.inl (some (vI x435))) e434 M436) ∧ (x435 = 1 → im_T g (d - 1) 246 0 [some (.ref 1793), some (.ref 7), none, none] [] e434 M436 (im_r0 (fun  e_ M439 => e434 = e_ ∧ K (.inl (some (vI x435))) e434 M439))))))))) ∧ (¬ p2 = 0 → im_T g (d - 1) 238 0 [some (.ref 1793), some (.ref 666), some (.ref 30), some (vI p3), some (vI p4), none, none, none, none] [] e M426 (im_ri (fun x444 e443 M442 => im_T g (d - 1) 22 0 [some (.ref 7)] [] e443 M442 (im_r0 (fun  e_ M445 => e443 = e_ ∧ (im_i32 x444) ∧ ((¬ x444 = 1 → K (.inl (some (vI x444))) e443 M445) ∧ (x444 = 1 → im_T g (d - 1) 246 0 [some (.ref 1793), some (.ref 7), none, none] [] e443 M445 (im_r0 (fun  e_ M448 => e443 = e_ ∧ K (.inl (some (vI x444))) e443 M448))))))))))))) ∧ (¬ p2 = 0 → im_T g (d - 1) 90 0 [some (.ref 666), some (vI (M418 28 p1)), some (vL 0), none] [] e M418 (im_r0 (fun  e_ M452 => e = e_ ∧ ((p2 = 0 → ∃ b454 : Nat, ((M452 29 p1) = (b454 : Int)) ∧ (im_state e b454) ∧ ∃ n457 : Nat, (im_book e (b454 + 259) n457) ∧ im_T g (d - 1) 238 0 [some (.ref 1793), some (.ref 666), some (.ref (b454 + 259)), some (vI p3), some (vI p4), none, none, none, none] [] e M452 (im_ri (fun x461 e460 M459 => im_T g (d - 1) 22 0 [some (.ref 7)] [] e460 M459 (im_r0 (fun  e_ M462 => e460 = e_ ∧ (im_i32 x461) ∧ ((¬ x461 = 1 → K (.inl (some (vI x461))) e460 M462) ∧ (x461 = 1 → im_T g (d - 1) 246 0 [some (.ref 1793), some (.ref 7), none, none] [] e460 M462 (im_r0 (fun  e_ M465 => e460 = e_ ∧ K (.inl (some (vI x461))) e460 M465))))))))) ∧ (¬ p2 = 0 → im_T g (d - 1) 238 0 [some (.ref 1793), some (.ref 666), some (.ref 30), some (vI p3), some (vI p4), none, none, none, none] [] e M452 (im_ri (fun x470 e469 M468 => im_T g (d - 1) 22 0 [some (.ref 7)] [] e469 M468 (im_r0 (fun  e_ M471 => e469 = e_ ∧ (im_i32 x470) ∧ ((¬ x470 = 1 → K (.inl (some (vI x470))) e469 M471) ∧ (x470 = 1 → im_T g (d - 1) 246 0 [some (.ref 1793), some (.ref 7), none, none] [] e469 M471 (im_r0 (fun  e_ M474 => e469 = e_ ∧ K (.inl (some (vI x470))) e469 M474))))))))))))))) ∧ (¬ p2 = 0 → im_T g (d - 1) 86 0 [some (.ref 13), some (vI (M418 28 p1)), some (.ref 30), none, none, none] [] e M418 (im_ri (fun x479 e_ M478 => e = e_ ∧ (im_i32 x479) ∧ ((x479 = 0 → ((p2 = 0 → ∃ b484 : Nat, ((M478 29 p1) = (b484 : Int)) ∧ (im_state e b484) ∧ im_T g (d - 1) 107 0 [some (.ref 666), some (.ref b484)] [] e M478 (im_r0 (fun  e_ M487 => e = e_ ∧ ((p2 = 0 → ∃ b489 : Nat, ((M487 29 p1) = (b489 : Int)) ∧ (im_state e b489) ∧ ∃ n492 : Nat, (im_book e (b489 + 259) n492) ∧ im_T g (d - 1) 238 0 [some (.ref 1793), some (.ref 666), some (.ref (b489 + 259)), some (vI p3), some (vI p4), none, none, none, none] [] e M487 (im_ri (fun x496 e495 M494 => im_T g (d - 1) 22 0 [some (.ref 7)] [] e495 M494 (im_r0 (fun  e_ M497 => e495 = e_ ∧ (im_i32 x496) ∧ ((¬ x496 = 1 → K (.inl (some (vI x496))) e495 M497) ∧ (x496 = 1 → im_T g (d - 1) 246 0 [some (.ref 1793), some (.ref 7), none, none] [] e495 M497 (im_r0 (fun  e_ M500 => e495 = e_ ∧ K (.inl (some (vI x496))) e495 M500))))))))) ∧ (¬ p2 = 0 → im_T g (d - 1) 238 0 [some (.ref 1793), some (.ref 666), some (.ref 30), some (vI p3), some (vI p4), none, none, none, none] [] e M487 (im_ri (fun x505 e504 M503 => im_T g (d - 1) 22 0 [some (.ref 7)] [] e504 M503 (im_r0 (fun  e_ M506 => e504 = e_ ∧ (im_i32 x505) ∧ ((¬ x505 = 1 → K (.inl (some (vI x505))) e504 M506) ∧ (x505 = 1 → im_T g (d - 1) 246 0 [some (.ref 1793), some (.ref 7), none, none] [] e504 M506 (im_r0 (fun  e_ M509 => e504 = e_ ∧ K (.inl (some (vI x505))) e504 M509))))))))))))) ∧ (¬ p2 = 0 → im_T g (d - 1) 90 0 [some (.ref 666), some (vI (M478 28 p1)), some (vL 0), none] [] e M478 (im_r0 (fun  e_ M513 => e = e_ ∧ ((p2 = 0 → ∃ b515 : Nat, ((M513 29 p1) = (b515 : Int)) ∧ (im_state e b515) ∧ ∃ n518 : Nat, (im_book e (b515 + 259) n518) ∧ im_T g (d - 1) 238 0 [some (.ref 1793), some (.ref 666), some (.ref (b515 + 259)), some (vI p3), some (vI p4), none, none, none, none] [] e M513 (im_ri (fun x522 e521 M520 => im_T g (d - 1) 22 0 [some (.ref 7)] [] e521 M520 (im_r0 (fun  e_ M523 => e521 = e_ ∧ (im_i32 x522) ∧ ((¬ x522 = 1 → K (.inl (some (vI x522))) e521 M523) ∧ (x522 = 1 → im_T g (d - 1) 246 0 [some (.ref 1793), some (.ref 7), none, none] [] e521 M523 (im_r0 (fun  e_ M526 => e521 = e_ ∧ K (.inl (some (vI x522))) e521 M526))))))))) ∧ (¬ p2 = 0 → im_T g (d - 1) 238 0 [some (.ref 1793), some (.ref 666), some (.ref 30), some (vI p3), some (vI p4), none, none, none, none] [] e M513 (im_ri (fun x531 e530 M529 => im_T g (d - 1) 22 0 [some (.ref 7)] [] e530 M529 (im_r0 (fun  e_ M532 => e530 = e_ ∧ (im_i32 x531) ∧ ((¬ x531 = 1 → K (.inl (some (vI x531))) e530 M532) ∧ (x531 = 1 → im_T g (d - 1) 246 0 [some (.ref 1793), some (.ref 7), none, none] [] e530 M532 (im_r0 (fun  e_ M535 => e530 = e_ ∧ K (.inl (some (vI x531))) e530 M535))))))))))))))) ∧ (¬ x479 = 0 → K (.inl (some (vI (-11)))) e M478)))))))) (fun E_ e_ M_ => K (.inr E_) e_ M_))) ∧ (¬ p2 = 0 → (0 ≤ p1 ∧ p1 < 16)))) ∧ (∀ x283 : Int, (((¬ p2 = 0) ∧ ((M277 28 p1) = (-1)) ∧ x283 = 0) ∨ ((¬ p2 = 0) ∧ (¬ (M277 28 p1) = (-1)) ∧ x283 = 1)) → im_T g (d - 1) 167 0 [some (vI x283)] [] e M277 (im_rx (im_r0 (fun  e_ M287 => e = e_ ∧ ((p2 = 0 → ((p2 = 0 → (0 ≤ p1 ∧ p1 < 16) ∧ ∃ b295 : Nat, ((M287 29 p1) = (b295 : Int)) ∧ (im_state e b295) ∧ im_T g (d - 1) 107 0 [some (.ref 666), some (.ref b295)] [] e M287 (im_r0 (fun  e_ M298 => e = e_ ∧ ((p2 = 0 → ∃ b300 : Nat, ((M298 29 p1) = (b300 : Int)) ∧ (im_state e b300) ∧ ∃ n303 : Nat, (im_book e (b300 + 259) n303) ∧ im_T g (d - 1) 238 0 [some (.ref 1793), some (.ref 666), some (.ref (b300 + 259)), some (vI p3), some (vI p4), none, none, none, none] [] e M298 (im_ri (fun x307 e306 M305 => im_T g (d - 1) 22 0 [some (.ref 7)] [] e306 M305 (im_r0 (fun  e_ M308 => e306 = e_ ∧ (im_i32 x307) ∧ ((¬ x307 = 1 → K (.inl (some (vI x307))) e306 M308) ∧ (x307 = 1 → im_T g (d - 1) 246 0 [some (.ref 1793), some (.ref 7), none, none] [] e306 M308 (im_r0 (fun  e_ M311 => e306 = e_ ∧ K (.inl (some (vI x307))) e306 M311))))))))) ∧ (¬ p2 = 0 → im_T g (d - 1) 238 0 [some (.ref 1793), some (.ref 666), some (.ref 30), some (vI p3), some (vI p4), none, none, none, none] [] e M298 (im_ri (fun x316 e315 M314 => im_T g (d - 1) 22 0 [some (.ref 7)] [] e315 M314 (im_r0 (fun  e_ M317 => e315 = e_ ∧ (im_i32 x316) ∧ ((¬ x316 = 1 → K (.inl (some (vI x316))) e315 M317) ∧ (x316 = 1 → im_T g (d - 1) 246 0 [some (.ref 1793), some (.ref 7), none, none] [] e315 M317 (im_r0 (fun  e_ M320 => e315 = e_ ∧ K (.inl (some (vI x316))) e315 M320))))))))))))) ∧ (¬ p2 = 0 → (0 ≤ p1 ∧ p1 < 16) ∧ im_T g (d - 1) 90 0 [some (.ref 666), some (vI (M287 28 p1)), some (vL 0), none] [] e M287 (im_r0 (fun  e_ M324 => e = e_ ∧ ((p2 = 0 → ∃ b326 : Nat, ((M324 29 p1) = (b326 : Int)) ∧ (im_state e b326) ∧ ∃ n329 : Nat, (im_book e (b326 + 259) n329) ∧ im_T g (d - 1) 238 0 [some (.ref 1793), some (.ref 666), some (.ref (b326 + 259)), some (vI p3), some (vI p4), none, none, none, none] [] e M324 (im_ri (fun x333 e332 M331 => im_T g (d - 1) 22 0 [some (.ref 7)] [] e332 M331 (im_r0 (fun  e_ M334 => e332 = e_ ∧ (im_i32 x333) ∧ ((¬ x333 = 1 → K (.inl (some (vI x333))) e332 M334) ∧ (x333 = 1 → im_T g (d - 1) 246 0 [some (.ref 1793), some (.ref 7), none, none] [] e332 M334 (im_r0 (fun  e_ M337 => e332 = e_ ∧ K (.inl (some (vI x333))) e332 M337))))))))) ∧ (¬ p2 = 0 → im_T g (d - 1) 238 0 [some (.ref 1793), some (.ref 666), some (.ref 30), some (vI p3), some (vI p4), none, none, none, none] [] e M324 (im_ri (fun x342 e341 M340 => im_T g (d - 1) 22 0 [some (.ref 7)] [] e341 M340 (im_r0 (fun  e_ M343 => e341 = e_ ∧ (im_i32 x342) ∧ ((¬ x342 = 1 → K (.inl (some (vI x342))) e341 M343) ∧ (x342 = 1 → im_T g (d - 1) 246 0 [some (.ref 1793), some (.ref 7), none, none] [] e341 M343 (im_r0 (fun  e_ M346 => e341 = e_ ∧ K (.inl (some (vI x342))) e341 M346))))))))))))))) ∧ (¬ p2 = 0 → (0 ≤ p1 ∧ p1 < 16) ∧ im_T g (d - 1) 86 0 [some (.ref 13), some (vI (M287 28 p1)), some (.ref 30), none, none, none] [] e M287 (im_ri (fun x351 e_ M350 => e = e_ ∧ (im_i32 x351) ∧ ((x351 = 0 → ((p2 = 0 → ∃ b356 : Nat, ((M350 29 p1) = (b356 : Int)) ∧ (im_state e b356) ∧ im_T g (d - 1) 107 0 [some (.ref 666), some (.ref b356)] [] e M350 (im_r0 (fun  e_ M359 => e = e_ ∧ ((p2 = 0 → ∃ b361 : Nat, ((M359 29 p1) = (b361 : Int)) ∧ (im_state e b361) ∧ ∃ n364 : Nat, (im_book e (b361 + 259) n364) ∧ im_T g (d - 1) 238 0 [some (.ref 1793), some (.ref 666), some (.ref (b361 + 259)), some (vI p3), some (vI p4), none, none, none, none] [] e M359 (im_ri (fun x368 e367 M366 => im_T g (d - 1) 22 0 [some (.ref 7)] [] e367 M366 (im_r0 (fun  e_ M369 => e367 = e_ ∧ (im_i32 x368) ∧ ((¬ x368 = 1 → K (.inl (some (vI x368))) e367 M369) ∧ (x368 = 1 → im_T g (d - 1) 246 0 [some (.ref 1793), some (.ref 7), none, none] [] e367 M369 (im_r0 (fun  e_ M372 => e367 = e_ ∧ K (.inl (some (vI x368))) e367 M372))))))))) ∧ (¬ p2 = 0 → im_T g (d - 1) 238 0 [some (.ref 1793), some (.ref 666), some (.ref 30), some (vI p3), some (vI p4), none, none, none, none] [] e M359 (im_ri (fun x377 e376 M375 => im_T g (d - 1) 22 0 [some (.ref 7)] [] e376 M375 (im_r0 (fun  e_ M378 => e376 = e_ ∧ (im_i32 x377) ∧ ((¬ x377 = 1 → K (.inl (some (vI x377))) e376 M378) ∧ (x377 = 1 → im_T g (d - 1) 246 0 [some (.ref 1793), some (.ref 7), none, none] [] e376 M378 (im_r0 (fun  e_ M381 => e376 = e_ ∧ K (.inl (some (vI x377))) e376 M381))))))))))))) ∧ (¬ p2 = 0 → im_T g (d - 1) 90 0 [some (.ref 666), some (vI (M350 28 p1)), some (vL 0), none] [] e M350 (im_r0 (fun  e_ M385 => e = e_ ∧ ((p2 = 0 → ∃ b387 : Nat, ((M385 29 p1) = (b387 : Int)) ∧ (im_state e b387) ∧ ∃ n390 : Nat, (im_book e (b387 + 259) n390) ∧ im_T g (d - 1) 238 0 [some (.ref 1793), some (.ref 666), some (.ref (b387 + 259)), some (vI p3), some (vI p4), none, none, none, none] [] e M385 (im_ri (fun x394 e393 M392 => im_T g (d - 1) 22 0 [some (.ref 7)] [] e393 M392 (im_r0 (fun  e_ M395 => e393 = e_ ∧ (im_i32 x394) ∧ ((¬ x394 = 1 → K (.inl (some (vI x394))) e393 M395) ∧ (x394 = 1 → im_T g (d - 1) 246 0 [some (.ref 1793), some (.ref 7), none, none] [] e393 M395 (im_r0 (fun  e_ M398 => e393 = e_ ∧ K (.inl (some (vI x394))) e393 M398))))))))) ∧ (¬ p2 = 0 → im_T g (d - 1) 238 0 [some (.ref 1793), some (.ref 666), some (.ref 30), some (vI p3), some (vI p4), none, none, none, none] [] e M385 (im_ri (fun x403 e402 M401 => im_T g (d - 1) 22 0 [some (.ref 7)] [] e402 M401 (im_r0 (fun  e_ M404 => e402 = e_ ∧ (im_i32 x403) ∧ ((¬ x403 = 1 → K (.inl (some (vI x403))) e402 M404) ∧ (x403 = 1 → im_T g (d - 1) 246 0 [some (.ref 1793), some (.ref 7), none, none] [] e402 M404 (im_r0 (fun  e_ M407 => e402 = e_ ∧ K (.inl (some (vI x403))) e402 M407))))))))))))))) ∧ (¬ x351 = 0 → K (.inl (some (vI (-11)))) e M350)))))))) (fun E_ e_ M_ => K (.inr E_) e_ M_)))))) (fun E_ e_ M_ => K (.inr E_) e_ M_))))))))))) ∧ ((((p3 < 1)) ∨ ((1 ≤ p3) ∧ (31 < p3)) ∨ ((1 ≤ p3) ∧ (p3 ≤ 31) ∧ (p4 < 0)) ∨ ((1 ≤ p3) ∧ (p3 ≤ 31) ∧ (0 ≤ p4) ∧ (400 < p4))) → im_T g (d - 1) 168 0 [some (vI 0)] [] e M2 (im_rx (im_r0 (fun  e_ M12 => e = e_ ∧ (im_i32 p2) ∧ ((((p2 = 0 → (0 ≤ p1 ∧ p1 < 16) ∧ ∃ b149 : Nat, ((M12 29 p1) = (b149 : Int)) ∧ (im_state e b149) ∧ im_T g (d - 1) 167 0 [some (vI (M12 b149 6))] [] e M12 (im_rx (im_r0 (fun  e_ M153 => e = e_ ∧ ((p2 = 0 → ((p2 = 0 → ∃ b158 : Nat, ((M153 29 p1) = (b158 : Int)) ∧ (im_state e b158) ∧ im_T g (d - 1) 107 0 [some (.ref 666), some (.ref b158)] [] e M153 (im_r0 (fun  e_ M161 => e = e_ ∧ ((p2 = 0 → ∃ b163 : Nat, ((M161 29 p1) = (b163 : Int)) ∧ (im_state e b163) ∧ ∃ n166 : Nat, (im_book e (b163 + 259) n166) ∧ im_T g (d - 1) 238 0 [some (.ref 1793), some (.ref 666), some (.ref (b163 + 259)), some (vI p3), some (vI p4), none, none, none, none] [] e M161 (im_ri (fun x170 e169 M168 => im_T g (d - 1) 22 0 [some (.ref 7)] [] e169 M168 (im_r0 (fun  e_ M171 => e169 = e_ ∧ (im_i32 x170) ∧ ((¬ x170 = 1 → K (.inl (some (vI x170))) e169 M171) ∧ (x170 = 1 → im_T g (d - 1) 246 0 [some (.ref 1793), some (.ref 7), none, none] [] e169 M171 (im_r0 (fun  e_ M174 => e169 = e_ ∧ K (.inl (some (vI x170))) e169 M174))))))))) ∧ (¬ p2 = 0 → im_T g (d - 1) 238 0 [some (.ref 1793), some (.ref 666), some (.ref 30), some (vI p3), some (vI p4), none, none, none, none] [] e M161 (im_ri (fun x179 e178 M177 => im_T g (d - 1) 22 0 [some (.ref 7)] [] e178 M177 (im_r0 (fun  e_ M180 => e178 = e_ ∧ (im_i32 x179) ∧ ((¬ x179 = 1 → K (.inl (some (vI x179))) e178 M180) ∧ (x179 = 1 → im_T g (d - 1) 246 0 [some (.ref 1793), some (.ref 7), none, none] [] e178 M180 (im_r0 (fun  e_ M183 => e178 = e_ ∧ K (.inl (some (vI x179))) e178 M183))))))))))))) ∧ (¬ p2 = 0 → im_T g (d - 1) 90 0 [some (.ref 666), some (vI (M153 28 p1)), some (vL 0), none] [] e M153 (im_r0 (fun  e_ M187 => e = e_ ∧ ((p2 = 0 → ∃ b189 : Nat, ((M187 29 p1) = (b189 : Int)) ∧ (im_state e b189) ∧ ∃ n192 : Nat, (im_book e (b189 + 259) n192) ∧ im_T g (d - 1) 238 0 [some (.ref 1793), some (.ref 666), some (.ref (b189 + 259)), some (vI p3), some (vI p4), none, none, none, none] [] e M187 (im_ri (fun x196 e195 M194 => im_T g (d - 1) 22 0 [some (.ref 7)] [] e195 M194 (im_r0 (fun  e_ M197 => e195 = e_ ∧ (im_i32 x196) ∧ ((¬ x196 = 1 → K (.inl (some (vI x196))) e195 M197) ∧ (x196 = 1 → im_T g (d - 1) 246 0 [some (.ref 1793), some (.ref 7), none, none] [] e195 M197 (im_r0 (fun  e_ M200 => e195 = e_ ∧ K (.inl (some (vI x196))) e195 M200))))))))) ∧ (¬ p2 = 0 → im_T g (d - 1) 238 0 [some (.ref 1793), some (.ref 666), some (.ref 30), some (vI p3), some (vI p4), none, none, none, none] [] e M187 (im_ri (fun x205 e204 M203 => im_T g (d - 1) 22 0 [some (.ref 7)] [] e204 M203 (im_r0 (fun  e_ M206 => e204 = e_ ∧ (im_i32 x205) ∧ ((¬ x205 = 1 → K (.inl (some (vI x205))) e204 M206) ∧ (x205 = 1 → im_T g (d - 1) 246 0 [some (.ref 1793), some (.ref 7), none, none] [] e204 M206 (im_r0 (fun  e_ M209 => e204 = e_ ∧ K (.inl (some (vI x205))) e204 M209))))))))))))))) ∧ (¬ p2 = 0 → im_T g (d - 1) 86 0 [some (.ref 13), some (vI (M153 28 p1)), some (.ref 30), none, none, none] [] e M153 (im_ri (fun x214 e_ M213 => e = e_ ∧ (im_i32 x214) ∧ ((x214 = 0 → ((p2 = 0 → ∃ b219 : Nat, ((M213 29 p1) = (b219 : Int)) ∧ (im_state e b219) ∧ im_T g (d - 1) 107 0 [some (.ref 666), some (.ref b219)] [] e M213 (im_r0 (fun  e_ M222 => e = e_ ∧ ((p2 = 0 → ∃ b224 : Nat, ((M222 29 p1) = (b224 : Int)) ∧ (im_state e b224) ∧ ∃ n227 : Nat, (im_book e (b224 + 259) n227) ∧ im_T g (d - 1) 238 0 [some (.ref 1793), some (.ref 666), some (.ref (b224 + 259)), some (vI p3), some (vI p4), none, none, none, none] [] e M222 (im_ri (fun x231 e230 M229 => im_T g (d - 1) 22 0 [some (.ref 7)] [] e230 M229 (im_r0 (fun  e_ M232 => e230 = e_ ∧ (im_i32 x231) ∧ ((¬ x231 = 1 → K (.inl (some (vI x231))) e230 M232) ∧ (x231 = 1 → im_T g (d - 1) 246 0 [some (.ref 1793), some (.ref 7), none, none] [] e230 M232 (im_r0 (fun  e_ M235 => e230 = e_ ∧ K (.inl (some (vI x231))) e230 M235))))))))) ∧ (¬ p2 = 0 → im_T g (d - 1) 238 0 [some (.ref 1793), some (.ref 666), some (.ref 30), some (vI p3), some (vI p4), none, none, none, none] [] e M222 (im_ri (fun x240 e239 M238 => im_T g (d - 1) 22 0 [some (.ref 7)] [] e239 M238 (im_r0 (fun  e_ M241 => e239 = e_ ∧ (im_i32 x240) ∧ ((¬ x240 = 1 → K (.inl (some (vI x240))) e239 M241) ∧ (x240 = 1 → im_T g (d - 1) 246 0 [some (.ref 1793), some (.ref 7), none, none] [] e239 M241 (im_r0 (fun  e_ M244 => e239 = e_ ∧ K (.inl (some (vI x240))) e239 M244))))))))))))) ∧ (¬ p2 = 0 → im_T g (d - 1) 90 0 [some (.ref 666), some (vI (M213 28 p1)), some (vL 0), none] [] e M213 (im_r0 (fun  e_ M248 => e = e_ ∧ ((p2 = 0 → ∃ b250 : Nat, ((M248 29 p1) = (b250 : Int)) ∧ (im_state e b250) ∧ ∃ n253 : Nat, (im_book e (b250 + 259) n253) ∧ im_T g (d - 1) 238 0 [some (.ref 1793), some (.ref 666), some (.ref (b250 + 259)), some (vI p3), some (vI p4), none, none, none, none] [] e M248 (im_ri (fun x257 e256 M255 => im_T g (d - 1) 22 0 [some (.ref 7)] [] e256 M255 (im_r0 (fun  e_ M258 => e256 = e_ ∧ (im_i32 x257) ∧ ((¬ x257 = 1 → K (.inl (some (vI x257))) e256 M258) ∧ (x257 = 1 → im_T g (d - 1) 246 0 [some (.ref 1793), some (.ref 7), none, none] [] e256 M258 (im_r0 (fun  e_ M261 => e256 = e_ ∧ K (.inl (some (vI x257))) e256 M261))))))))) ∧ (¬ p2 = 0 → im_T g (d - 1) 238 0 [some (.ref 1793), some (.ref 666), some (.ref 30), some (vI p3), some (vI p4), none, none, none, none] [] e M248 (im_ri (fun x266 e265 M264 => im_T g (d - 1) 22 0 [some (.ref 7)] [] e265 M264 (im_r0 (fun  e_ M267 => e265 = e_ ∧ (im_i32 x266) ∧ ((¬ x266 = 1 → K (.inl (some (vI x266))) e265 M267) ∧ (x266 = 1 → im_T g (d - 1) 246 0 [some (.ref 1793), some (.ref 7), none, none] [] e265 M267 (im_r0 (fun  e_ M270 => e265 = e_ ∧ K (.inl (some (vI x266))) e265 M270))))))))))))))) ∧ (¬ x214 = 0 → K (.inl (some (vI (-11)))) e M213)))))))) (fun E_ e_ M_ => K (.inr E_) e_ M_))) ∧ (¬ p2 = 0 → (0 ≤ p1 ∧ p1 < 16)))) ∧ (∀ x18 : Int, (((¬ p2 = 0) ∧ ((M12 28 p1) = (-1)) ∧ x18 = 0) ∨ ((¬ p2 = 0) ∧ (¬ (M12 28 p1) = (-1)) ∧ x18 = 1)) → im_T g (d - 1) 167 0 [some (vI x18)] [] e M12 (im_rx (im_r0 (fun  e_ M22 => e = e_ ∧ ((p2 = 0 → ((p2 = 0 → (0 ≤ p1 ∧ p1 < 16) ∧ ∃ b30 : Nat, ((M22 29 p1) = (b30 : Int)) ∧ (im_state e b30) ∧ im_T g (d - 1) 107 0 [some (.ref 666), some (.ref b30)] [] e M22 (im_r0 (fun  e_ M33 => e = e_ ∧ ((p2 = 0 → ∃ b35 : Nat, ((M33 29 p1) = (b35 : Int)) ∧ (im_state e b35) ∧ ∃ n38 : Nat, (im_book e (b35 + 259) n38) ∧ im_T g (d - 1) 238 0 [some (.ref 1793), some (.ref 666), some (.ref (b35 + 259)), some (vI p3), some (vI p4), none, none, none, none] [] e M33 (im_ri (fun x42 e41 M40 => im_T g (d - 1) 22 0 [some (.ref 7)] [] e41 M40 (im_r0 (fun  e_ M43 => e41 = e_ ∧ (im_i32 x42) ∧ ((¬ x42 = 1 → K (.inl (some (vI x42))) e41 M43) ∧ (x42 = 1 → im_T g (d - 1) 246 0 [some (.ref 1793), some (.ref 7), none, none] [] e41 M43 (im_r0 (fun  e_ M46 => e41 = e_ ∧ K (.inl (some (vI x42))) e41 M46))))))))) ∧ (¬ p2 = 0 → im_T g (d - 1) 238 0 [some (.ref 1793), some (.ref 666), some (.ref 30), some (vI p3), some (vI p4), none, none, none, none] [] e M33 (im_ri (fun x51 e50 M49 => im_T g (d - 1) 22 0 [some (.ref 7)] [] e50 M49 (im_r0 (fun  e_ M52 => e50 = e_ ∧ (im_i32 x51) ∧ ((¬ x51 = 1 → K (.inl (some (vI x51))) e50 M52) ∧ (x51 = 1 → im_T g (d - 1) 246 0 [some (.ref 1793), some (.ref 7), none, none] [] e50 M52 (im_r0 (fun  e_ M55 => e50 = e_ ∧ K (.inl (some (vI x51))) e50 M55))))))))))))) ∧ (¬ p2 = 0 → (0 ≤ p1 ∧ p1 < 16) ∧ im_T g (d - 1) 90 0 [some (.ref 666), some (vI (M22 28 p1)), some (vL 0), none] [] e M22 (im_r0 (fun  e_ M59 => e = e_ ∧ ((p2 = 0 → ∃ b61 : Nat, ((M59 29 p1) = (b61 : Int)) ∧ (im_state e b61) ∧ ∃ n64 : Nat, (im_book e (b61 + 259) n64) ∧ im_T g (d - 1) 238 0 [some (.ref 1793), some (.ref 666), some (.ref (b61 + 259)), some (vI p3), some (vI p4), none, none, none, none] [] e M59 (im_ri (fun x68 e67 M66 => im_T g (d - 1) 22 0 [some (.ref 7)] [] e67 M66 (im_r0 (fun  e_ M69 => e67 = e_ ∧ (im_i32 x68) ∧ ((¬ x68 = 1 → K (.inl (some (vI x68))) e67 M69) ∧ (x68 = 1 → im_T g (d - 1) 246 0 [some (.ref 1793), some (.ref 7), none, none] [] e67 M69 (im_r0 (fun  e_ M72 => e67 = e_ ∧ K (.inl (some (vI x68))) e67 M72))))))))) ∧ (¬ p2 = 0 → im_T g (d - 1) 238 0 [some (.ref 1793), some (.ref 666), some (.ref 30), some (vI p3), some (vI p4), none, none, none, none] [] e M59 (im_ri (fun x77 e76 M75 => im_T g (d - 1) 22 0 [some (.ref 7)] [] e76 M75 (im_r0 (fun  e_ M78 => e76 = e_ ∧ (im_i32 x77) ∧ ((¬ x77 = 1 → K (.inl (some (vI x77))) e76 M78) ∧ (x77 = 1 → im_T g (d - 1) 246 0 [some (.ref 1793), some (.ref 7), none, none] [] e76 M78 (im_r0 (fun  e_ M81 => e76 = e_ ∧ K (.inl (some (vI x77))) e76 M81))))))))))))))) ∧ (¬ p2 = 0 → (0 ≤ p1 ∧ p1 < 16) ∧ im_T g (d - 1) 86 0 [some (.ref 13), some (vI (M22 28 p1)), some (.ref 30), none, none, none] [] e M22 (im_ri (fun x86 e_ M85 => e = e_ ∧ (im_i32 x86) ∧ ((x86 = 0 → ((p2 = 0 → ∃ b91 : Nat, ((M85 29 p1) = (b91 : Int)) ∧ (im_state e b91) ∧ im_T g (d - 1) 107 0 [some (.ref 666), some (.ref b91)] [] e M85 (im_r0 (fun  e_ M94 => e = e_ ∧ ((p2 = 0 → ∃ b96 : Nat, ((M94 29 p1) = (b96 : Int)) ∧ (im_state e b96) ∧ ∃ n99 : Nat, (im_book e (b96 + 259) n99) ∧ im_T g (d - 1) 238 0 [some (.ref 1793), some (.ref 666), some (.ref (b96 + 259)), some (vI p3), some (vI p4), none, none, none, none] [] e M94 (im_ri (fun x103 e102 M101 => im_T g (d - 1) 22 0 [some (.ref 7)] [] e102 M101 (im_r0 (fun  e_ M104 => e102 = e_ ∧ (im_i32 x103) ∧ ((¬ x103 = 1 → K (.inl (some (vI x103))) e102 M104) ∧ (x103 = 1 → im_T g (d - 1) 246 0 [some (.ref 1793), some (.ref 7), none, none] [] e102 M104 (im_r0 (fun  e_ M107 => e102 = e_ ∧ K (.inl (some (vI x103))) e102 M107))))))))) ∧ (¬ p2 = 0 → im_T g (d - 1) 238 0 [some (.ref 1793), some (.ref 666), some (.ref 30), some (vI p3), some (vI p4), none, none, none, none] [] e M94 (im_ri (fun x112 e111 M110 => im_T g (d - 1) 22 0 [some (.ref 7)] [] e111 M110 (im_r0 (fun  e_ M113 => e111 = e_ ∧ (im_i32 x112) ∧ ((¬ x112 = 1 → K (.inl (some (vI x112))) e111 M113) ∧ (x112 = 1 → im_T g (d - 1) 246 0 [some (.ref 1793), some (.ref 7), none, none] [] e111 M113 (im_r0 (fun  e_ M116 => e111 = e_ ∧ K (.inl (some (vI x112))) e111 M116))))))))))))) ∧ (¬ p2 = 0 → im_T g (d - 1) 90 0 [some (.ref 666), some (vI (M85 28 p1)), some (vL 0), none] [] e M85 (im_r0 (fun  e_ M120 => e = e_ ∧ ((p2 = 0 → ∃ b122 : Nat, ((M120 29 p1) = (b122 : Int)) ∧ (im_state e b122) ∧ ∃ n125 : Nat, (im_book e (b122 + 259) n125) ∧ im_T g (d - 1) 238 0 [some (.ref 1793), some (.ref 666), some (.ref (b122 + 259)), some (vI p3), some (vI p4), none, none, none, none] [] e M120 (im_ri (fun x129 e128 M127 => im_T g (d - 1) 22 0 [some (.ref 7)] [] e128 M127 (im_r0 (fun  e_ M130 => e128 = e_ ∧ (im_i32 x129) ∧ ((¬ x129 = 1 → K (.inl (some (vI x129))) e128 M130) ∧ (x129 = 1 → im_T g (d - 1) 246 0 [some (.ref 1793), some (.ref 7), none, none] [] e128 M130 (im_r0 (fun  e_ M133 => e128 = e_ ∧ K (.inl (some (vI x129))) e128 M133))))))))) ∧ (¬ p2 = 0 → im_T g (d - 1) 238 0 [some (.ref 1793), some (.ref 666), some (.ref 30), some (vI p3), some (vI p4), none, none, none, none] [] e M120 (im_ri (fun x138 e137 M136 => im_T g (d - 1) 22 0 [some (.ref 7)] [] e137 M136 (im_r0 (fun  e_ M139 => e137 = e_ ∧ (im_i32 x138) ∧ ((¬ x138 = 1 → K (.inl (some (vI x138))) e137 M139) ∧ (x138 = 1 → im_T g (d - 1) 246 0 [some (.ref 1793), some (.ref 7), none, none] [] e137 M139 (im_r0 (fun  e_ M142 => e137 = e_ ∧ K (.inl (some (vI x138))) e137 M142))))))))))))))) ∧ (¬ x86 = 0 → K (.inl (some (vI (-11)))) e M85)))))))) (fun E_ e_ M_ => K (.inr E_) e_ M_)))))) (fun E_ e_ M_ => K (.inr E_) e_ M_)))))) (fun E_ e_ M_ => K (.inr E_) e_ M_)))) (fun E_ e_ M_ => K (.inr E_) e_ M_))) : im_T g d 237 0 [some (.ref 0), some (vI p1), some (vI p2), some (vI p3), some (vI p4), none] [] e M K := by
  refine im_ld (q := 1) (i := 0) D237_0 rfl rfl rfl ?_
  refine im_callV (q := 4) (kd := 1) (y := 152) (n := 0) (ci := 11) (a := 0) (vs := [.ref 0]) (r := []) (L2 := [some (.ref 0)]) D237_1 (im_cal cn_237 cl_11_124) (Or.inl rfl) rfl sf_0 rfl rfl rfl rfl hd ⟨rfl, trivial⟩ ?_
  refine hP.mono ?_
  rintro _ e543 M1 (⟨rfl, rfl, hP⟩ | ⟨E_, rfl, hX⟩)
  · refine im_bkN ?_
    refine im_ld (q := 5) (i := 1) D237_4 rfl rfl rfl ?_
    refine im_bipush (q := 7) D237_5 rfl ?_
    refine im_callS (q := 10) (kd := 0) (y := 169) (n := 2) (z := 11) (vs := [vI p1, vI 16]) (r := []) (L2 := [some (vI p1), some (vI 16)]) D237_7 rfl (im_cal cn_237 cl_11_183) (Or.inl rfl) rfl rfl rfl rfl rfl hd ⟨rfl, rfl, trivial⟩ ?_
    refine hP.mono ?_
    rintro _ e542 M2 (⟨rfl, rfl, hP⟩ | ⟨E_, rfl, hX⟩)
    · refine im_bkN ?_
      refine im_ld (q := 11) (i := 3) D237_10 rfl rfl rfl ?_
      refine im_iconst (q := 12) D237_11 ?_
      obtain ⟨hg3, hP⟩ := hP
      obtain ⟨hP, hJ9⟩ := hP
      have kJ10 : (((p3 < 1)) ∨ ((1 ≤ p3) ∧ (31 < p3)) ∨ ((1 ≤ p3) ∧ (p3 ≤ 31) ∧ (p4 < 0)) ∨ ((1 ≤ p3) ∧ (p3 ≤ 31) ∧ (0 ≤ p4) ∧ (400 < p4))) → im_T g d 237 38 [some (.ref 0), some (vI p1), some (vI p2), some (vI p3), some (vI p4), none] [] e M2 K := by
        intro  hx11
        have hP := hJ9  hx11
        refine im_iconst (q := 39) D237_38 ?_
        refine im_callS (q := 42) (kd := 0) (y := 168) (n := 1) (z := 11) (vs := [vI 0]) (r := []) (L2 := [some (vI 0)]) D237_39 rfl (im_cal cn_237 cl_11_195) (Or.inl rfl) rfl rfl rfl rfl rfl hd ⟨rfl, trivial⟩ ?_
        refine hP.mono ?_
        rintro _ e276 M12 (⟨rfl, rfl, hP⟩ | ⟨E_, rfl, hX⟩)
        · refine im_bkN ?_
          refine im_ld (q := 43) (i := 2) D237_42 rfl rfl rfl ?_
          obtain ⟨hg13, hP⟩ := hP
          obtain ⟨hP, hJ19⟩ := hP
          have kJ20 : ∀ x18 : Int, (((¬ p2 = 0) ∧ ((M12 28 p1) = (-1)) ∧ x18 = 0) ∨ ((¬ p2 = 0) ∧ (¬ (M12 28 p1) = (-1)) ∧ x18 = 1)) → im_T g d 237 73 [some (.ref 0), some (vI p1), some (vI p2), some (vI p3), some (vI p4), none] [vI x18] e M12 K := by
            intro x18 hx21
            have hP := hJ19 x18 hx21
            refine im_callS (q := 76) (kd := 0) (y := 167) (n := 1) (z := 11) (vs := [vI x18]) (r := []) (L2 := [some (vI x18)]) D237_73 rfl (im_cal cn_237 cl_11_187) (Or.inl rfl) rfl rfl rfl rfl rfl hd ⟨rfl, trivial⟩ ?_
            refine hP.mono ?_
            rintro _ e147 M22 (⟨rfl, rfl, hP⟩ | ⟨E_, rfl, hX⟩)
            · refine im_bkN ?_
              refine im_ld (q := 77) (i := 2) D237_76 rfl rfl rfl ?_
              refine im_ifc (q := 80) (t := 103) D237_77 rfl hg13 (fun hc23 => ?_) (fun hc23 => ?_)
              · replace hP := hP.1 hc23
                refine im_ld (q := 104) (i := 2) D237_103 rfl rfl rfl ?_
                refine im_ifc (q := 107) (t := 124) D237_104 rfl hg13 (fun hc26 => ?_) (fun hc26 => ?_)
                · replace hP := hP.1 hc26
                  refine im_ld (q := 125) (i := 0) D237_124 rfl rfl rfl ?_
                  refine im_gfR (q := 128) (b := 666) D237_125 (im_fl cn_237 fl_11_88) sf_0 rfl rfl tR_11_14 rfl ?_
                  refine im_ld (q := 129) (i := 0) D237_128 rfl rfl rfl ?_
                  refine im_gfR (q := 132) (b := 29) D237_129 (im_fl cn_237 fl_11_55) sf_0 rfl rfl tR_11_7 rfl ?_
                  refine im_ld (q := 133) (i := 1) D237_132 rfl rfl rfl ?_
                  obtain ⟨hg29, hP⟩ := hP
                  obtain ⟨b30, hb31, hP⟩ := hP
                  obtain ⟨hb32, hP⟩ := hP
                  refine im_aald (q := 134) D237_133 sf_29 (Or.inr rfl) hg29.1 hg29.2 (by decide) hb31 ?_
                  refine im_callV (q := 137) (kd := 1) (y := 107) (n := 1) (ci := 9) (a := 666) (vs := [.ref 666, .ref b30]) (r := []) (L2 := [some (.ref 666), some (.ref b30)]) D237_134 (im_cal cn_237 cl_11_337) (Or.inl rfl) rfl sf_666 rfl rfl rfl rfl hd ⟨rfl, rfl, trivial⟩ ?_
                  refine hP.mono ?_
                  rintro _ e58 M33 ⟨rfl, rfl, hP⟩
                  refine im_bkN ?_
                  refine im_ld (q := 138) (i := 0) D237_137 rfl rfl rfl ?_
                  refine im_gfR (q := 141) (b := 1793) D237_138 (im_fl cn_237 fl_11_106) sf_0 rfl rfl tR_11_16 rfl ?_
                  refine im_ld (q := 142) (i := 0) D237_141 rfl rfl rfl ?_
                  refine im_gfR (q := 145) (b := 666) D237_142 (im_fl cn_237 fl_11_88) sf_0 rfl rfl tR_11_14 rfl ?_
                  refine im_ld (q := 146) (i := 2) D237_145 rfl rfl rfl ?_
                  refine im_ifc (q := 149) (t := 156) D237_146 rfl hg13 (fun hc34 => ?_) (fun hc34 => ?_)
                  · replace hP := hP.1 hc34
                    refine im_ld (q := 157) (i := 0) D237_156 rfl rfl rfl ?_
                    refine im_gfR (q := 160) (b := 29) D237_157 (im_fl cn_237 fl_11_55) sf_0 rfl rfl tR_11_7 rfl ?_
                    refine im_ld (q := 161) (i := 1) D237_160 rfl rfl rfl ?_
                    obtain ⟨b35, hb36, hP⟩ := hP
                    obtain ⟨hb37, hP⟩ := hP
                    refine im_aald (q := 162) D237_161 sf_29 (Or.inr rfl) hg29.1 hg29.2 (by decide) hb36 ?_
                    obtain ⟨n38, hb39, hP⟩ := hP
                    refine im_gfR (q := 165) (b := (b35 + 259)) D237_162 (im_fl cn_237 fl_11_326) hb37.1 rfl rfl tR_9_3 rfl ?_
                    refine im_ld (q := 166) (i := 3) D237_165 rfl rfl rfl ?_
                    refine im_ld (q := 168) (i := 4) D237_166 rfl rfl rfl ?_
                    refine im_callV (q := 171) (kd := 1) (y := 238) (n := 4) (ci := 8) (a := 1793) (vs := [.ref 1793, .ref 666, .ref (b35 + 259), vI p3, vI p4]) (r := []) (L2 := [some (.ref 1793), some (.ref 666), some (.ref (b35 + 259)), some (vI p3), some (vI p4), none, none, none, none]) D237_168 (im_cal cn_237 cl_11_395) (Or.inl rfl) rfl sf_1793 rfl rfl rfl rfl hd ⟨rfl, rfl, rfl, rfl, rfl, trivial⟩ ?_
                    refine hP.mono ?_
                    rintro _ e41 M40 ⟨x42, rfl, hP⟩
                    refine im_bkS ?_
                    refine im_st1 (q := 173) (i := 5) (L' := [some (.ref 0), some (vI p1), some (vI p2), some (vI p3), some (vI p4), some (vI x42)]) D237_171 (Or.inr rfl) (Nat.le_of_ble_eq_true rfl) rfl ?_
                    refine im_ld (q := 174) (i := 0) D237_173 rfl rfl rfl ?_
                    refine im_gfR (q := 177) (b := 7) D237_174 (im_fl cn_237 fl_11_29) sf_0 rfl rfl tR_11_3 rfl ?_
                    refine im_callV (q := 180) (kd := 1) (y := 22) (n := 0) (ci := 10) (a := 7) (vs := [.ref 7]) (r := []) (L2 := [some (.ref 7)]) D237_177 (im_cal cn_237 cl_11_155) (Or.inl rfl) rfl sf_7 rfl rfl rfl rfl hd ⟨rfl, trivial⟩ ?_
                    refine hP.mono ?_
                    rintro _ e48 M43 ⟨rfl, rfl, hP⟩
                    refine im_bkN ?_
                    refine im_ld (q := 182) (i := 5) D237_180 rfl rfl rfl ?_
                    refine im_iconst (q := 183) D237_182 ?_
                    obtain ⟨hg44, hP⟩ := hP
                    refine im_icmp (q := 186) (t := 197) D237_183 rfl hg44 (by decide) (fun hc45 => ?_) (fun hc45 => ?_)
                    · replace hP := hP.1 hc45
                      refine im_ld (q := 199) (i := 5) D237_197 rfl rfl rfl ?_
                      exact im_iret (q := 200) D237_199 rfl hP
                    · replace hP := hP.2 (Decidable.not_not.mp hc45)
                      refine im_ld (q := 187) (i := 0) D237_186 rfl rfl rfl ?_
                      refine im_gfR (q := 190) (b := 1793) D237_187 (im_fl cn_237 fl_11_106) sf_0 rfl rfl tR_11_16 rfl ?_
                      refine im_ld (q := 191) (i := 0) D237_190 rfl rfl rfl ?_
                      refine im_gfR (q := 194) (b := 7) D237_191 (im_fl cn_237 fl_11_29) sf_0 rfl rfl tR_11_3 rfl ?_
                      refine im_callV (q := 197) (kd := 1) (y := 246) (n := 1) (ci := 8) (a := 1793) (vs := [.ref 1793, .ref 7]) (r := []) (L2 := [some (.ref 1793), some (.ref 7), none, none]) D237_194 (im_cal cn_237 cl_11_398) (Or.inl rfl) rfl sf_1793 rfl rfl rfl rfl hd ⟨rfl, rfl, trivial⟩ ?_
                      refine hP.mono ?_
                      rintro _ e47 M46 ⟨rfl, rfl, hP⟩
                      refine im_bkN ?_
                      refine im_ld (q := 199) (i := 5) D237_197 rfl rfl rfl ?_
                      exact im_iret (q := 200) D237_199 rfl hP
                  · replace hP := hP.2 hc34
                    refine im_ld (q := 150) (i := 0) D237_149 rfl rfl rfl ?_
                    refine im_gfR (q := 153) (b := 30) D237_150 (im_fl cn_237 fl_11_64) sf_0 rfl rfl tR_11_8 rfl ?_
                    refine im_goto (q := 156) (t := 165) D237_153 rfl ?_
                    refine im_ld (q := 166) (i := 3) D237_165 rfl rfl rfl ?_
                    refine im_ld (q := 168) (i := 4) D237_166 rfl rfl rfl ?_
                    refine im_callV (q := 171) (kd := 1) (y := 238) (n := 4) (ci := 8) (a := 1793) (vs := [.ref 1793, .ref 666, .ref 30, vI p3, vI p4]) (r := []) (L2 := [some (.ref 1793), some (.ref 666), some (.ref 30), some (vI p3), some (vI p4), none, none, none, none]) D237_168 (im_cal cn_237 cl_11_395) (Or.inl rfl) rfl sf_1793 rfl rfl rfl rfl hd ⟨rfl, rfl, rfl, rfl, rfl, trivial⟩ ?_
                    refine hP.mono ?_
                    rintro _ e50 M49 ⟨x51, rfl, hP⟩
                    refine im_bkS ?_
                    refine im_st1 (q := 173) (i := 5) (L' := [some (.ref 0), some (vI p1), some (vI p2), some (vI p3), some (vI p4), some (vI x51)]) D237_171 (Or.inr rfl) (Nat.le_of_ble_eq_true rfl) rfl ?_
                    refine im_ld (q := 174) (i := 0) D237_173 rfl rfl rfl ?_
                    refine im_gfR (q := 177) (b := 7) D237_174 (im_fl cn_237 fl_11_29) sf_0 rfl rfl tR_11_3 rfl ?_
                    refine im_callV (q := 180) (kd := 1) (y := 22) (n := 0) (ci := 10) (a := 7) (vs := [.ref 7]) (r := []) (L2 := [some (.ref 7)]) D237_177 (im_cal cn_237 cl_11_155) (Or.inl rfl) rfl sf_7 rfl rfl rfl rfl hd ⟨rfl, trivial⟩ ?_
                    refine hP.mono ?_
                    rintro _ e57 M52 ⟨rfl, rfl, hP⟩
                    refine im_bkN ?_
                    refine im_ld (q := 182) (i := 5) D237_180 rfl rfl rfl ?_
                    refine im_iconst (q := 183) D237_182 ?_
                    obtain ⟨hg53, hP⟩ := hP
                    refine im_icmp (q := 186) (t := 197) D237_183 rfl hg53 (by decide) (fun hc54 => ?_) (fun hc54 => ?_)
                    · replace hP := hP.1 hc54
                      refine im_ld (q := 199) (i := 5) D237_197 rfl rfl rfl ?_
                      exact im_iret (q := 200) D237_199 rfl hP
                    · replace hP := hP.2 (Decidable.not_not.mp hc54)
                      refine im_ld (q := 187) (i := 0) D237_186 rfl rfl rfl ?_
                      refine im_gfR (q := 190) (b := 1793) D237_187 (im_fl cn_237 fl_11_106) sf_0 rfl rfl tR_11_16 rfl ?_
                      refine im_ld (q := 191) (i := 0) D237_190 rfl rfl rfl ?_
                      refine im_gfR (q := 194) (b := 7) D237_191 (im_fl cn_237 fl_11_29) sf_0 rfl rfl tR_11_3 rfl ?_
                      refine im_callV (q := 197) (kd := 1) (y := 246) (n := 1) (ci := 8) (a := 1793) (vs := [.ref 1793, .ref 7]) (r := []) (L2 := [some (.ref 1793), some (.ref 7), none, none]) D237_194 (im_cal cn_237 cl_11_398) (Or.inl rfl) rfl sf_1793 rfl rfl rfl rfl hd ⟨rfl, rfl, trivial⟩ ?_
                      refine hP.mono ?_
                      rintro _ e56 M55 ⟨rfl, rfl, hP⟩
                      refine im_bkN ?_
                      refine im_ld (q := 199) (i := 5) D237_197 rfl rfl rfl ?_
                      exact im_iret (q := 200) D237_199 rfl hP
                · replace hP := hP.2 hc26
                  refine im_ld (q := 108) (i := 0) D237_107 rfl rfl rfl ?_
                  refine im_gfR (q := 111) (b := 666) D237_108 (im_fl cn_237 fl_11_88) sf_0 rfl rfl tR_11_14 rfl ?_
                  refine im_ld (q := 112) (i := 0) D237_111 rfl rfl rfl ?_
                  refine im_gfR (q := 115) (b := 28) D237_112 (im_fl cn_237 fl_11_49) sf_0 rfl rfl tR_11_6 rfl ?_
                  refine im_ld (q := 116) (i := 1) D237_115 rfl rfl rfl ?_
                  obtain ⟨hg27, hP⟩ := hP
                  refine im_rng (j := p1) sf_28 hg27.1 hg27.2 (fun hr28 => ?_)
                  refine im_iald (q := 117) D237_116 sf_28 hg27.1 hg27.2 (by decide) rfl ?_
                  refine im_lconst (q := 118) (z := 0) D237_117 rfl ?_
                  refine im_callV (q := 121) (kd := 1) (y := 90) (n := 2) (ci := 9) (a := 666) (vs := [.ref 666, vI (M22 28 p1), vL 0]) (r := []) (L2 := [some (.ref 666), some (vI (M22 28 p1)), some (vL 0), none]) D237_118 (im_cal cn_237 cl_11_322) (Or.inl rfl) rfl sf_666 rfl rfl rfl rfl hd ⟨rfl, rfl, rfl, trivial⟩ ?_
                  refine hP.mono ?_
                  rintro _ e84 M59 ⟨rfl, rfl, hP⟩
                  refine im_bkN ?_
                  refine im_goto (q := 124) (t := 137) D237_121 rfl ?_
                  refine im_ld (q := 138) (i := 0) D237_137 rfl rfl rfl ?_
                  refine im_gfR (q := 141) (b := 1793) D237_138 (im_fl cn_237 fl_11_106) sf_0 rfl rfl tR_11_16 rfl ?_
                  refine im_ld (q := 142) (i := 0) D237_141 rfl rfl rfl ?_
                  refine im_gfR (q := 145) (b := 666) D237_142 (im_fl cn_237 fl_11_88) sf_0 rfl rfl tR_11_14 rfl ?_
                  refine im_ld (q := 146) (i := 2) D237_145 rfl rfl rfl ?_
                  refine im_ifc (q := 149) (t := 156) D237_146 rfl hg13 (fun hc60 => ?_) (fun hc60 => ?_)
                  · replace hP := hP.1 hc60
                    refine im_ld (q := 157) (i := 0) D237_156 rfl rfl rfl ?_
                    refine im_gfR (q := 160) (b := 29) D237_157 (im_fl cn_237 fl_11_55) sf_0 rfl rfl tR_11_7 rfl ?_
                    refine im_ld (q := 161) (i := 1) D237_160 rfl rfl rfl ?_
                    obtain ⟨b61, hb62, hP⟩ := hP
                    obtain ⟨hb63, hP⟩ := hP
                    refine im_aald (q := 162) D237_161 sf_29 (Or.inr rfl) hg27.1 hg27.2 (by decide) hb62 ?_
                    obtain ⟨n64, hb65, hP⟩ := hP
                    refine im_gfR (q := 165) (b := (b61 + 259)) D237_162 (im_fl cn_237 fl_11_326) hb63.1 rfl rfl tR_9_3 rfl ?_
                    refine im_ld (q := 166) (i := 3) D237_165 rfl rfl rfl ?_
                    refine im_ld (q := 168) (i := 4) D237_166 rfl rfl rfl ?_
                    refine im_callV (q := 171) (kd := 1) (y := 238) (n := 4) (ci := 8) (a := 1793) (vs := [.ref 1793, .ref 666, .ref (b61 + 259), vI p3, vI p4]) (r := []) (L2 := [some (.ref 1793), some (.ref 666), some (.ref (b61 + 259)), some (vI p3), some (vI p4), none, none, none, none]) D237_168 (im_cal cn_237 cl_11_395) (Or.inl rfl) rfl sf_1793 rfl rfl rfl rfl hd ⟨rfl, rfl, rfl, rfl, rfl, trivial⟩ ?_
                    refine hP.mono ?_
                    rintro _ e67 M66 ⟨x68, rfl, hP⟩
                    refine im_bkS ?_
                    refine im_st1 (q := 173) (i := 5) (L' := [some (.ref 0), some (vI p1), some (vI p2), some (vI p3), some (vI p4), some (vI x68)]) D237_171 (Or.inr rfl) (Nat.le_of_ble_eq_true rfl) rfl ?_
                    refine im_ld (q := 174) (i := 0) D237_173 rfl rfl rfl ?_
                    refine im_gfR (q := 177) (b := 7) D237_174 (im_fl cn_237 fl_11_29) sf_0 rfl rfl tR_11_3 rfl ?_
                    refine im_callV (q := 180) (kd := 1) (y := 22) (n := 0) (ci := 10) (a := 7) (vs := [.ref 7]) (r := []) (L2 := [some (.ref 7)]) D237_177 (im_cal cn_237 cl_11_155) (Or.inl rfl) rfl sf_7 rfl rfl rfl rfl hd ⟨rfl, trivial⟩ ?_
                    refine hP.mono ?_
                    rintro _ e74 M69 ⟨rfl, rfl, hP⟩
                    refine im_bkN ?_
                    refine im_ld (q := 182) (i := 5) D237_180 rfl rfl rfl ?_
                    refine im_iconst (q := 183) D237_182 ?_
                    obtain ⟨hg70, hP⟩ := hP
                    refine im_icmp (q := 186) (t := 197) D237_183 rfl hg70 (by decide) (fun hc71 => ?_) (fun hc71 => ?_)
                    · replace hP := hP.1 hc71
                      refine im_ld (q := 199) (i := 5) D237_197 rfl rfl rfl ?_
                      exact im_iret (q := 200) D237_199 rfl hP
                    · replace hP := hP.2 (Decidable.not_not.mp hc71)
                      refine im_ld (q := 187) (i := 0) D237_186 rfl rfl rfl ?_
                      refine im_gfR (q := 190) (b := 1793) D237_187 (im_fl cn_237 fl_11_106) sf_0 rfl rfl tR_11_16 rfl ?_
                      refine im_ld (q := 191) (i := 0) D237_190 rfl rfl rfl ?_
                      refine im_gfR (q := 194) (b := 7) D237_191 (im_fl cn_237 fl_11_29) sf_0 rfl rfl tR_11_3 rfl ?_
                      refine im_callV (q := 197) (kd := 1) (y := 246) (n := 1) (ci := 8) (a := 1793) (vs := [.ref 1793, .ref 7]) (r := []) (L2 := [some (.ref 1793), some (.ref 7), none, none]) D237_194 (im_cal cn_237 cl_11_398) (Or.inl rfl) rfl sf_1793 rfl rfl rfl rfl hd ⟨rfl, rfl, trivial⟩ ?_
                      refine hP.mono ?_
                      rintro _ e73 M72 ⟨rfl, rfl, hP⟩
                      refine im_bkN ?_
                      refine im_ld (q := 199) (i := 5) D237_197 rfl rfl rfl ?_
                      exact im_iret (q := 200) D237_199 rfl hP
                  · replace hP := hP.2 hc60
                    refine im_ld (q := 150) (i := 0) D237_149 rfl rfl rfl ?_
                    refine im_gfR (q := 153) (b := 30) D237_150 (im_fl cn_237 fl_11_64) sf_0 rfl rfl tR_11_8 rfl ?_
                    refine im_goto (q := 156) (t := 165) D237_153 rfl ?_
                    refine im_ld (q := 166) (i := 3) D237_165 rfl rfl rfl ?_
                    refine im_ld (q := 168) (i := 4) D237_166 rfl rfl rfl ?_
                    refine im_callV (q := 171) (kd := 1) (y := 238) (n := 4) (ci := 8) (a := 1793) (vs := [.ref 1793, .ref 666, .ref 30, vI p3, vI p4]) (r := []) (L2 := [some (.ref 1793), some (.ref 666), some (.ref 30), some (vI p3), some (vI p4), none, none, none, none]) D237_168 (im_cal cn_237 cl_11_395) (Or.inl rfl) rfl sf_1793 rfl rfl rfl rfl hd ⟨rfl, rfl, rfl, rfl, rfl, trivial⟩ ?_
                    refine hP.mono ?_
                    rintro _ e76 M75 ⟨x77, rfl, hP⟩
                    refine im_bkS ?_
                    refine im_st1 (q := 173) (i := 5) (L' := [some (.ref 0), some (vI p1), some (vI p2), some (vI p3), some (vI p4), some (vI x77)]) D237_171 (Or.inr rfl) (Nat.le_of_ble_eq_true rfl) rfl ?_
                    refine im_ld (q := 174) (i := 0) D237_173 rfl rfl rfl ?_
                    refine im_gfR (q := 177) (b := 7) D237_174 (im_fl cn_237 fl_11_29) sf_0 rfl rfl tR_11_3 rfl ?_
                    refine im_callV (q := 180) (kd := 1) (y := 22) (n := 0) (ci := 10) (a := 7) (vs := [.ref 7]) (r := []) (L2 := [some (.ref 7)]) D237_177 (im_cal cn_237 cl_11_155) (Or.inl rfl) rfl sf_7 rfl rfl rfl rfl hd ⟨rfl, trivial⟩ ?_
                    refine hP.mono ?_
                    rintro _ e83 M78 ⟨rfl, rfl, hP⟩
                    refine im_bkN ?_
                    refine im_ld (q := 182) (i := 5) D237_180 rfl rfl rfl ?_
                    refine im_iconst (q := 183) D237_182 ?_
                    obtain ⟨hg79, hP⟩ := hP
                    refine im_icmp (q := 186) (t := 197) D237_183 rfl hg79 (by decide) (fun hc80 => ?_) (fun hc80 => ?_)
                    · replace hP := hP.1 hc80
                      refine im_ld (q := 199) (i := 5) D237_197 rfl rfl rfl ?_
                      exact im_iret (q := 200) D237_199 rfl hP
                    · replace hP := hP.2 (Decidable.not_not.mp hc80)
                      refine im_ld (q := 187) (i := 0) D237_186 rfl rfl rfl ?_
                      refine im_gfR (q := 190) (b := 1793) D237_187 (im_fl cn_237 fl_11_106) sf_0 rfl rfl tR_11_16 rfl ?_
                      refine im_ld (q := 191) (i := 0) D237_190 rfl rfl rfl ?_
                      refine im_gfR (q := 194) (b := 7) D237_191 (im_fl cn_237 fl_11_29) sf_0 rfl rfl tR_11_3 rfl ?_
                      refine im_callV (q := 197) (kd := 1) (y := 246) (n := 1) (ci := 8) (a := 1793) (vs := [.ref 1793, .ref 7]) (r := []) (L2 := [some (.ref 1793), some (.ref 7), none, none]) D237_194 (im_cal cn_237 cl_11_398) (Or.inl rfl) rfl sf_1793 rfl rfl rfl rfl hd ⟨rfl, rfl, trivial⟩ ?_
                      refine hP.mono ?_
                      rintro _ e82 M81 ⟨rfl, rfl, hP⟩
                      refine im_bkN ?_
                      refine im_ld (q := 199) (i := 5) D237_197 rfl rfl rfl ?_
                      exact im_iret (q := 200) D237_199 rfl hP
              · replace hP := hP.2 hc23
                refine im_ld (q := 81) (i := 0) D237_80 rfl rfl rfl ?_
                refine im_gfR (q := 84) (b := 13) D237_81 (im_fl cn_237 fl_11_36) sf_0 rfl rfl tR_11_4 rfl ?_
                refine im_ld (q := 85) (i := 0) D237_84 rfl rfl rfl ?_
                refine im_gfR (q := 88) (b := 28) D237_85 (im_fl cn_237 fl_11_49) sf_0 rfl rfl tR_11_6 rfl ?_
                refine im_ld (q := 89) (i := 1) D237_88 rfl rfl rfl ?_
                obtain ⟨hg24, hP⟩ := hP
                refine im_rng (j := p1) sf_28 hg24.1 hg24.2 (fun hr25 => ?_)
                refine im_iald (q := 90) D237_89 sf_28 hg24.1 hg24.2 (by decide) rfl ?_
                refine im_ld (q := 91) (i := 0) D237_90 rfl rfl rfl ?_
                refine im_gfR (q := 94) (b := 30) D237_91 (im_fl cn_237 fl_11_64) sf_0 rfl rfl tR_11_8 rfl ?_
                refine im_callV (q := 97) (kd := 1) (y := 86) (n := 2) (ci := 5) (a := 13) (vs := [.ref 13, vI (M22 28 p1), .ref 30]) (r := []) (L2 := [some (.ref 13), some (vI (M22 28 p1)), some (.ref 30), none, none, none]) D237_94 (im_cal cn_237 cl_11_318) (Or.inl rfl) rfl sf_13 rfl rfl rfl rfl hd ⟨rfl, rfl, rfl, trivial⟩ ?_
                refine hP.mono ?_
                rintro _ e146 M85 ⟨x86, rfl, rfl, hP⟩
                refine im_bkS ?_
                obtain ⟨hg87, hP⟩ := hP
                refine im_ifc (q := 100) (t := 103) D237_97 rfl hg87 (fun hc88 => ?_) (fun hc88 => ?_)
                · replace hP := hP.1 hc88
                  refine im_ld (q := 104) (i := 2) D237_103 rfl rfl rfl ?_
                  refine im_ifc (q := 107) (t := 124) D237_104 rfl hg13 (fun hc89 => ?_) (fun hc89 => ?_)
                  · replace hP := hP.1 hc89
                    refine im_ld (q := 125) (i := 0) D237_124 rfl rfl rfl ?_
                    refine im_gfR (q := 128) (b := 666) D237_125 (im_fl cn_237 fl_11_88) sf_0 rfl rfl tR_11_14 rfl ?_
                    refine im_ld (q := 129) (i := 0) D237_128 rfl rfl rfl ?_
                    refine im_gfR (q := 132) (b := 29) D237_129 (im_fl cn_237 fl_11_55) sf_0 rfl rfl tR_11_7 rfl ?_
                    refine im_ld (q := 133) (i := 1) D237_132 rfl rfl rfl ?_
                    obtain ⟨b91, hb92, hP⟩ := hP
                    obtain ⟨hb93, hP⟩ := hP
                    refine im_aald (q := 134) D237_133 sf_29 (Or.inr rfl) hg24.1 hg24.2 (by decide) hb92 ?_
                    refine im_callV (q := 137) (kd := 1) (y := 107) (n := 1) (ci := 9) (a := 666) (vs := [.ref 666, .ref b91]) (r := []) (L2 := [some (.ref 666), some (.ref b91)]) D237_134 (im_cal cn_237 cl_11_337) (Or.inl rfl) rfl sf_666 rfl rfl rfl rfl hd ⟨rfl, rfl, trivial⟩ ?_
                    refine hP.mono ?_
                    rintro _ e119 M94 ⟨rfl, rfl, hP⟩
                    refine im_bkN ?_
                    refine im_ld (q := 138) (i := 0) D237_137 rfl rfl rfl ?_
                    refine im_gfR (q := 141) (b := 1793) D237_138 (im_fl cn_237 fl_11_106) sf_0 rfl rfl tR_11_16 rfl ?_
                    refine im_ld (q := 142) (i := 0) D237_141 rfl rfl rfl ?_
                    refine im_gfR (q := 145) (b := 666) D237_142 (im_fl cn_237 fl_11_88) sf_0 rfl rfl tR_11_14 rfl ?_
                    refine im_ld (q := 146) (i := 2) D237_145 rfl rfl rfl ?_
                    refine im_ifc (q := 149) (t := 156) D237_146 rfl hg13 (fun hc95 => ?_) (fun hc95 => ?_)
                    · replace hP := hP.1 hc95
                      refine im_ld (q := 157) (i := 0) D237_156 rfl rfl rfl ?_
                      refine im_gfR (q := 160) (b := 29) D237_157 (im_fl cn_237 fl_11_55) sf_0 rfl rfl tR_11_7 rfl ?_
                      refine im_ld (q := 161) (i := 1) D237_160 rfl rfl rfl ?_
                      obtain ⟨b96, hb97, hP⟩ := hP
                      obtain ⟨hb98, hP⟩ := hP
                      refine im_aald (q := 162) D237_161 sf_29 (Or.inr rfl) hg24.1 hg24.2 (by decide) hb97 ?_
                      obtain ⟨n99, hb100, hP⟩ := hP
                      refine im_gfR (q := 165) (b := (b96 + 259)) D237_162 (im_fl cn_237 fl_11_326) hb98.1 rfl rfl tR_9_3 rfl ?_
                      refine im_ld (q := 166) (i := 3) D237_165 rfl rfl rfl ?_
                      refine im_ld (q := 168) (i := 4) D237_166 rfl rfl rfl ?_
                      refine im_callV (q := 171) (kd := 1) (y := 238) (n := 4) (ci := 8) (a := 1793) (vs := [.ref 1793, .ref 666, .ref (b96 + 259), vI p3, vI p4]) (r := []) (L2 := [some (.ref 1793), some (.ref 666), some (.ref (b96 + 259)), some (vI p3), some (vI p4), none, none, none, none]) D237_168 (im_cal cn_237 cl_11_395) (Or.inl rfl) rfl sf_1793 rfl rfl rfl rfl hd ⟨rfl, rfl, rfl, rfl, rfl, trivial⟩ ?_
                      refine hP.mono ?_
                      rintro _ e102 M101 ⟨x103, rfl, hP⟩
                      refine im_bkS ?_
                      refine im_st1 (q := 173) (i := 5) (L' := [some (.ref 0), some (vI p1), some (vI p2), some (vI p3), some (vI p4), some (vI x103)]) D237_171 (Or.inr rfl) (Nat.le_of_ble_eq_true rfl) rfl ?_
                      refine im_ld (q := 174) (i := 0) D237_173 rfl rfl rfl ?_
                      refine im_gfR (q := 177) (b := 7) D237_174 (im_fl cn_237 fl_11_29) sf_0 rfl rfl tR_11_3 rfl ?_
                      refine im_callV (q := 180) (kd := 1) (y := 22) (n := 0) (ci := 10) (a := 7) (vs := [.ref 7]) (r := []) (L2 := [some (.ref 7)]) D237_177 (im_cal cn_237 cl_11_155) (Or.inl rfl) rfl sf_7 rfl rfl rfl rfl hd ⟨rfl, trivial⟩ ?_
                      refine hP.mono ?_
                      rintro _ e109 M104 ⟨rfl, rfl, hP⟩
                      refine im_bkN ?_
                      refine im_ld (q := 182) (i := 5) D237_180 rfl rfl rfl ?_
                      refine im_iconst (q := 183) D237_182 ?_
                      obtain ⟨hg105, hP⟩ := hP
                      refine im_icmp (q := 186) (t := 197) D237_183 rfl hg105 (by decide) (fun hc106 => ?_) (fun hc106 => ?_)
                      · replace hP := hP.1 hc106
                        refine im_ld (q := 199) (i := 5) D237_197 rfl rfl rfl ?_
                        exact im_iret (q := 200) D237_199 rfl hP
                      · replace hP := hP.2 (Decidable.not_not.mp hc106)
                        refine im_ld (q := 187) (i := 0) D237_186 rfl rfl rfl ?_
                        refine im_gfR (q := 190) (b := 1793) D237_187 (im_fl cn_237 fl_11_106) sf_0 rfl rfl tR_11_16 rfl ?_
                        refine im_ld (q := 191) (i := 0) D237_190 rfl rfl rfl ?_
                        refine im_gfR (q := 194) (b := 7) D237_191 (im_fl cn_237 fl_11_29) sf_0 rfl rfl tR_11_3 rfl ?_
                        refine im_callV (q := 197) (kd := 1) (y := 246) (n := 1) (ci := 8) (a := 1793) (vs := [.ref 1793, .ref 7]) (r := []) (L2 := [some (.ref 1793), some (.ref 7), none, none]) D237_194 (im_cal cn_237 cl_11_398) (Or.inl rfl) rfl sf_1793 rfl rfl rfl rfl hd ⟨rfl, rfl, trivial⟩ ?_
                        refine hP.mono ?_
                        rintro _ e108 M107 ⟨rfl, rfl, hP⟩
                        refine im_bkN ?_
                        refine im_ld (q := 199) (i := 5) D237_197 rfl rfl rfl ?_
                        exact im_iret (q := 200) D237_199 rfl hP
                    · replace hP := hP.2 hc95
                      refine im_ld (q := 150) (i := 0) D237_149 rfl rfl rfl ?_
                      refine im_gfR (q := 153) (b := 30) D237_150 (im_fl cn_237 fl_11_64) sf_0 rfl rfl tR_11_8 rfl ?_
                      refine im_goto (q := 156) (t := 165) D237_153 rfl ?_
                      refine im_ld (q := 166) (i := 3) D237_165 rfl rfl rfl ?_
                      refine im_ld (q := 168) (i := 4) D237_166 rfl rfl rfl ?_
                      refine im_callV (q := 171) (kd := 1) (y := 238) (n := 4) (ci := 8) (a := 1793) (vs := [.ref 1793, .ref 666, .ref 30, vI p3, vI p4]) (r := []) (L2 := [some (.ref 1793), some (.ref 666), some (.ref 30), some (vI p3), some (vI p4), none, none, none, none]) D237_168 (im_cal cn_237 cl_11_395) (Or.inl rfl) rfl sf_1793 rfl rfl rfl rfl hd ⟨rfl, rfl, rfl, rfl, rfl, trivial⟩ ?_
                      refine hP.mono ?_
                      rintro _ e111 M110 ⟨x112, rfl, hP⟩
                      refine im_bkS ?_
                      refine im_st1 (q := 173) (i := 5) (L' := [some (.ref 0), some (vI p1), some (vI p2), some (vI p3), some (vI p4), some (vI x112)]) D237_171 (Or.inr rfl) (Nat.le_of_ble_eq_true rfl) rfl ?_
                      refine im_ld (q := 174) (i := 0) D237_173 rfl rfl rfl ?_
                      refine im_gfR (q := 177) (b := 7) D237_174 (im_fl cn_237 fl_11_29) sf_0 rfl rfl tR_11_3 rfl ?_
                      refine im_callV (q := 180) (kd := 1) (y := 22) (n := 0) (ci := 10) (a := 7) (vs := [.ref 7]) (r := []) (L2 := [some (.ref 7)]) D237_177 (im_cal cn_237 cl_11_155) (Or.inl rfl) rfl sf_7 rfl rfl rfl rfl hd ⟨rfl, trivial⟩ ?_
                      refine hP.mono ?_
                      rintro _ e118 M113 ⟨rfl, rfl, hP⟩
                      refine im_bkN ?_
                      refine im_ld (q := 182) (i := 5) D237_180 rfl rfl rfl ?_
                      refine im_iconst (q := 183) D237_182 ?_
                      obtain ⟨hg114, hP⟩ := hP
                      refine im_icmp (q := 186) (t := 197) D237_183 rfl hg114 (by decide) (fun hc115 => ?_) (fun hc115 => ?_)
                      · replace hP := hP.1 hc115
                        refine im_ld (q := 199) (i := 5) D237_197 rfl rfl rfl ?_
                        exact im_iret (q := 200) D237_199 rfl hP
                      · replace hP := hP.2 (Decidable.not_not.mp hc115)
                        refine im_ld (q := 187) (i := 0) D237_186 rfl rfl rfl ?_
                        refine im_gfR (q := 190) (b := 1793) D237_187 (im_fl cn_237 fl_11_106) sf_0 rfl rfl tR_11_16 rfl ?_
                        refine im_ld (q := 191) (i := 0) D237_190 rfl rfl rfl ?_
                        refine im_gfR (q := 194) (b := 7) D237_191 (im_fl cn_237 fl_11_29) sf_0 rfl rfl tR_11_3 rfl ?_
                        refine im_callV (q := 197) (kd := 1) (y := 246) (n := 1) (ci := 8) (a := 1793) (vs := [.ref 1793, .ref 7]) (r := []) (L2 := [some (.ref 1793), some (.ref 7), none, none]) D237_194 (im_cal cn_237 cl_11_398) (Or.inl rfl) rfl sf_1793 rfl rfl rfl rfl hd ⟨rfl, rfl, trivial⟩ ?_
                        refine hP.mono ?_
                        rintro _ e117 M116 ⟨rfl, rfl, hP⟩
                        refine im_bkN ?_
                        refine im_ld (q := 199) (i := 5) D237_197 rfl rfl rfl ?_
                        exact im_iret (q := 200) D237_199 rfl hP
                  · replace hP := hP.2 hc89
                    refine im_ld (q := 108) (i := 0) D237_107 rfl rfl rfl ?_
                    refine im_gfR (q := 111) (b := 666) D237_108 (im_fl cn_237 fl_11_88) sf_0 rfl rfl tR_11_14 rfl ?_
                    refine im_ld (q := 112) (i := 0) D237_111 rfl rfl rfl ?_
                    refine im_gfR (q := 115) (b := 28) D237_112 (im_fl cn_237 fl_11_49) sf_0 rfl rfl tR_11_6 rfl ?_
                    refine im_ld (q := 116) (i := 1) D237_115 rfl rfl rfl ?_
                    refine im_rng (j := p1) sf_28 hg24.1 hg24.2 (fun hr90 => ?_)
                    refine im_iald (q := 117) D237_116 sf_28 hg24.1 hg24.2 (by decide) rfl ?_
                    refine im_lconst (q := 118) (z := 0) D237_117 rfl ?_
                    refine im_callV (q := 121) (kd := 1) (y := 90) (n := 2) (ci := 9) (a := 666) (vs := [.ref 666, vI (M85 28 p1), vL 0]) (r := []) (L2 := [some (.ref 666), some (vI (M85 28 p1)), some (vL 0), none]) D237_118 (im_cal cn_237 cl_11_322) (Or.inl rfl) rfl sf_666 rfl rfl rfl rfl hd ⟨rfl, rfl, rfl, trivial⟩ ?_
                    refine hP.mono ?_
                    rintro _ e145 M120 ⟨rfl, rfl, hP⟩
                    refine im_bkN ?_
                    refine im_goto (q := 124) (t := 137) D237_121 rfl ?_
                    refine im_ld (q := 138) (i := 0) D237_137 rfl rfl rfl ?_
                    refine im_gfR (q := 141) (b := 1793) D237_138 (im_fl cn_237 fl_11_106) sf_0 rfl rfl tR_11_16 rfl ?_
                    refine im_ld (q := 142) (i := 0) D237_141 rfl rfl rfl ?_
                    refine im_gfR (q := 145) (b := 666) D237_142 (im_fl cn_237 fl_11_88) sf_0 rfl rfl tR_11_14 rfl ?_
                    refine im_ld (q := 146) (i := 2) D237_145 rfl rfl rfl ?_
                    refine im_ifc (q := 149) (t := 156) D237_146 rfl hg13 (fun hc121 => ?_) (fun hc121 => ?_)
                    · replace hP := hP.1 hc121
                      refine im_ld (q := 157) (i := 0) D237_156 rfl rfl rfl ?_
                      refine im_gfR (q := 160) (b := 29) D237_157 (im_fl cn_237 fl_11_55) sf_0 rfl rfl tR_11_7 rfl ?_
                      refine im_ld (q := 161) (i := 1) D237_160 rfl rfl rfl ?_
                      obtain ⟨b122, hb123, hP⟩ := hP
                      obtain ⟨hb124, hP⟩ := hP
                      refine im_aald (q := 162) D237_161 sf_29 (Or.inr rfl) hg24.1 hg24.2 (by decide) hb123 ?_
                      obtain ⟨n125, hb126, hP⟩ := hP
                      refine im_gfR (q := 165) (b := (b122 + 259)) D237_162 (im_fl cn_237 fl_11_326) hb124.1 rfl rfl tR_9_3 rfl ?_
                      refine im_ld (q := 166) (i := 3) D237_165 rfl rfl rfl ?_
                      refine im_ld (q := 168) (i := 4) D237_166 rfl rfl rfl ?_
                      refine im_callV (q := 171) (kd := 1) (y := 238) (n := 4) (ci := 8) (a := 1793) (vs := [.ref 1793, .ref 666, .ref (b122 + 259), vI p3, vI p4]) (r := []) (L2 := [some (.ref 1793), some (.ref 666), some (.ref (b122 + 259)), some (vI p3), some (vI p4), none, none, none, none]) D237_168 (im_cal cn_237 cl_11_395) (Or.inl rfl) rfl sf_1793 rfl rfl rfl rfl hd ⟨rfl, rfl, rfl, rfl, rfl, trivial⟩ ?_
                      refine hP.mono ?_
                      rintro _ e128 M127 ⟨x129, rfl, hP⟩
                      refine im_bkS ?_
                      refine im_st1 (q := 173) (i := 5) (L' := [some (.ref 0), some (vI p1), some (vI p2), some (vI p3), some (vI p4), some (vI x129)]) D237_171 (Or.inr rfl) (Nat.le_of_ble_eq_true rfl) rfl ?_
                      refine im_ld (q := 174) (i := 0) D237_173 rfl rfl rfl ?_
                      refine im_gfR (q := 177) (b := 7) D237_174 (im_fl cn_237 fl_11_29) sf_0 rfl rfl tR_11_3 rfl ?_
                      refine im_callV (q := 180) (kd := 1) (y := 22) (n := 0) (ci := 10) (a := 7) (vs := [.ref 7]) (r := []) (L2 := [some (.ref 7)]) D237_177 (im_cal cn_237 cl_11_155) (Or.inl rfl) rfl sf_7 rfl rfl rfl rfl hd ⟨rfl, trivial⟩ ?_
                      refine hP.mono ?_
                      rintro _ e135 M130 ⟨rfl, rfl, hP⟩
                      refine im_bkN ?_
                      refine im_ld (q := 182) (i := 5) D237_180 rfl rfl rfl ?_
                      refine im_iconst (q := 183) D237_182 ?_
                      obtain ⟨hg131, hP⟩ := hP
                      refine im_icmp (q := 186) (t := 197) D237_183 rfl hg131 (by decide) (fun hc132 => ?_) (fun hc132 => ?_)
                      · replace hP := hP.1 hc132
                        refine im_ld (q := 199) (i := 5) D237_197 rfl rfl rfl ?_
                        exact im_iret (q := 200) D237_199 rfl hP
                      · replace hP := hP.2 (Decidable.not_not.mp hc132)
                        refine im_ld (q := 187) (i := 0) D237_186 rfl rfl rfl ?_
                        refine im_gfR (q := 190) (b := 1793) D237_187 (im_fl cn_237 fl_11_106) sf_0 rfl rfl tR_11_16 rfl ?_
                        refine im_ld (q := 191) (i := 0) D237_190 rfl rfl rfl ?_
                        refine im_gfR (q := 194) (b := 7) D237_191 (im_fl cn_237 fl_11_29) sf_0 rfl rfl tR_11_3 rfl ?_
                        refine im_callV (q := 197) (kd := 1) (y := 246) (n := 1) (ci := 8) (a := 1793) (vs := [.ref 1793, .ref 7]) (r := []) (L2 := [some (.ref 1793), some (.ref 7), none, none]) D237_194 (im_cal cn_237 cl_11_398) (Or.inl rfl) rfl sf_1793 rfl rfl rfl rfl hd ⟨rfl, rfl, trivial⟩ ?_
                        refine hP.mono ?_
                        rintro _ e134 M133 ⟨rfl, rfl, hP⟩
                        refine im_bkN ?_
                        refine im_ld (q := 199) (i := 5) D237_197 rfl rfl rfl ?_
                        exact im_iret (q := 200) D237_199 rfl hP
                    · replace hP := hP.2 hc121
                      refine im_ld (q := 150) (i := 0) D237_149 rfl rfl rfl ?_
                      refine im_gfR (q := 153) (b := 30) D237_150 (im_fl cn_237 fl_11_64) sf_0 rfl rfl tR_11_8 rfl ?_
                      refine im_goto (q := 156) (t := 165) D237_153 rfl ?_
                      refine im_ld (q := 166) (i := 3) D237_165 rfl rfl rfl ?_
                      refine im_ld (q := 168) (i := 4) D237_166 rfl rfl rfl ?_
                      refine im_callV (q := 171) (kd := 1) (y := 238) (n := 4) (ci := 8) (a := 1793) (vs := [.ref 1793, .ref 666, .ref 30, vI p3, vI p4]) (r := []) (L2 := [some (.ref 1793), some (.ref 666), some (.ref 30), some (vI p3), some (vI p4), none, none, none, none]) D237_168 (im_cal cn_237 cl_11_395) (Or.inl rfl) rfl sf_1793 rfl rfl rfl rfl hd ⟨rfl, rfl, rfl, rfl, rfl, trivial⟩ ?_
                      refine hP.mono ?_
                      rintro _ e137 M136 ⟨x138, rfl, hP⟩
                      refine im_bkS ?_
                      refine im_st1 (q := 173) (i := 5) (L' := [some (.ref 0), some (vI p1), some (vI p2), some (vI p3), some (vI p4), some (vI x138)]) D237_171 (Or.inr rfl) (Nat.le_of_ble_eq_true rfl) rfl ?_
                      refine im_ld (q := 174) (i := 0) D237_173 rfl rfl rfl ?_
                      refine im_gfR (q := 177) (b := 7) D237_174 (im_fl cn_237 fl_11_29) sf_0 rfl rfl tR_11_3 rfl ?_
                      refine im_callV (q := 180) (kd := 1) (y := 22) (n := 0) (ci := 10) (a := 7) (vs := [.ref 7]) (r := []) (L2 := [some (.ref 7)]) D237_177 (im_cal cn_237 cl_11_155) (Or.inl rfl) rfl sf_7 rfl rfl rfl rfl hd ⟨rfl, trivial⟩ ?_
                      refine hP.mono ?_
                      rintro _ e144 M139 ⟨rfl, rfl, hP⟩
                      refine im_bkN ?_
                      refine im_ld (q := 182) (i := 5) D237_180 rfl rfl rfl ?_
                      refine im_iconst (q := 183) D237_182 ?_
                      obtain ⟨hg140, hP⟩ := hP
                      refine im_icmp (q := 186) (t := 197) D237_183 rfl hg140 (by decide) (fun hc141 => ?_) (fun hc141 => ?_)
                      · replace hP := hP.1 hc141
                        refine im_ld (q := 199) (i := 5) D237_197 rfl rfl rfl ?_
                        exact im_iret (q := 200) D237_199 rfl hP
                      · replace hP := hP.2 (Decidable.not_not.mp hc141)
                        refine im_ld (q := 187) (i := 0) D237_186 rfl rfl rfl ?_
                        refine im_gfR (q := 190) (b := 1793) D237_187 (im_fl cn_237 fl_11_106) sf_0 rfl rfl tR_11_16 rfl ?_
                        refine im_ld (q := 191) (i := 0) D237_190 rfl rfl rfl ?_
                        refine im_gfR (q := 194) (b := 7) D237_191 (im_fl cn_237 fl_11_29) sf_0 rfl rfl tR_11_3 rfl ?_
                        refine im_callV (q := 197) (kd := 1) (y := 246) (n := 1) (ci := 8) (a := 1793) (vs := [.ref 1793, .ref 7]) (r := []) (L2 := [some (.ref 1793), some (.ref 7), none, none]) D237_194 (im_cal cn_237 cl_11_398) (Or.inl rfl) rfl sf_1793 rfl rfl rfl rfl hd ⟨rfl, rfl, trivial⟩ ?_
                        refine hP.mono ?_
                        rintro _ e143 M142 ⟨rfl, rfl, hP⟩
                        refine im_bkN ?_
                        refine im_ld (q := 199) (i := 5) D237_197 rfl rfl rfl ?_
                        exact im_iret (q := 200) D237_199 rfl hP
                · replace hP := hP.2 hc88
                  refine im_bipush (q := 102) D237_100 rfl ?_
                  exact im_iret (q := 103) D237_102 rfl hP
            · exact im_bkE rfl hX
          refine im_ifc (q := 46) (t := 64) D237_43 rfl hg13 (fun hc14 => ?_) (fun hc14 => ?_)
          · replace hP := hP.1 hc14
            refine im_ld (q := 65) (i := 0) D237_64 rfl rfl rfl ?_
            refine im_gfR (q := 68) (b := 29) D237_65 (im_fl cn_237 fl_11_55) sf_0 rfl rfl tR_11_7 rfl ?_
            refine im_ld (q := 69) (i := 1) D237_68 rfl rfl rfl ?_
            obtain ⟨hg148, hP⟩ := hP
            obtain ⟨b149, hb150, hP⟩ := hP
            obtain ⟨hb151, hP⟩ := hP
            refine im_aald (q := 70) D237_69 sf_29 (Or.inr rfl) hg148.1 hg148.2 (by decide) hb150 ?_
            refine im_rng (j := 6) hb151.1 (by decide) (show (6 : Int) < ((7 : Nat) : Int) by decide) (fun hr152 => ?_)
            refine im_gfI (q := 73) D237_70 (im_fl cn_237 fl_11_290) hb151.1 rfl rfl tI_9_6 rfl ?_
            refine im_callS (q := 76) (kd := 0) (y := 167) (n := 1) (z := 11) (vs := [vI (M12 b149 6)]) (r := []) (L2 := [some (vI (M12 b149 6))]) D237_73 rfl (im_cal cn_237 cl_11_187) (Or.inl rfl) rfl rfl rfl rfl rfl hd ⟨rfl, trivial⟩ ?_
            refine hP.mono ?_
            rintro _ e275 M153 (⟨rfl, rfl, hP⟩ | ⟨E_, rfl, hX⟩)
            · refine im_bkN ?_
              refine im_ld (q := 77) (i := 2) D237_76 rfl rfl rfl ?_
              refine im_ifc (q := 80) (t := 103) D237_77 rfl hg13 (fun hc154 => ?_) (fun hc154 => ?_)
              · replace hP := hP.1 hc154
                refine im_ld (q := 104) (i := 2) D237_103 rfl rfl rfl ?_
                refine im_ifc (q := 107) (t := 124) D237_104 rfl hg13 (fun hc156 => ?_) (fun hc156 => ?_)
                · replace hP := hP.1 hc156
                  refine im_ld (q := 125) (i := 0) D237_124 rfl rfl rfl ?_
                  refine im_gfR (q := 128) (b := 666) D237_125 (im_fl cn_237 fl_11_88) sf_0 rfl rfl tR_11_14 rfl ?_
                  refine im_ld (q := 129) (i := 0) D237_128 rfl rfl rfl ?_
                  refine im_gfR (q := 132) (b := 29) D237_129 (im_fl cn_237 fl_11_55) sf_0 rfl rfl tR_11_7 rfl ?_
                  refine im_ld (q := 133) (i := 1) D237_132 rfl rfl rfl ?_
                  obtain ⟨b158, hb159, hP⟩ := hP
                  obtain ⟨hb160, hP⟩ := hP
                  refine im_aald (q := 134) D237_133 sf_29 (Or.inr rfl) hg148.1 hg148.2 (by decide) hb159 ?_
                  refine im_callV (q := 137) (kd := 1) (y := 107) (n := 1) (ci := 9) (a := 666) (vs := [.ref 666, .ref b158]) (r := []) (L2 := [some (.ref 666), some (.ref b158)]) D237_134 (im_cal cn_237 cl_11_337) (Or.inl rfl) rfl sf_666 rfl rfl rfl rfl hd ⟨rfl, rfl, trivial⟩ ?_
                  refine hP.mono ?_
                  rintro _ e186 M161 ⟨rfl, rfl, hP⟩
                  refine im_bkN ?_
                  refine im_ld (q := 138) (i := 0) D237_137 rfl rfl rfl ?_
                  refine im_gfR (q := 141) (b := 1793) D237_138 (im_fl cn_237 fl_11_106) sf_0 rfl rfl tR_11_16 rfl ?_
                  refine im_ld (q := 142) (i := 0) D237_141 rfl rfl rfl ?_
                  refine im_gfR (q := 145) (b := 666) D237_142 (im_fl cn_237 fl_11_88) sf_0 rfl rfl tR_11_14 rfl ?_
                  refine im_ld (q := 146) (i := 2) D237_145 rfl rfl rfl ?_
                  refine im_ifc (q := 149) (t := 156) D237_146 rfl hg13 (fun hc162 => ?_) (fun hc162 => ?_)
                  · replace hP := hP.1 hc162
                    refine im_ld (q := 157) (i := 0) D237_156 rfl rfl rfl ?_
                    refine im_gfR (q := 160) (b := 29) D237_157 (im_fl cn_237 fl_11_55) sf_0 rfl rfl tR_11_7 rfl ?_
                    refine im_ld (q := 161) (i := 1) D237_160 rfl rfl rfl ?_
                    obtain ⟨b163, hb164, hP⟩ := hP
                    obtain ⟨hb165, hP⟩ := hP
                    refine im_aald (q := 162) D237_161 sf_29 (Or.inr rfl) hg148.1 hg148.2 (by decide) hb164 ?_
                    obtain ⟨n166, hb167, hP⟩ := hP
                    refine im_gfR (q := 165) (b := (b163 + 259)) D237_162 (im_fl cn_237 fl_11_326) hb165.1 rfl rfl tR_9_3 rfl ?_
                    refine im_ld (q := 166) (i := 3) D237_165 rfl rfl rfl ?_
                    refine im_ld (q := 168) (i := 4) D237_166 rfl rfl rfl ?_
                    refine im_callV (q := 171) (kd := 1) (y := 238) (n := 4) (ci := 8) (a := 1793) (vs := [.ref 1793, .ref 666, .ref (b163 + 259), vI p3, vI p4]) (r := []) (L2 := [some (.ref 1793), some (.ref 666), some (.ref (b163 + 259)), some (vI p3), some (vI p4), none, none, none, none]) D237_168 (im_cal cn_237 cl_11_395) (Or.inl rfl) rfl sf_1793 rfl rfl rfl rfl hd ⟨rfl, rfl, rfl, rfl, rfl, trivial⟩ ?_
                    refine hP.mono ?_
                    rintro _ e169 M168 ⟨x170, rfl, hP⟩
                    refine im_bkS ?_
                    refine im_st1 (q := 173) (i := 5) (L' := [some (.ref 0), some (vI p1), some (vI p2), some (vI p3), some (vI p4), some (vI x170)]) D237_171 (Or.inr rfl) (Nat.le_of_ble_eq_true rfl) rfl ?_
                    refine im_ld (q := 174) (i := 0) D237_173 rfl rfl rfl ?_
                    refine im_gfR (q := 177) (b := 7) D237_174 (im_fl cn_237 fl_11_29) sf_0 rfl rfl tR_11_3 rfl ?_
                    refine im_callV (q := 180) (kd := 1) (y := 22) (n := 0) (ci := 10) (a := 7) (vs := [.ref 7]) (r := []) (L2 := [some (.ref 7)]) D237_177 (im_cal cn_237 cl_11_155) (Or.inl rfl) rfl sf_7 rfl rfl rfl rfl hd ⟨rfl, trivial⟩ ?_
                    refine hP.mono ?_
                    rintro _ e176 M171 ⟨rfl, rfl, hP⟩
                    refine im_bkN ?_
                    refine im_ld (q := 182) (i := 5) D237_180 rfl rfl rfl ?_
                    refine im_iconst (q := 183) D237_182 ?_
                    obtain ⟨hg172, hP⟩ := hP
                    refine im_icmp (q := 186) (t := 197) D237_183 rfl hg172 (by decide) (fun hc173 => ?_) (fun hc173 => ?_)
                    · replace hP := hP.1 hc173
                      refine im_ld (q := 199) (i := 5) D237_197 rfl rfl rfl ?_
                      exact im_iret (q := 200) D237_199 rfl hP
                    · replace hP := hP.2 (Decidable.not_not.mp hc173)
                      refine im_ld (q := 187) (i := 0) D237_186 rfl rfl rfl ?_
                      refine im_gfR (q := 190) (b := 1793) D237_187 (im_fl cn_237 fl_11_106) sf_0 rfl rfl tR_11_16 rfl ?_
                      refine im_ld (q := 191) (i := 0) D237_190 rfl rfl rfl ?_
                      refine im_gfR (q := 194) (b := 7) D237_191 (im_fl cn_237 fl_11_29) sf_0 rfl rfl tR_11_3 rfl ?_
                      refine im_callV (q := 197) (kd := 1) (y := 246) (n := 1) (ci := 8) (a := 1793) (vs := [.ref 1793, .ref 7]) (r := []) (L2 := [some (.ref 1793), some (.ref 7), none, none]) D237_194 (im_cal cn_237 cl_11_398) (Or.inl rfl) rfl sf_1793 rfl rfl rfl rfl hd ⟨rfl, rfl, trivial⟩ ?_
                      refine hP.mono ?_
                      rintro _ e175 M174 ⟨rfl, rfl, hP⟩
                      refine im_bkN ?_
                      refine im_ld (q := 199) (i := 5) D237_197 rfl rfl rfl ?_
                      exact im_iret (q := 200) D237_199 rfl hP
                  · replace hP := hP.2 hc162
                    refine im_ld (q := 150) (i := 0) D237_149 rfl rfl rfl ?_
                    refine im_gfR (q := 153) (b := 30) D237_150 (im_fl cn_237 fl_11_64) sf_0 rfl rfl tR_11_8 rfl ?_
                    refine im_goto (q := 156) (t := 165) D237_153 rfl ?_
                    refine im_ld (q := 166) (i := 3) D237_165 rfl rfl rfl ?_
                    refine im_ld (q := 168) (i := 4) D237_166 rfl rfl rfl ?_
                    refine im_callV (q := 171) (kd := 1) (y := 238) (n := 4) (ci := 8) (a := 1793) (vs := [.ref 1793, .ref 666, .ref 30, vI p3, vI p4]) (r := []) (L2 := [some (.ref 1793), some (.ref 666), some (.ref 30), some (vI p3), some (vI p4), none, none, none, none]) D237_168 (im_cal cn_237 cl_11_395) (Or.inl rfl) rfl sf_1793 rfl rfl rfl rfl hd ⟨rfl, rfl, rfl, rfl, rfl, trivial⟩ ?_
                    refine hP.mono ?_
                    rintro _ e178 M177 ⟨x179, rfl, hP⟩
                    refine im_bkS ?_
                    refine im_st1 (q := 173) (i := 5) (L' := [some (.ref 0), some (vI p1), some (vI p2), some (vI p3), some (vI p4), some (vI x179)]) D237_171 (Or.inr rfl) (Nat.le_of_ble_eq_true rfl) rfl ?_
                    refine im_ld (q := 174) (i := 0) D237_173 rfl rfl rfl ?_
                    refine im_gfR (q := 177) (b := 7) D237_174 (im_fl cn_237 fl_11_29) sf_0 rfl rfl tR_11_3 rfl ?_
                    refine im_callV (q := 180) (kd := 1) (y := 22) (n := 0) (ci := 10) (a := 7) (vs := [.ref 7]) (r := []) (L2 := [some (.ref 7)]) D237_177 (im_cal cn_237 cl_11_155) (Or.inl rfl) rfl sf_7 rfl rfl rfl rfl hd ⟨rfl, trivial⟩ ?_
                    refine hP.mono ?_
                    rintro _ e185 M180 ⟨rfl, rfl, hP⟩
                    refine im_bkN ?_
                    refine im_ld (q := 182) (i := 5) D237_180 rfl rfl rfl ?_
                    refine im_iconst (q := 183) D237_182 ?_
                    obtain ⟨hg181, hP⟩ := hP
                    refine im_icmp (q := 186) (t := 197) D237_183 rfl hg181 (by decide) (fun hc182 => ?_) (fun hc182 => ?_)
                    · replace hP := hP.1 hc182
                      refine im_ld (q := 199) (i := 5) D237_197 rfl rfl rfl ?_
                      exact im_iret (q := 200) D237_199 rfl hP
                    · replace hP := hP.2 (Decidable.not_not.mp hc182)
                      refine im_ld (q := 187) (i := 0) D237_186 rfl rfl rfl ?_
                      refine im_gfR (q := 190) (b := 1793) D237_187 (im_fl cn_237 fl_11_106) sf_0 rfl rfl tR_11_16 rfl ?_
                      refine im_ld (q := 191) (i := 0) D237_190 rfl rfl rfl ?_
                      refine im_gfR (q := 194) (b := 7) D237_191 (im_fl cn_237 fl_11_29) sf_0 rfl rfl tR_11_3 rfl ?_
                      refine im_callV (q := 197) (kd := 1) (y := 246) (n := 1) (ci := 8) (a := 1793) (vs := [.ref 1793, .ref 7]) (r := []) (L2 := [some (.ref 1793), some (.ref 7), none, none]) D237_194 (im_cal cn_237 cl_11_398) (Or.inl rfl) rfl sf_1793 rfl rfl rfl rfl hd ⟨rfl, rfl, trivial⟩ ?_
                      refine hP.mono ?_
                      rintro _ e184 M183 ⟨rfl, rfl, hP⟩
                      refine im_bkN ?_
                      refine im_ld (q := 199) (i := 5) D237_197 rfl rfl rfl ?_
                      exact im_iret (q := 200) D237_199 rfl hP
                · replace hP := hP.2 hc156
                  refine im_ld (q := 108) (i := 0) D237_107 rfl rfl rfl ?_
                  refine im_gfR (q := 111) (b := 666) D237_108 (im_fl cn_237 fl_11_88) sf_0 rfl rfl tR_11_14 rfl ?_
                  refine im_ld (q := 112) (i := 0) D237_111 rfl rfl rfl ?_
                  refine im_gfR (q := 115) (b := 28) D237_112 (im_fl cn_237 fl_11_49) sf_0 rfl rfl tR_11_6 rfl ?_
                  refine im_ld (q := 116) (i := 1) D237_115 rfl rfl rfl ?_
                  refine im_rng (j := p1) sf_28 hg148.1 hg148.2 (fun hr157 => ?_)
                  refine im_iald (q := 117) D237_116 sf_28 hg148.1 hg148.2 (by decide) rfl ?_
                  refine im_lconst (q := 118) (z := 0) D237_117 rfl ?_
                  refine im_callV (q := 121) (kd := 1) (y := 90) (n := 2) (ci := 9) (a := 666) (vs := [.ref 666, vI (M153 28 p1), vL 0]) (r := []) (L2 := [some (.ref 666), some (vI (M153 28 p1)), some (vL 0), none]) D237_118 (im_cal cn_237 cl_11_322) (Or.inl rfl) rfl sf_666 rfl rfl rfl rfl hd ⟨rfl, rfl, rfl, trivial⟩ ?_
                  refine hP.mono ?_
                  rintro _ e212 M187 ⟨rfl, rfl, hP⟩
                  refine im_bkN ?_
                  refine im_goto (q := 124) (t := 137) D237_121 rfl ?_
                  refine im_ld (q := 138) (i := 0) D237_137 rfl rfl rfl ?_
                  refine im_gfR (q := 141) (b := 1793) D237_138 (im_fl cn_237 fl_11_106) sf_0 rfl rfl tR_11_16 rfl ?_
                  refine im_ld (q := 142) (i := 0) D237_141 rfl rfl rfl ?_
                  refine im_gfR (q := 145) (b := 666) D237_142 (im_fl cn_237 fl_11_88) sf_0 rfl rfl tR_11_14 rfl ?_
                  refine im_ld (q := 146) (i := 2) D237_145 rfl rfl rfl ?_
                  refine im_ifc (q := 149) (t := 156) D237_146 rfl hg13 (fun hc188 => ?_) (fun hc188 => ?_)
                  · replace hP := hP.1 hc188
                    refine im_ld (q := 157) (i := 0) D237_156 rfl rfl rfl ?_
                    refine im_gfR (q := 160) (b := 29) D237_157 (im_fl cn_237 fl_11_55) sf_0 rfl rfl tR_11_7 rfl ?_
                    refine im_ld (q := 161) (i := 1) D237_160 rfl rfl rfl ?_
                    obtain ⟨b189, hb190, hP⟩ := hP
                    obtain ⟨hb191, hP⟩ := hP
                    refine im_aald (q := 162) D237_161 sf_29 (Or.inr rfl) hg148.1 hg148.2 (by decide) hb190 ?_
                    obtain ⟨n192, hb193, hP⟩ := hP
                    refine im_gfR (q := 165) (b := (b189 + 259)) D237_162 (im_fl cn_237 fl_11_326) hb191.1 rfl rfl tR_9_3 rfl ?_
                    refine im_ld (q := 166) (i := 3) D237_165 rfl rfl rfl ?_
                    refine im_ld (q := 168) (i := 4) D237_166 rfl rfl rfl ?_
                    refine im_callV (q := 171) (kd := 1) (y := 238) (n := 4) (ci := 8) (a := 1793) (vs := [.ref 1793, .ref 666, .ref (b189 + 259), vI p3, vI p4]) (r := []) (L2 := [some (.ref 1793), some (.ref 666), some (.ref (b189 + 259)), some (vI p3), some (vI p4), none, none, none, none]) D237_168 (im_cal cn_237 cl_11_395) (Or.inl rfl) rfl sf_1793 rfl rfl rfl rfl hd ⟨rfl, rfl, rfl, rfl, rfl, trivial⟩ ?_
                    refine hP.mono ?_
                    rintro _ e195 M194 ⟨x196, rfl, hP⟩
                    refine im_bkS ?_
                    refine im_st1 (q := 173) (i := 5) (L' := [some (.ref 0), some (vI p1), some (vI p2), some (vI p3), some (vI p4), some (vI x196)]) D237_171 (Or.inr rfl) (Nat.le_of_ble_eq_true rfl) rfl ?_
                    refine im_ld (q := 174) (i := 0) D237_173 rfl rfl rfl ?_
                    refine im_gfR (q := 177) (b := 7) D237_174 (im_fl cn_237 fl_11_29) sf_0 rfl rfl tR_11_3 rfl ?_
                    refine im_callV (q := 180) (kd := 1) (y := 22) (n := 0) (ci := 10) (a := 7) (vs := [.ref 7]) (r := []) (L2 := [some (.ref 7)]) D237_177 (im_cal cn_237 cl_11_155) (Or.inl rfl) rfl sf_7 rfl rfl rfl rfl hd ⟨rfl, trivial⟩ ?_
                    refine hP.mono ?_
                    rintro _ e202 M197 ⟨rfl, rfl, hP⟩
                    refine im_bkN ?_
                    refine im_ld (q := 182) (i := 5) D237_180 rfl rfl rfl ?_
                    refine im_iconst (q := 183) D237_182 ?_
                    obtain ⟨hg198, hP⟩ := hP
                    refine im_icmp (q := 186) (t := 197) D237_183 rfl hg198 (by decide) (fun hc199 => ?_) (fun hc199 => ?_)
                    · replace hP := hP.1 hc199
                      refine im_ld (q := 199) (i := 5) D237_197 rfl rfl rfl ?_
                      exact im_iret (q := 200) D237_199 rfl hP
                    · replace hP := hP.2 (Decidable.not_not.mp hc199)
                      refine im_ld (q := 187) (i := 0) D237_186 rfl rfl rfl ?_
                      refine im_gfR (q := 190) (b := 1793) D237_187 (im_fl cn_237 fl_11_106) sf_0 rfl rfl tR_11_16 rfl ?_
                      refine im_ld (q := 191) (i := 0) D237_190 rfl rfl rfl ?_
                      refine im_gfR (q := 194) (b := 7) D237_191 (im_fl cn_237 fl_11_29) sf_0 rfl rfl tR_11_3 rfl ?_
                      refine im_callV (q := 197) (kd := 1) (y := 246) (n := 1) (ci := 8) (a := 1793) (vs := [.ref 1793, .ref 7]) (r := []) (L2 := [some (.ref 1793), some (.ref 7), none, none]) D237_194 (im_cal cn_237 cl_11_398) (Or.inl rfl) rfl sf_1793 rfl rfl rfl rfl hd ⟨rfl, rfl, trivial⟩ ?_
                      refine hP.mono ?_
                      rintro _ e201 M200 ⟨rfl, rfl, hP⟩
                      refine im_bkN ?_
                      refine im_ld (q := 199) (i := 5) D237_197 rfl rfl rfl ?_
                      exact im_iret (q := 200) D237_199 rfl hP
                  · replace hP := hP.2 hc188
                    refine im_ld (q := 150) (i := 0) D237_149 rfl rfl rfl ?_
                    refine im_gfR (q := 153) (b := 30) D237_150 (im_fl cn_237 fl_11_64) sf_0 rfl rfl tR_11_8 rfl ?_
                    refine im_goto (q := 156) (t := 165) D237_153 rfl ?_
                    refine im_ld (q := 166) (i := 3) D237_165 rfl rfl rfl ?_
                    refine im_ld (q := 168) (i := 4) D237_166 rfl rfl rfl ?_
                    refine im_callV (q := 171) (kd := 1) (y := 238) (n := 4) (ci := 8) (a := 1793) (vs := [.ref 1793, .ref 666, .ref 30, vI p3, vI p4]) (r := []) (L2 := [some (.ref 1793), some (.ref 666), some (.ref 30), some (vI p3), some (vI p4), none, none, none, none]) D237_168 (im_cal cn_237 cl_11_395) (Or.inl rfl) rfl sf_1793 rfl rfl rfl rfl hd ⟨rfl, rfl, rfl, rfl, rfl, trivial⟩ ?_
                    refine hP.mono ?_
                    rintro _ e204 M203 ⟨x205, rfl, hP⟩
                    refine im_bkS ?_
                    refine im_st1 (q := 173) (i := 5) (L' := [some (.ref 0), some (vI p1), some (vI p2), some (vI p3), some (vI p4), some (vI x205)]) D237_171 (Or.inr rfl) (Nat.le_of_ble_eq_true rfl) rfl ?_
                    refine im_ld (q := 174) (i := 0) D237_173 rfl rfl rfl ?_
                    refine im_gfR (q := 177) (b := 7) D237_174 (im_fl cn_237 fl_11_29) sf_0 rfl rfl tR_11_3 rfl ?_
                    refine im_callV (q := 180) (kd := 1) (y := 22) (n := 0) (ci := 10) (a := 7) (vs := [.ref 7]) (r := []) (L2 := [some (.ref 7)]) D237_177 (im_cal cn_237 cl_11_155) (Or.inl rfl) rfl sf_7 rfl rfl rfl rfl hd ⟨rfl, trivial⟩ ?_
                    refine hP.mono ?_
                    rintro _ e211 M206 ⟨rfl, rfl, hP⟩
                    refine im_bkN ?_
                    refine im_ld (q := 182) (i := 5) D237_180 rfl rfl rfl ?_
                    refine im_iconst (q := 183) D237_182 ?_
                    obtain ⟨hg207, hP⟩ := hP
                    refine im_icmp (q := 186) (t := 197) D237_183 rfl hg207 (by decide) (fun hc208 => ?_) (fun hc208 => ?_)
                    · replace hP := hP.1 hc208
                      refine im_ld (q := 199) (i := 5) D237_197 rfl rfl rfl ?_
                      exact im_iret (q := 200) D237_199 rfl hP
                    · replace hP := hP.2 (Decidable.not_not.mp hc208)
                      refine im_ld (q := 187) (i := 0) D237_186 rfl rfl rfl ?_
                      refine im_gfR (q := 190) (b := 1793) D237_187 (im_fl cn_237 fl_11_106) sf_0 rfl rfl tR_11_16 rfl ?_
                      refine im_ld (q := 191) (i := 0) D237_190 rfl rfl rfl ?_
                      refine im_gfR (q := 194) (b := 7) D237_191 (im_fl cn_237 fl_11_29) sf_0 rfl rfl tR_11_3 rfl ?_
                      refine im_callV (q := 197) (kd := 1) (y := 246) (n := 1) (ci := 8) (a := 1793) (vs := [.ref 1793, .ref 7]) (r := []) (L2 := [some (.ref 1793), some (.ref 7), none, none]) D237_194 (im_cal cn_237 cl_11_398) (Or.inl rfl) rfl sf_1793 rfl rfl rfl rfl hd ⟨rfl, rfl, trivial⟩ ?_
                      refine hP.mono ?_
                      rintro _ e210 M209 ⟨rfl, rfl, hP⟩
                      refine im_bkN ?_
                      refine im_ld (q := 199) (i := 5) D237_197 rfl rfl rfl ?_
                      exact im_iret (q := 200) D237_199 rfl hP
              · replace hP := hP.2 hc154
                refine im_ld (q := 81) (i := 0) D237_80 rfl rfl rfl ?_
                refine im_gfR (q := 84) (b := 13) D237_81 (im_fl cn_237 fl_11_36) sf_0 rfl rfl tR_11_4 rfl ?_
                refine im_ld (q := 85) (i := 0) D237_84 rfl rfl rfl ?_
                refine im_gfR (q := 88) (b := 28) D237_85 (im_fl cn_237 fl_11_49) sf_0 rfl rfl tR_11_6 rfl ?_
                refine im_ld (q := 89) (i := 1) D237_88 rfl rfl rfl ?_
                refine im_rng (j := p1) sf_28 hg148.1 hg148.2 (fun hr155 => ?_)
                refine im_iald (q := 90) D237_89 sf_28 hg148.1 hg148.2 (by decide) rfl ?_
                refine im_ld (q := 91) (i := 0) D237_90 rfl rfl rfl ?_
                refine im_gfR (q := 94) (b := 30) D237_91 (im_fl cn_237 fl_11_64) sf_0 rfl rfl tR_11_8 rfl ?_
                refine im_callV (q := 97) (kd := 1) (y := 86) (n := 2) (ci := 5) (a := 13) (vs := [.ref 13, vI (M153 28 p1), .ref 30]) (r := []) (L2 := [some (.ref 13), some (vI (M153 28 p1)), some (.ref 30), none, none, none]) D237_94 (im_cal cn_237 cl_11_318) (Or.inl rfl) rfl sf_13 rfl rfl rfl rfl hd ⟨rfl, rfl, rfl, trivial⟩ ?_
                refine hP.mono ?_
                rintro _ e274 M213 ⟨x214, rfl, rfl, hP⟩
                refine im_bkS ?_
                obtain ⟨hg215, hP⟩ := hP
                refine im_ifc (q := 100) (t := 103) D237_97 rfl hg215 (fun hc216 => ?_) (fun hc216 => ?_)
                · replace hP := hP.1 hc216
                  refine im_ld (q := 104) (i := 2) D237_103 rfl rfl rfl ?_
                  refine im_ifc (q := 107) (t := 124) D237_104 rfl hg13 (fun hc217 => ?_) (fun hc217 => ?_)
                  · replace hP := hP.1 hc217
                    refine im_ld (q := 125) (i := 0) D237_124 rfl rfl rfl ?_
                    refine im_gfR (q := 128) (b := 666) D237_125 (im_fl cn_237 fl_11_88) sf_0 rfl rfl tR_11_14 rfl ?_
                    refine im_ld (q := 129) (i := 0) D237_128 rfl rfl rfl ?_
                    refine im_gfR (q := 132) (b := 29) D237_129 (im_fl cn_237 fl_11_55) sf_0 rfl rfl tR_11_7 rfl ?_
                    refine im_ld (q := 133) (i := 1) D237_132 rfl rfl rfl ?_
                    obtain ⟨b219, hb220, hP⟩ := hP
                    obtain ⟨hb221, hP⟩ := hP
                    refine im_aald (q := 134) D237_133 sf_29 (Or.inr rfl) hg148.1 hg148.2 (by decide) hb220 ?_
                    refine im_callV (q := 137) (kd := 1) (y := 107) (n := 1) (ci := 9) (a := 666) (vs := [.ref 666, .ref b219]) (r := []) (L2 := [some (.ref 666), some (.ref b219)]) D237_134 (im_cal cn_237 cl_11_337) (Or.inl rfl) rfl sf_666 rfl rfl rfl rfl hd ⟨rfl, rfl, trivial⟩ ?_
                    refine hP.mono ?_
                    rintro _ e247 M222 ⟨rfl, rfl, hP⟩
                    refine im_bkN ?_
                    refine im_ld (q := 138) (i := 0) D237_137 rfl rfl rfl ?_
                    refine im_gfR (q := 141) (b := 1793) D237_138 (im_fl cn_237 fl_11_106) sf_0 rfl rfl tR_11_16 rfl ?_
                    refine im_ld (q := 142) (i := 0) D237_141 rfl rfl rfl ?_
                    refine im_gfR (q := 145) (b := 666) D237_142 (im_fl cn_237 fl_11_88) sf_0 rfl rfl tR_11_14 rfl ?_
                    refine im_ld (q := 146) (i := 2) D237_145 rfl rfl rfl ?_
                    refine im_ifc (q := 149) (t := 156) D237_146 rfl hg13 (fun hc223 => ?_) (fun hc223 => ?_)
                    · replace hP := hP.1 hc223
                      refine im_ld (q := 157) (i := 0) D237_156 rfl rfl rfl ?_
                      refine im_gfR (q := 160) (b := 29) D237_157 (im_fl cn_237 fl_11_55) sf_0 rfl rfl tR_11_7 rfl ?_
                      refine im_ld (q := 161) (i := 1) D237_160 rfl rfl rfl ?_
                      obtain ⟨b224, hb225, hP⟩ := hP
                      obtain ⟨hb226, hP⟩ := hP
                      refine im_aald (q := 162) D237_161 sf_29 (Or.inr rfl) hg148.1 hg148.2 (by decide) hb225 ?_
                      obtain ⟨n227, hb228, hP⟩ := hP
                      refine im_gfR (q := 165) (b := (b224 + 259)) D237_162 (im_fl cn_237 fl_11_326) hb226.1 rfl rfl tR_9_3 rfl ?_
                      refine im_ld (q := 166) (i := 3) D237_165 rfl rfl rfl ?_
                      refine im_ld (q := 168) (i := 4) D237_166 rfl rfl rfl ?_
                      refine im_callV (q := 171) (kd := 1) (y := 238) (n := 4) (ci := 8) (a := 1793) (vs := [.ref 1793, .ref 666, .ref (b224 + 259), vI p3, vI p4]) (r := []) (L2 := [some (.ref 1793), some (.ref 666), some (.ref (b224 + 259)), some (vI p3), some (vI p4), none, none, none, none]) D237_168 (im_cal cn_237 cl_11_395) (Or.inl rfl) rfl sf_1793 rfl rfl rfl rfl hd ⟨rfl, rfl, rfl, rfl, rfl, trivial⟩ ?_
                      refine hP.mono ?_
                      rintro _ e230 M229 ⟨x231, rfl, hP⟩
                      refine im_bkS ?_
                      refine im_st1 (q := 173) (i := 5) (L' := [some (.ref 0), some (vI p1), some (vI p2), some (vI p3), some (vI p4), some (vI x231)]) D237_171 (Or.inr rfl) (Nat.le_of_ble_eq_true rfl) rfl ?_
                      refine im_ld (q := 174) (i := 0) D237_173 rfl rfl rfl ?_
                      refine im_gfR (q := 177) (b := 7) D237_174 (im_fl cn_237 fl_11_29) sf_0 rfl rfl tR_11_3 rfl ?_
                      refine im_callV (q := 180) (kd := 1) (y := 22) (n := 0) (ci := 10) (a := 7) (vs := [.ref 7]) (r := []) (L2 := [some (.ref 7)]) D237_177 (im_cal cn_237 cl_11_155) (Or.inl rfl) rfl sf_7 rfl rfl rfl rfl hd ⟨rfl, trivial⟩ ?_
                      refine hP.mono ?_
                      rintro _ e237 M232 ⟨rfl, rfl, hP⟩
                      refine im_bkN ?_
                      refine im_ld (q := 182) (i := 5) D237_180 rfl rfl rfl ?_
                      refine im_iconst (q := 183) D237_182 ?_
                      obtain ⟨hg233, hP⟩ := hP
                      refine im_icmp (q := 186) (t := 197) D237_183 rfl hg233 (by decide) (fun hc234 => ?_) (fun hc234 => ?_)
                      · replace hP := hP.1 hc234
                        refine im_ld (q := 199) (i := 5) D237_197 rfl rfl rfl ?_
                        exact im_iret (q := 200) D237_199 rfl hP
                      · replace hP := hP.2 (Decidable.not_not.mp hc234)
                        refine im_ld (q := 187) (i := 0) D237_186 rfl rfl rfl ?_
                        refine im_gfR (q := 190) (b := 1793) D237_187 (im_fl cn_237 fl_11_106) sf_0 rfl rfl tR_11_16 rfl ?_
                        refine im_ld (q := 191) (i := 0) D237_190 rfl rfl rfl ?_
                        refine im_gfR (q := 194) (b := 7) D237_191 (im_fl cn_237 fl_11_29) sf_0 rfl rfl tR_11_3 rfl ?_
                        refine im_callV (q := 197) (kd := 1) (y := 246) (n := 1) (ci := 8) (a := 1793) (vs := [.ref 1793, .ref 7]) (r := []) (L2 := [some (.ref 1793), some (.ref 7), none, none]) D237_194 (im_cal cn_237 cl_11_398) (Or.inl rfl) rfl sf_1793 rfl rfl rfl rfl hd ⟨rfl, rfl, trivial⟩ ?_
                        refine hP.mono ?_
                        rintro _ e236 M235 ⟨rfl, rfl, hP⟩
                        refine im_bkN ?_
                        refine im_ld (q := 199) (i := 5) D237_197 rfl rfl rfl ?_
                        exact im_iret (q := 200) D237_199 rfl hP
                    · replace hP := hP.2 hc223
                      refine im_ld (q := 150) (i := 0) D237_149 rfl rfl rfl ?_
                      refine im_gfR (q := 153) (b := 30) D237_150 (im_fl cn_237 fl_11_64) sf_0 rfl rfl tR_11_8 rfl ?_
                      refine im_goto (q := 156) (t := 165) D237_153 rfl ?_
                      refine im_ld (q := 166) (i := 3) D237_165 rfl rfl rfl ?_
                      refine im_ld (q := 168) (i := 4) D237_166 rfl rfl rfl ?_
                      refine im_callV (q := 171) (kd := 1) (y := 238) (n := 4) (ci := 8) (a := 1793) (vs := [.ref 1793, .ref 666, .ref 30, vI p3, vI p4]) (r := []) (L2 := [some (.ref 1793), some (.ref 666), some (.ref 30), some (vI p3), some (vI p4), none, none, none, none]) D237_168 (im_cal cn_237 cl_11_395) (Or.inl rfl) rfl sf_1793 rfl rfl rfl rfl hd ⟨rfl, rfl, rfl, rfl, rfl, trivial⟩ ?_
                      refine hP.mono ?_
                      rintro _ e239 M238 ⟨x240, rfl, hP⟩
                      refine im_bkS ?_
                      refine im_st1 (q := 173) (i := 5) (L' := [some (.ref 0), some (vI p1), some (vI p2), some (vI p3), some (vI p4), some (vI x240)]) D237_171 (Or.inr rfl) (Nat.le_of_ble_eq_true rfl) rfl ?_
                      refine im_ld (q := 174) (i := 0) D237_173 rfl rfl rfl ?_
                      refine im_gfR (q := 177) (b := 7) D237_174 (im_fl cn_237 fl_11_29) sf_0 rfl rfl tR_11_3 rfl ?_
                      refine im_callV (q := 180) (kd := 1) (y := 22) (n := 0) (ci := 10) (a := 7) (vs := [.ref 7]) (r := []) (L2 := [some (.ref 7)]) D237_177 (im_cal cn_237 cl_11_155) (Or.inl rfl) rfl sf_7 rfl rfl rfl rfl hd ⟨rfl, trivial⟩ ?_
                      refine hP.mono ?_
                      rintro _ e246 M241 ⟨rfl, rfl, hP⟩
                      refine im_bkN ?_
                      refine im_ld (q := 182) (i := 5) D237_180 rfl rfl rfl ?_
                      refine im_iconst (q := 183) D237_182 ?_
                      obtain ⟨hg242, hP⟩ := hP
                      refine im_icmp (q := 186) (t := 197) D237_183 rfl hg242 (by decide) (fun hc243 => ?_) (fun hc243 => ?_)
                      · replace hP := hP.1 hc243
                        refine im_ld (q := 199) (i := 5) D237_197 rfl rfl rfl ?_
                        exact im_iret (q := 200) D237_199 rfl hP
                      · replace hP := hP.2 (Decidable.not_not.mp hc243)
                        refine im_ld (q := 187) (i := 0) D237_186 rfl rfl rfl ?_
                        refine im_gfR (q := 190) (b := 1793) D237_187 (im_fl cn_237 fl_11_106) sf_0 rfl rfl tR_11_16 rfl ?_
                        refine im_ld (q := 191) (i := 0) D237_190 rfl rfl rfl ?_
                        refine im_gfR (q := 194) (b := 7) D237_191 (im_fl cn_237 fl_11_29) sf_0 rfl rfl tR_11_3 rfl ?_
                        refine im_callV (q := 197) (kd := 1) (y := 246) (n := 1) (ci := 8) (a := 1793) (vs := [.ref 1793, .ref 7]) (r := []) (L2 := [some (.ref 1793), some (.ref 7), none, none]) D237_194 (im_cal cn_237 cl_11_398) (Or.inl rfl) rfl sf_1793 rfl rfl rfl rfl hd ⟨rfl, rfl, trivial⟩ ?_
                        refine hP.mono ?_
                        rintro _ e245 M244 ⟨rfl, rfl, hP⟩
                        refine im_bkN ?_
                        refine im_ld (q := 199) (i := 5) D237_197 rfl rfl rfl ?_
                        exact im_iret (q := 200) D237_199 rfl hP
                  · replace hP := hP.2 hc217
                    refine im_ld (q := 108) (i := 0) D237_107 rfl rfl rfl ?_
                    refine im_gfR (q := 111) (b := 666) D237_108 (im_fl cn_237 fl_11_88) sf_0 rfl rfl tR_11_14 rfl ?_
                    refine im_ld (q := 112) (i := 0) D237_111 rfl rfl rfl ?_
                    refine im_gfR (q := 115) (b := 28) D237_112 (im_fl cn_237 fl_11_49) sf_0 rfl rfl tR_11_6 rfl ?_
                    refine im_ld (q := 116) (i := 1) D237_115 rfl rfl rfl ?_
                    refine im_rng (j := p1) sf_28 hg148.1 hg148.2 (fun hr218 => ?_)
                    refine im_iald (q := 117) D237_116 sf_28 hg148.1 hg148.2 (by decide) rfl ?_
                    refine im_lconst (q := 118) (z := 0) D237_117 rfl ?_
                    refine im_callV (q := 121) (kd := 1) (y := 90) (n := 2) (ci := 9) (a := 666) (vs := [.ref 666, vI (M213 28 p1), vL 0]) (r := []) (L2 := [some (.ref 666), some (vI (M213 28 p1)), some (vL 0), none]) D237_118 (im_cal cn_237 cl_11_322) (Or.inl rfl) rfl sf_666 rfl rfl rfl rfl hd ⟨rfl, rfl, rfl, trivial⟩ ?_
                    refine hP.mono ?_
                    rintro _ e273 M248 ⟨rfl, rfl, hP⟩
                    refine im_bkN ?_
                    refine im_goto (q := 124) (t := 137) D237_121 rfl ?_
                    refine im_ld (q := 138) (i := 0) D237_137 rfl rfl rfl ?_
                    refine im_gfR (q := 141) (b := 1793) D237_138 (im_fl cn_237 fl_11_106) sf_0 rfl rfl tR_11_16 rfl ?_
                    refine im_ld (q := 142) (i := 0) D237_141 rfl rfl rfl ?_
                    refine im_gfR (q := 145) (b := 666) D237_142 (im_fl cn_237 fl_11_88) sf_0 rfl rfl tR_11_14 rfl ?_
                    refine im_ld (q := 146) (i := 2) D237_145 rfl rfl rfl ?_
                    refine im_ifc (q := 149) (t := 156) D237_146 rfl hg13 (fun hc249 => ?_) (fun hc249 => ?_)
                    · replace hP := hP.1 hc249
                      refine im_ld (q := 157) (i := 0) D237_156 rfl rfl rfl ?_
                      refine im_gfR (q := 160) (b := 29) D237_157 (im_fl cn_237 fl_11_55) sf_0 rfl rfl tR_11_7 rfl ?_
                      refine im_ld (q := 161) (i := 1) D237_160 rfl rfl rfl ?_
                      obtain ⟨b250, hb251, hP⟩ := hP
                      obtain ⟨hb252, hP⟩ := hP
                      refine im_aald (q := 162) D237_161 sf_29 (Or.inr rfl) hg148.1 hg148.2 (by decide) hb251 ?_
                      obtain ⟨n253, hb254, hP⟩ := hP
                      refine im_gfR (q := 165) (b := (b250 + 259)) D237_162 (im_fl cn_237 fl_11_326) hb252.1 rfl rfl tR_9_3 rfl ?_
                      refine im_ld (q := 166) (i := 3) D237_165 rfl rfl rfl ?_
                      refine im_ld (q := 168) (i := 4) D237_166 rfl rfl rfl ?_
                      refine im_callV (q := 171) (kd := 1) (y := 238) (n := 4) (ci := 8) (a := 1793) (vs := [.ref 1793, .ref 666, .ref (b250 + 259), vI p3, vI p4]) (r := []) (L2 := [some (.ref 1793), some (.ref 666), some (.ref (b250 + 259)), some (vI p3), some (vI p4), none, none, none, none]) D237_168 (im_cal cn_237 cl_11_395) (Or.inl rfl) rfl sf_1793 rfl rfl rfl rfl hd ⟨rfl, rfl, rfl, rfl, rfl, trivial⟩ ?_
                      refine hP.mono ?_
                      rintro _ e256 M255 ⟨x257, rfl, hP⟩
                      refine im_bkS ?_
                      refine im_st1 (q := 173) (i := 5) (L' := [some (.ref 0), some (vI p1), some (vI p2), some (vI p3), some (vI p4), some (vI x257)]) D237_171 (Or.inr rfl) (Nat.le_of_ble_eq_true rfl) rfl ?_
                      refine im_ld (q := 174) (i := 0) D237_173 rfl rfl rfl ?_
                      refine im_gfR (q := 177) (b := 7) D237_174 (im_fl cn_237 fl_11_29) sf_0 rfl rfl tR_11_3 rfl ?_
                      refine im_callV (q := 180) (kd := 1) (y := 22) (n := 0) (ci := 10) (a := 7) (vs := [.ref 7]) (r := []) (L2 := [some (.ref 7)]) D237_177 (im_cal cn_237 cl_11_155) (Or.inl rfl) rfl sf_7 rfl rfl rfl rfl hd ⟨rfl, trivial⟩ ?_
                      refine hP.mono ?_
                      rintro _ e263 M258 ⟨rfl, rfl, hP⟩
                      refine im_bkN ?_
                      refine im_ld (q := 182) (i := 5) D237_180 rfl rfl rfl ?_
                      refine im_iconst (q := 183) D237_182 ?_
                      obtain ⟨hg259, hP⟩ := hP
                      refine im_icmp (q := 186) (t := 197) D237_183 rfl hg259 (by decide) (fun hc260 => ?_) (fun hc260 => ?_)
                      · replace hP := hP.1 hc260
                        refine im_ld (q := 199) (i := 5) D237_197 rfl rfl rfl ?_
                        exact im_iret (q := 200) D237_199 rfl hP
                      · replace hP := hP.2 (Decidable.not_not.mp hc260)
                        refine im_ld (q := 187) (i := 0) D237_186 rfl rfl rfl ?_
                        refine im_gfR (q := 190) (b := 1793) D237_187 (im_fl cn_237 fl_11_106) sf_0 rfl rfl tR_11_16 rfl ?_
                        refine im_ld (q := 191) (i := 0) D237_190 rfl rfl rfl ?_
                        refine im_gfR (q := 194) (b := 7) D237_191 (im_fl cn_237 fl_11_29) sf_0 rfl rfl tR_11_3 rfl ?_
                        refine im_callV (q := 197) (kd := 1) (y := 246) (n := 1) (ci := 8) (a := 1793) (vs := [.ref 1793, .ref 7]) (r := []) (L2 := [some (.ref 1793), some (.ref 7), none, none]) D237_194 (im_cal cn_237 cl_11_398) (Or.inl rfl) rfl sf_1793 rfl rfl rfl rfl hd ⟨rfl, rfl, trivial⟩ ?_
                        refine hP.mono ?_
                        rintro _ e262 M261 ⟨rfl, rfl, hP⟩
                        refine im_bkN ?_
                        refine im_ld (q := 199) (i := 5) D237_197 rfl rfl rfl ?_
                        exact im_iret (q := 200) D237_199 rfl hP
                    · replace hP := hP.2 hc249
                      refine im_ld (q := 150) (i := 0) D237_149 rfl rfl rfl ?_
                      refine im_gfR (q := 153) (b := 30) D237_150 (im_fl cn_237 fl_11_64) sf_0 rfl rfl tR_11_8 rfl ?_
                      refine im_goto (q := 156) (t := 165) D237_153 rfl ?_
                      refine im_ld (q := 166) (i := 3) D237_165 rfl rfl rfl ?_
                      refine im_ld (q := 168) (i := 4) D237_166 rfl rfl rfl ?_
                      refine im_callV (q := 171) (kd := 1) (y := 238) (n := 4) (ci := 8) (a := 1793) (vs := [.ref 1793, .ref 666, .ref 30, vI p3, vI p4]) (r := []) (L2 := [some (.ref 1793), some (.ref 666), some (.ref 30), some (vI p3), some (vI p4), none, none, none, none]) D237_168 (im_cal cn_237 cl_11_395) (Or.inl rfl) rfl sf_1793 rfl rfl rfl rfl hd ⟨rfl, rfl, rfl, rfl, rfl, trivial⟩ ?_
                      refine hP.mono ?_
                      rintro _ e265 M264 ⟨x266, rfl, hP⟩
                      refine im_bkS ?_
                      refine im_st1 (q := 173) (i := 5) (L' := [some (.ref 0), some (vI p1), some (vI p2), some (vI p3), some (vI p4), some (vI x266)]) D237_171 (Or.inr rfl) (Nat.le_of_ble_eq_true rfl) rfl ?_
                      refine im_ld (q := 174) (i := 0) D237_173 rfl rfl rfl ?_
                      refine im_gfR (q := 177) (b := 7) D237_174 (im_fl cn_237 fl_11_29) sf_0 rfl rfl tR_11_3 rfl ?_
                      refine im_callV (q := 180) (kd := 1) (y := 22) (n := 0) (ci := 10) (a := 7) (vs := [.ref 7]) (r := []) (L2 := [some (.ref 7)]) D237_177 (im_cal cn_237 cl_11_155) (Or.inl rfl) rfl sf_7 rfl rfl rfl rfl hd ⟨rfl, trivial⟩ ?_
                      refine hP.mono ?_
                      rintro _ e272 M267 ⟨rfl, rfl, hP⟩
                      refine im_bkN ?_
                      refine im_ld (q := 182) (i := 5) D237_180 rfl rfl rfl ?_
                      refine im_iconst (q := 183) D237_182 ?_
                      obtain ⟨hg268, hP⟩ := hP
                      refine im_icmp (q := 186) (t := 197) D237_183 rfl hg268 (by decide) (fun hc269 => ?_) (fun hc269 => ?_)
                      · replace hP := hP.1 hc269
                        refine im_ld (q := 199) (i := 5) D237_197 rfl rfl rfl ?_
                        exact im_iret (q := 200) D237_199 rfl hP
                      · replace hP := hP.2 (Decidable.not_not.mp hc269)
                        refine im_ld (q := 187) (i := 0) D237_186 rfl rfl rfl ?_
                        refine im_gfR (q := 190) (b := 1793) D237_187 (im_fl cn_237 fl_11_106) sf_0 rfl rfl tR_11_16 rfl ?_
                        refine im_ld (q := 191) (i := 0) D237_190 rfl rfl rfl ?_
                        refine im_gfR (q := 194) (b := 7) D237_191 (im_fl cn_237 fl_11_29) sf_0 rfl rfl tR_11_3 rfl ?_
                        refine im_callV (q := 197) (kd := 1) (y := 246) (n := 1) (ci := 8) (a := 1793) (vs := [.ref 1793, .ref 7]) (r := []) (L2 := [some (.ref 1793), some (.ref 7), none, none]) D237_194 (im_cal cn_237 cl_11_398) (Or.inl rfl) rfl sf_1793 rfl rfl rfl rfl hd ⟨rfl, rfl, trivial⟩ ?_
                        refine hP.mono ?_
                        rintro _ e271 M270 ⟨rfl, rfl, hP⟩
                        refine im_bkN ?_
                        refine im_ld (q := 199) (i := 5) D237_197 rfl rfl rfl ?_
                        exact im_iret (q := 200) D237_199 rfl hP
                · replace hP := hP.2 hc216
                  refine im_bipush (q := 102) D237_100 rfl ?_
                  exact im_iret (q := 103) D237_102 rfl hP
            · exact im_bkE rfl hX
          · replace hP := hP.2 hc14
            refine im_ld (q := 47) (i := 0) D237_46 rfl rfl rfl ?_
            refine im_gfR (q := 50) (b := 28) D237_47 (im_fl cn_237 fl_11_49) sf_0 rfl rfl tR_11_6 rfl ?_
            refine im_ld (q := 51) (i := 1) D237_50 rfl rfl rfl ?_
            have hg15 := hP
            refine im_rng (j := p1) sf_28 hg15.1 hg15.2 (fun hr16 => ?_)
            refine im_iald (q := 52) D237_51 sf_28 hg15.1 hg15.2 (by decide) rfl ?_
            refine im_iconst (q := 53) D237_52 ?_
            refine im_icmp (q := 56) (t := 60) D237_53 rfl hr16 (by decide) (fun hc17 => ?_) (fun hc17 => ?_)
            · refine im_iconst (q := 61) D237_60 ?_
              refine im_goto (q := 64) (t := 73) D237_61 rfl ?_
              exact (kJ20 (0) (Or.inl ⟨hc14, hc17, rfl⟩)).wk ⟨rfl, rfl, rfl, rfl, rfl, trivial⟩
            · refine im_iconst (q := 57) D237_56 ?_
              refine im_goto (q := 60) (t := 73) D237_57 rfl ?_
              exact (kJ20 (1) (Or.inr ⟨hc14, hc17, rfl⟩)).wk ⟨rfl, rfl, rfl, rfl, rfl, trivial⟩
        · exact im_bkE rfl hX
      refine im_icmp (q := 15) (t := 38) D237_12 rfl hg3 (by decide) (fun hc4 => ?_) (fun hc4 => ?_)
      · exact (kJ10  (Or.inl hc4)).wk ⟨rfl, rfl, rfl, rfl, rfl, trivial⟩
      · replace hP := hP (Int.not_lt.mp hc4)
        refine im_ld (q := 16) (i := 3) D237_15 rfl rfl rfl ?_
        refine im_bipush (q := 18) D237_16 rfl ?_
        refine im_icmp (q := 21) (t := 38) D237_18 rfl hg3 (by decide) (fun hc5 => ?_) (fun hc5 => ?_)
        · exact (kJ10  (Or.inr (Or.inl ⟨(Int.not_lt.mp hc4), hc5⟩))).wk ⟨rfl, rfl, rfl, rfl, rfl, trivial⟩
        · replace hP := hP (Int.not_lt.mp hc5)
          refine im_ld (q := 23) (i := 4) D237_21 rfl rfl rfl ?_
          obtain ⟨hg6, hP⟩ := hP
          refine im_ifc (q := 26) (t := 38) D237_23 rfl hg6 (fun hc7 => ?_) (fun hc7 => ?_)
          · exact (kJ10  (Or.inr (Or.inr (Or.inl ⟨(Int.not_lt.mp hc4), (Int.not_lt.mp hc5), hc7⟩)))).wk ⟨rfl, rfl, rfl, rfl, rfl, trivial⟩
          · replace hP := hP (Int.not_lt.mp hc7)
            refine im_ld (q := 28) (i := 4) D237_26 rfl rfl rfl ?_
            refine im_sipush (q := 31) D237_28 rfl ?_
            refine im_icmp (q := 34) (t := 38) D237_31 rfl hg6 (by decide) (fun hc8 => ?_) (fun hc8 => ?_)
            · exact (kJ10  (Or.inr (Or.inr (Or.inr ⟨(Int.not_lt.mp hc4), (Int.not_lt.mp hc5), (Int.not_lt.mp hc7), hc8⟩)))).wk ⟨rfl, rfl, rfl, rfl, rfl, trivial⟩
            · replace hP := hP (Int.not_lt.mp hc8)
              refine im_iconst (q := 35) D237_34 ?_
              refine im_goto (q := 38) (t := 39) D237_35 rfl ?_
              refine im_callS (q := 42) (kd := 0) (y := 168) (n := 1) (z := 11) (vs := [vI 1]) (r := []) (L2 := [some (vI 1)]) D237_39 rfl (im_cal cn_237 cl_11_195) (Or.inl rfl) rfl rfl rfl rfl rfl hd ⟨rfl, trivial⟩ ?_
              refine hP.mono ?_
              rintro _ e541 M277 (⟨rfl, rfl, hP⟩ | ⟨E_, rfl, hX⟩)
              · refine im_bkN ?_
                refine im_ld (q := 43) (i := 2) D237_42 rfl rfl rfl ?_
                obtain ⟨hg278, hP⟩ := hP
                obtain ⟨hP, hJ284⟩ := hP
                have kJ285 : ∀ x283 : Int, (((¬ p2 = 0) ∧ ((M277 28 p1) = (-1)) ∧ x283 = 0) ∨ ((¬ p2 = 0) ∧ (¬ (M277 28 p1) = (-1)) ∧ x283 = 1)) → im_T g d 237 73 [some (.ref 0), some (vI p1), some (vI p2), some (vI p3), some (vI p4), none] [vI x283] e M277 K := by
                  intro x283 hx286
                  have hP := hJ284 x283 hx286
                  refine im_callS (q := 76) (kd := 0) (y := 167) (n := 1) (z := 11) (vs := [vI x283]) (r := []) (L2 := [some (vI x283)]) D237_73 rfl (im_cal cn_237 cl_11_187) (Or.inl rfl) rfl rfl rfl rfl rfl hd ⟨rfl, trivial⟩ ?_
                  refine hP.mono ?_
                  rintro _ e412 M287 (⟨rfl, rfl, hP⟩ | ⟨E_, rfl, hX⟩)
                  · refine im_bkN ?_
                    refine im_ld (q := 77) (i := 2) D237_76 rfl rfl rfl ?_
                    refine im_ifc (q := 80) (t := 103) D237_77 rfl hg278 (fun hc288 => ?_) (fun hc288 => ?_)
                    · replace hP := hP.1 hc288
                      refine im_ld (q := 104) (i := 2) D237_103 rfl rfl rfl ?_
                      refine im_ifc (q := 107) (t := 124) D237_104 rfl hg278 (fun hc291 => ?_) (fun hc291 => ?_)
                      · replace hP := hP.1 hc291
                        refine im_ld (q := 125) (i := 0) D237_124 rfl rfl rfl ?_
                        refine im_gfR (q := 128) (b := 666) D237_125 (im_fl cn_237 fl_11_88) sf_0 rfl rfl tR_11_14 rfl ?_
                        refine im_ld (q := 129) (i := 0) D237_128 rfl rfl rfl ?_
                        refine im_gfR (q := 132) (b := 29) D237_129 (im_fl cn_237 fl_11_55) sf_0 rfl rfl tR_11_7 rfl ?_
                        refine im_ld (q := 133) (i := 1) D237_132 rfl rfl rfl ?_
                        obtain ⟨hg294, hP⟩ := hP
                        obtain ⟨b295, hb296, hP⟩ := hP
                        obtain ⟨hb297, hP⟩ := hP
                        refine im_aald (q := 134) D237_133 sf_29 (Or.inr rfl) hg294.1 hg294.2 (by decide) hb296 ?_
                        refine im_callV (q := 137) (kd := 1) (y := 107) (n := 1) (ci := 9) (a := 666) (vs := [.ref 666, .ref b295]) (r := []) (L2 := [some (.ref 666), some (.ref b295)]) D237_134 (im_cal cn_237 cl_11_337) (Or.inl rfl) rfl sf_666 rfl rfl rfl rfl hd ⟨rfl, rfl, trivial⟩ ?_
                        refine hP.mono ?_
                        rintro _ e323 M298 ⟨rfl, rfl, hP⟩
                        refine im_bkN ?_
                        refine im_ld (q := 138) (i := 0) D237_137 rfl rfl rfl ?_
                        refine im_gfR (q := 141) (b := 1793) D237_138 (im_fl cn_237 fl_11_106) sf_0 rfl rfl tR_11_16 rfl ?_
                        refine im_ld (q := 142) (i := 0) D237_141 rfl rfl rfl ?_
                        refine im_gfR (q := 145) (b := 666) D237_142 (im_fl cn_237 fl_11_88) sf_0 rfl rfl tR_11_14 rfl ?_
                        refine im_ld (q := 146) (i := 2) D237_145 rfl rfl rfl ?_
                        refine im_ifc (q := 149) (t := 156) D237_146 rfl hg278 (fun hc299 => ?_) (fun hc299 => ?_)
                        · replace hP := hP.1 hc299
                          refine im_ld (q := 157) (i := 0) D237_156 rfl rfl rfl ?_
                          refine im_gfR (q := 160) (b := 29) D237_157 (im_fl cn_237 fl_11_55) sf_0 rfl rfl tR_11_7 rfl ?_
                          refine im_ld (q := 161) (i := 1) D237_160 rfl rfl rfl ?_
                          obtain ⟨b300, hb301, hP⟩ := hP
                          obtain ⟨hb302, hP⟩ := hP
                          refine im_aald (q := 162) D237_161 sf_29 (Or.inr rfl) hg294.1 hg294.2 (by decide) hb301 ?_
                          obtain ⟨n303, hb304, hP⟩ := hP
                          refine im_gfR (q := 165) (b := (b300 + 259)) D237_162 (im_fl cn_237 fl_11_326) hb302.1 rfl rfl tR_9_3 rfl ?_
                          refine im_ld (q := 166) (i := 3) D237_165 rfl rfl rfl ?_
                          refine im_ld (q := 168) (i := 4) D237_166 rfl rfl rfl ?_
                          refine im_callV (q := 171) (kd := 1) (y := 238) (n := 4) (ci := 8) (a := 1793) (vs := [.ref 1793, .ref 666, .ref (b300 + 259), vI p3, vI p4]) (r := []) (L2 := [some (.ref 1793), some (.ref 666), some (.ref (b300 + 259)), some (vI p3), some (vI p4), none, none, none, none]) D237_168 (im_cal cn_237 cl_11_395) (Or.inl rfl) rfl sf_1793 rfl rfl rfl rfl hd ⟨rfl, rfl, rfl, rfl, rfl, trivial⟩ ?_
                          refine hP.mono ?_
                          rintro _ e306 M305 ⟨x307, rfl, hP⟩
                          refine im_bkS ?_
                          refine im_st1 (q := 173) (i := 5) (L' := [some (.ref 0), some (vI p1), some (vI p2), some (vI p3), some (vI p4), some (vI x307)]) D237_171 (Or.inr rfl) (Nat.le_of_ble_eq_true rfl) rfl ?_
                          refine im_ld (q := 174) (i := 0) D237_173 rfl rfl rfl ?_
                          refine im_gfR (q := 177) (b := 7) D237_174 (im_fl cn_237 fl_11_29) sf_0 rfl rfl tR_11_3 rfl ?_
                          refine im_callV (q := 180) (kd := 1) (y := 22) (n := 0) (ci := 10) (a := 7) (vs := [.ref 7]) (r := []) (L2 := [some (.ref 7)]) D237_177 (im_cal cn_237 cl_11_155) (Or.inl rfl) rfl sf_7 rfl rfl rfl rfl hd ⟨rfl, trivial⟩ ?_
                          refine hP.mono ?_
                          rintro _ e313 M308 ⟨rfl, rfl, hP⟩
                          refine im_bkN ?_
                          refine im_ld (q := 182) (i := 5) D237_180 rfl rfl rfl ?_
                          refine im_iconst (q := 183) D237_182 ?_
                          obtain ⟨hg309, hP⟩ := hP
                          refine im_icmp (q := 186) (t := 197) D237_183 rfl hg309 (by decide) (fun hc310 => ?_) (fun hc310 => ?_)
                          · replace hP := hP.1 hc310
                            refine im_ld (q := 199) (i := 5) D237_197 rfl rfl rfl ?_
                            exact im_iret (q := 200) D237_199 rfl hP
                          · replace hP := hP.2 (Decidable.not_not.mp hc310)
                            refine im_ld (q := 187) (i := 0) D237_186 rfl rfl rfl ?_
                            refine im_gfR (q := 190) (b := 1793) D237_187 (im_fl cn_237 fl_11_106) sf_0 rfl rfl tR_11_16 rfl ?_
                            refine im_ld (q := 191) (i := 0) D237_190 rfl rfl rfl ?_
                            refine im_gfR (q := 194) (b := 7) D237_191 (im_fl cn_237 fl_11_29) sf_0 rfl rfl tR_11_3 rfl ?_
                            refine im_callV (q := 197) (kd := 1) (y := 246) (n := 1) (ci := 8) (a := 1793) (vs := [.ref 1793, .ref 7]) (r := []) (L2 := [some (.ref 1793), some (.ref 7), none, none]) D237_194 (im_cal cn_237 cl_11_398) (Or.inl rfl) rfl sf_1793 rfl rfl rfl rfl hd ⟨rfl, rfl, trivial⟩ ?_
                            refine hP.mono ?_
                            rintro _ e312 M311 ⟨rfl, rfl, hP⟩
                            refine im_bkN ?_
                            refine im_ld (q := 199) (i := 5) D237_197 rfl rfl rfl ?_
                            exact im_iret (q := 200) D237_199 rfl hP
                        · replace hP := hP.2 hc299
                          refine im_ld (q := 150) (i := 0) D237_149 rfl rfl rfl ?_
                          refine im_gfR (q := 153) (b := 30) D237_150 (im_fl cn_237 fl_11_64) sf_0 rfl rfl tR_11_8 rfl ?_
                          refine im_goto (q := 156) (t := 165) D237_153 rfl ?_
                          refine im_ld (q := 166) (i := 3) D237_165 rfl rfl rfl ?_
                          refine im_ld (q := 168) (i := 4) D237_166 rfl rfl rfl ?_
                          refine im_callV (q := 171) (kd := 1) (y := 238) (n := 4) (ci := 8) (a := 1793) (vs := [.ref 1793, .ref 666, .ref 30, vI p3, vI p4]) (r := []) (L2 := [some (.ref 1793), some (.ref 666), some (.ref 30), some (vI p3), some (vI p4), none, none, none, none]) D237_168 (im_cal cn_237 cl_11_395) (Or.inl rfl) rfl sf_1793 rfl rfl rfl rfl hd ⟨rfl, rfl, rfl, rfl, rfl, trivial⟩ ?_
                          refine hP.mono ?_
                          rintro _ e315 M314 ⟨x316, rfl, hP⟩
                          refine im_bkS ?_
                          refine im_st1 (q := 173) (i := 5) (L' := [some (.ref 0), some (vI p1), some (vI p2), some (vI p3), some (vI p4), some (vI x316)]) D237_171 (Or.inr rfl) (Nat.le_of_ble_eq_true rfl) rfl ?_
                          refine im_ld (q := 174) (i := 0) D237_173 rfl rfl rfl ?_
                          refine im_gfR (q := 177) (b := 7) D237_174 (im_fl cn_237 fl_11_29) sf_0 rfl rfl tR_11_3 rfl ?_
                          refine im_callV (q := 180) (kd := 1) (y := 22) (n := 0) (ci := 10) (a := 7) (vs := [.ref 7]) (r := []) (L2 := [some (.ref 7)]) D237_177 (im_cal cn_237 cl_11_155) (Or.inl rfl) rfl sf_7 rfl rfl rfl rfl hd ⟨rfl, trivial⟩ ?_
                          refine hP.mono ?_
                          rintro _ e322 M317 ⟨rfl, rfl, hP⟩
                          refine im_bkN ?_
                          refine im_ld (q := 182) (i := 5) D237_180 rfl rfl rfl ?_
                          refine im_iconst (q := 183) D237_182 ?_
                          obtain ⟨hg318, hP⟩ := hP
                          refine im_icmp (q := 186) (t := 197) D237_183 rfl hg318 (by decide) (fun hc319 => ?_) (fun hc319 => ?_)
                          · replace hP := hP.1 hc319
                            refine im_ld (q := 199) (i := 5) D237_197 rfl rfl rfl ?_
                            exact im_iret (q := 200) D237_199 rfl hP
                          · replace hP := hP.2 (Decidable.not_not.mp hc319)
                            refine im_ld (q := 187) (i := 0) D237_186 rfl rfl rfl ?_
                            refine im_gfR (q := 190) (b := 1793) D237_187 (im_fl cn_237 fl_11_106) sf_0 rfl rfl tR_11_16 rfl ?_
                            refine im_ld (q := 191) (i := 0) D237_190 rfl rfl rfl ?_
                            refine im_gfR (q := 194) (b := 7) D237_191 (im_fl cn_237 fl_11_29) sf_0 rfl rfl tR_11_3 rfl ?_
                            refine im_callV (q := 197) (kd := 1) (y := 246) (n := 1) (ci := 8) (a := 1793) (vs := [.ref 1793, .ref 7]) (r := []) (L2 := [some (.ref 1793), some (.ref 7), none, none]) D237_194 (im_cal cn_237 cl_11_398) (Or.inl rfl) rfl sf_1793 rfl rfl rfl rfl hd ⟨rfl, rfl, trivial⟩ ?_
                            refine hP.mono ?_
                            rintro _ e321 M320 ⟨rfl, rfl, hP⟩
                            refine im_bkN ?_
                            refine im_ld (q := 199) (i := 5) D237_197 rfl rfl rfl ?_
                            exact im_iret (q := 200) D237_199 rfl hP
                      · replace hP := hP.2 hc291
                        refine im_ld (q := 108) (i := 0) D237_107 rfl rfl rfl ?_
                        refine im_gfR (q := 111) (b := 666) D237_108 (im_fl cn_237 fl_11_88) sf_0 rfl rfl tR_11_14 rfl ?_
                        refine im_ld (q := 112) (i := 0) D237_111 rfl rfl rfl ?_
                        refine im_gfR (q := 115) (b := 28) D237_112 (im_fl cn_237 fl_11_49) sf_0 rfl rfl tR_11_6 rfl ?_
                        refine im_ld (q := 116) (i := 1) D237_115 rfl rfl rfl ?_
                        obtain ⟨hg292, hP⟩ := hP
                        refine im_rng (j := p1) sf_28 hg292.1 hg292.2 (fun hr293 => ?_)
                        refine im_iald (q := 117) D237_116 sf_28 hg292.1 hg292.2 (by decide) rfl ?_
                        refine im_lconst (q := 118) (z := 0) D237_117 rfl ?_
                        refine im_callV (q := 121) (kd := 1) (y := 90) (n := 2) (ci := 9) (a := 666) (vs := [.ref 666, vI (M287 28 p1), vL 0]) (r := []) (L2 := [some (.ref 666), some (vI (M287 28 p1)), some (vL 0), none]) D237_118 (im_cal cn_237 cl_11_322) (Or.inl rfl) rfl sf_666 rfl rfl rfl rfl hd ⟨rfl, rfl, rfl, trivial⟩ ?_
                        refine hP.mono ?_
                        rintro _ e349 M324 ⟨rfl, rfl, hP⟩
                        refine im_bkN ?_
                        refine im_goto (q := 124) (t := 137) D237_121 rfl ?_
                        refine im_ld (q := 138) (i := 0) D237_137 rfl rfl rfl ?_
                        refine im_gfR (q := 141) (b := 1793) D237_138 (im_fl cn_237 fl_11_106) sf_0 rfl rfl tR_11_16 rfl ?_
                        refine im_ld (q := 142) (i := 0) D237_141 rfl rfl rfl ?_
                        refine im_gfR (q := 145) (b := 666) D237_142 (im_fl cn_237 fl_11_88) sf_0 rfl rfl tR_11_14 rfl ?_
                        refine im_ld (q := 146) (i := 2) D237_145 rfl rfl rfl ?_
                        refine im_ifc (q := 149) (t := 156) D237_146 rfl hg278 (fun hc325 => ?_) (fun hc325 => ?_)
                        · replace hP := hP.1 hc325
                          refine im_ld (q := 157) (i := 0) D237_156 rfl rfl rfl ?_
                          refine im_gfR (q := 160) (b := 29) D237_157 (im_fl cn_237 fl_11_55) sf_0 rfl rfl tR_11_7 rfl ?_
                          refine im_ld (q := 161) (i := 1) D237_160 rfl rfl rfl ?_
                          obtain ⟨b326, hb327, hP⟩ := hP
                          obtain ⟨hb328, hP⟩ := hP
                          refine im_aald (q := 162) D237_161 sf_29 (Or.inr rfl) hg292.1 hg292.2 (by decide) hb327 ?_
                          obtain ⟨n329, hb330, hP⟩ := hP
                          refine im_gfR (q := 165) (b := (b326 + 259)) D237_162 (im_fl cn_237 fl_11_326) hb328.1 rfl rfl tR_9_3 rfl ?_
                          refine im_ld (q := 166) (i := 3) D237_165 rfl rfl rfl ?_
                          refine im_ld (q := 168) (i := 4) D237_166 rfl rfl rfl ?_
                          refine im_callV (q := 171) (kd := 1) (y := 238) (n := 4) (ci := 8) (a := 1793) (vs := [.ref 1793, .ref 666, .ref (b326 + 259), vI p3, vI p4]) (r := []) (L2 := [some (.ref 1793), some (.ref 666), some (.ref (b326 + 259)), some (vI p3), some (vI p4), none, none, none, none]) D237_168 (im_cal cn_237 cl_11_395) (Or.inl rfl) rfl sf_1793 rfl rfl rfl rfl hd ⟨rfl, rfl, rfl, rfl, rfl, trivial⟩ ?_
                          refine hP.mono ?_
                          rintro _ e332 M331 ⟨x333, rfl, hP⟩
                          refine im_bkS ?_
                          refine im_st1 (q := 173) (i := 5) (L' := [some (.ref 0), some (vI p1), some (vI p2), some (vI p3), some (vI p4), some (vI x333)]) D237_171 (Or.inr rfl) (Nat.le_of_ble_eq_true rfl) rfl ?_
                          refine im_ld (q := 174) (i := 0) D237_173 rfl rfl rfl ?_
                          refine im_gfR (q := 177) (b := 7) D237_174 (im_fl cn_237 fl_11_29) sf_0 rfl rfl tR_11_3 rfl ?_
                          refine im_callV (q := 180) (kd := 1) (y := 22) (n := 0) (ci := 10) (a := 7) (vs := [.ref 7]) (r := []) (L2 := [some (.ref 7)]) D237_177 (im_cal cn_237 cl_11_155) (Or.inl rfl) rfl sf_7 rfl rfl rfl rfl hd ⟨rfl, trivial⟩ ?_
                          refine hP.mono ?_
                          rintro _ e339 M334 ⟨rfl, rfl, hP⟩
                          refine im_bkN ?_
                          refine im_ld (q := 182) (i := 5) D237_180 rfl rfl rfl ?_
                          refine im_iconst (q := 183) D237_182 ?_
                          obtain ⟨hg335, hP⟩ := hP
                          refine im_icmp (q := 186) (t := 197) D237_183 rfl hg335 (by decide) (fun hc336 => ?_) (fun hc336 => ?_)
                          · replace hP := hP.1 hc336
                            refine im_ld (q := 199) (i := 5) D237_197 rfl rfl rfl ?_
                            exact im_iret (q := 200) D237_199 rfl hP
                          · replace hP := hP.2 (Decidable.not_not.mp hc336)
                            refine im_ld (q := 187) (i := 0) D237_186 rfl rfl rfl ?_
                            refine im_gfR (q := 190) (b := 1793) D237_187 (im_fl cn_237 fl_11_106) sf_0 rfl rfl tR_11_16 rfl ?_
                            refine im_ld (q := 191) (i := 0) D237_190 rfl rfl rfl ?_
                            refine im_gfR (q := 194) (b := 7) D237_191 (im_fl cn_237 fl_11_29) sf_0 rfl rfl tR_11_3 rfl ?_
                            refine im_callV (q := 197) (kd := 1) (y := 246) (n := 1) (ci := 8) (a := 1793) (vs := [.ref 1793, .ref 7]) (r := []) (L2 := [some (.ref 1793), some (.ref 7), none, none]) D237_194 (im_cal cn_237 cl_11_398) (Or.inl rfl) rfl sf_1793 rfl rfl rfl rfl hd ⟨rfl, rfl, trivial⟩ ?_
                            refine hP.mono ?_
                            rintro _ e338 M337 ⟨rfl, rfl, hP⟩
                            refine im_bkN ?_
                            refine im_ld (q := 199) (i := 5) D237_197 rfl rfl rfl ?_
                            exact im_iret (q := 200) D237_199 rfl hP
                        · replace hP := hP.2 hc325
                          refine im_ld (q := 150) (i := 0) D237_149 rfl rfl rfl ?_
                          refine im_gfR (q := 153) (b := 30) D237_150 (im_fl cn_237 fl_11_64) sf_0 rfl rfl tR_11_8 rfl ?_
                          refine im_goto (q := 156) (t := 165) D237_153 rfl ?_
                          refine im_ld (q := 166) (i := 3) D237_165 rfl rfl rfl ?_
                          refine im_ld (q := 168) (i := 4) D237_166 rfl rfl rfl ?_
                          refine im_callV (q := 171) (kd := 1) (y := 238) (n := 4) (ci := 8) (a := 1793) (vs := [.ref 1793, .ref 666, .ref 30, vI p3, vI p4]) (r := []) (L2 := [some (.ref 1793), some (.ref 666), some (.ref 30), some (vI p3), some (vI p4), none, none, none, none]) D237_168 (im_cal cn_237 cl_11_395) (Or.inl rfl) rfl sf_1793 rfl rfl rfl rfl hd ⟨rfl, rfl, rfl, rfl, rfl, trivial⟩ ?_
                          refine hP.mono ?_
                          rintro _ e341 M340 ⟨x342, rfl, hP⟩
                          refine im_bkS ?_
                          refine im_st1 (q := 173) (i := 5) (L' := [some (.ref 0), some (vI p1), some (vI p2), some (vI p3), some (vI p4), some (vI x342)]) D237_171 (Or.inr rfl) (Nat.le_of_ble_eq_true rfl) rfl ?_
                          refine im_ld (q := 174) (i := 0) D237_173 rfl rfl rfl ?_
                          refine im_gfR (q := 177) (b := 7) D237_174 (im_fl cn_237 fl_11_29) sf_0 rfl rfl tR_11_3 rfl ?_
                          refine im_callV (q := 180) (kd := 1) (y := 22) (n := 0) (ci := 10) (a := 7) (vs := [.ref 7]) (r := []) (L2 := [some (.ref 7)]) D237_177 (im_cal cn_237 cl_11_155) (Or.inl rfl) rfl sf_7 rfl rfl rfl rfl hd ⟨rfl, trivial⟩ ?_
                          refine hP.mono ?_
                          rintro _ e348 M343 ⟨rfl, rfl, hP⟩
                          refine im_bkN ?_
                          refine im_ld (q := 182) (i := 5) D237_180 rfl rfl rfl ?_
                          refine im_iconst (q := 183) D237_182 ?_
                          obtain ⟨hg344, hP⟩ := hP
                          refine im_icmp (q := 186) (t := 197) D237_183 rfl hg344 (by decide) (fun hc345 => ?_) (fun hc345 => ?_)
                          · replace hP := hP.1 hc345
                            refine im_ld (q := 199) (i := 5) D237_197 rfl rfl rfl ?_
                            exact im_iret (q := 200) D237_199 rfl hP
                          · replace hP := hP.2 (Decidable.not_not.mp hc345)
                            refine im_ld (q := 187) (i := 0) D237_186 rfl rfl rfl ?_
                            refine im_gfR (q := 190) (b := 1793) D237_187 (im_fl cn_237 fl_11_106) sf_0 rfl rfl tR_11_16 rfl ?_
                            refine im_ld (q := 191) (i := 0) D237_190 rfl rfl rfl ?_
                            refine im_gfR (q := 194) (b := 7) D237_191 (im_fl cn_237 fl_11_29) sf_0 rfl rfl tR_11_3 rfl ?_
                            refine im_callV (q := 197) (kd := 1) (y := 246) (n := 1) (ci := 8) (a := 1793) (vs := [.ref 1793, .ref 7]) (r := []) (L2 := [some (.ref 1793), some (.ref 7), none, none]) D237_194 (im_cal cn_237 cl_11_398) (Or.inl rfl) rfl sf_1793 rfl rfl rfl rfl hd ⟨rfl, rfl, trivial⟩ ?_
                            refine hP.mono ?_
                            rintro _ e347 M346 ⟨rfl, rfl, hP⟩
                            refine im_bkN ?_
                            refine im_ld (q := 199) (i := 5) D237_197 rfl rfl rfl ?_
                            exact im_iret (q := 200) D237_199 rfl hP
                    · replace hP := hP.2 hc288
                      refine im_ld (q := 81) (i := 0) D237_80 rfl rfl rfl ?_
                      refine im_gfR (q := 84) (b := 13) D237_81 (im_fl cn_237 fl_11_36) sf_0 rfl rfl tR_11_4 rfl ?_
                      refine im_ld (q := 85) (i := 0) D237_84 rfl rfl rfl ?_
                      refine im_gfR (q := 88) (b := 28) D237_85 (im_fl cn_237 fl_11_49) sf_0 rfl rfl tR_11_6 rfl ?_
                      refine im_ld (q := 89) (i := 1) D237_88 rfl rfl rfl ?_
                      obtain ⟨hg289, hP⟩ := hP
                      refine im_rng (j := p1) sf_28 hg289.1 hg289.2 (fun hr290 => ?_)
                      refine im_iald (q := 90) D237_89 sf_28 hg289.1 hg289.2 (by decide) rfl ?_
                      refine im_ld (q := 91) (i := 0) D237_90 rfl rfl rfl ?_
                      refine im_gfR (q := 94) (b := 30) D237_91 (im_fl cn_237 fl_11_64) sf_0 rfl rfl tR_11_8 rfl ?_
                      refine im_callV (q := 97) (kd := 1) (y := 86) (n := 2) (ci := 5) (a := 13) (vs := [.ref 13, vI (M287 28 p1), .ref 30]) (r := []) (L2 := [some (.ref 13), some (vI (M287 28 p1)), some (.ref 30), none, none, none]) D237_94 (im_cal cn_237 cl_11_318) (Or.inl rfl) rfl sf_13 rfl rfl rfl rfl hd ⟨rfl, rfl, rfl, trivial⟩ ?_
                      refine hP.mono ?_
                      rintro _ e411 M350 ⟨x351, rfl, rfl, hP⟩
                      refine im_bkS ?_
                      obtain ⟨hg352, hP⟩ := hP
                      refine im_ifc (q := 100) (t := 103) D237_97 rfl hg352 (fun hc353 => ?_) (fun hc353 => ?_)
                      · replace hP := hP.1 hc353
                        refine im_ld (q := 104) (i := 2) D237_103 rfl rfl rfl ?_
                        refine im_ifc (q := 107) (t := 124) D237_104 rfl hg278 (fun hc354 => ?_) (fun hc354 => ?_)
                        · replace hP := hP.1 hc354
                          refine im_ld (q := 125) (i := 0) D237_124 rfl rfl rfl ?_
                          refine im_gfR (q := 128) (b := 666) D237_125 (im_fl cn_237 fl_11_88) sf_0 rfl rfl tR_11_14 rfl ?_
                          refine im_ld (q := 129) (i := 0) D237_128 rfl rfl rfl ?_
                          refine im_gfR (q := 132) (b := 29) D237_129 (im_fl cn_237 fl_11_55) sf_0 rfl rfl tR_11_7 rfl ?_
                          refine im_ld (q := 133) (i := 1) D237_132 rfl rfl rfl ?_
                          obtain ⟨b356, hb357, hP⟩ := hP
                          obtain ⟨hb358, hP⟩ := hP
                          refine im_aald (q := 134) D237_133 sf_29 (Or.inr rfl) hg289.1 hg289.2 (by decide) hb357 ?_
                          refine im_callV (q := 137) (kd := 1) (y := 107) (n := 1) (ci := 9) (a := 666) (vs := [.ref 666, .ref b356]) (r := []) (L2 := [some (.ref 666), some (.ref b356)]) D237_134 (im_cal cn_237 cl_11_337) (Or.inl rfl) rfl sf_666 rfl rfl rfl rfl hd ⟨rfl, rfl, trivial⟩ ?_
                          refine hP.mono ?_
                          rintro _ e384 M359 ⟨rfl, rfl, hP⟩
                          refine im_bkN ?_
                          refine im_ld (q := 138) (i := 0) D237_137 rfl rfl rfl ?_
                          refine im_gfR (q := 141) (b := 1793) D237_138 (im_fl cn_237 fl_11_106) sf_0 rfl rfl tR_11_16 rfl ?_
                          refine im_ld (q := 142) (i := 0) D237_141 rfl rfl rfl ?_
                          refine im_gfR (q := 145) (b := 666) D237_142 (im_fl cn_237 fl_11_88) sf_0 rfl rfl tR_11_14 rfl ?_
                          refine im_ld (q := 146) (i := 2) D237_145 rfl rfl rfl ?_
                          refine im_ifc (q := 149) (t := 156) D237_146 rfl hg278 (fun hc360 => ?_) (fun hc360 => ?_)
                          · replace hP := hP.1 hc360
                            refine im_ld (q := 157) (i := 0) D237_156 rfl rfl rfl ?_
                            refine im_gfR (q := 160) (b := 29) D237_157 (im_fl cn_237 fl_11_55) sf_0 rfl rfl tR_11_7 rfl ?_
                            refine im_ld (q := 161) (i := 1) D237_160 rfl rfl rfl ?_
                            obtain ⟨b361, hb362, hP⟩ := hP
                            obtain ⟨hb363, hP⟩ := hP
                            refine im_aald (q := 162) D237_161 sf_29 (Or.inr rfl) hg289.1 hg289.2 (by decide) hb362 ?_
                            obtain ⟨n364, hb365, hP⟩ := hP
                            refine im_gfR (q := 165) (b := (b361 + 259)) D237_162 (im_fl cn_237 fl_11_326) hb363.1 rfl rfl tR_9_3 rfl ?_
                            refine im_ld (q := 166) (i := 3) D237_165 rfl rfl rfl ?_
                            refine im_ld (q := 168) (i := 4) D237_166 rfl rfl rfl ?_
                            refine im_callV (q := 171) (kd := 1) (y := 238) (n := 4) (ci := 8) (a := 1793) (vs := [.ref 1793, .ref 666, .ref (b361 + 259), vI p3, vI p4]) (r := []) (L2 := [some (.ref 1793), some (.ref 666), some (.ref (b361 + 259)), some (vI p3), some (vI p4), none, none, none, none]) D237_168 (im_cal cn_237 cl_11_395) (Or.inl rfl) rfl sf_1793 rfl rfl rfl rfl hd ⟨rfl, rfl, rfl, rfl, rfl, trivial⟩ ?_
                            refine hP.mono ?_
                            rintro _ e367 M366 ⟨x368, rfl, hP⟩
                            refine im_bkS ?_
                            refine im_st1 (q := 173) (i := 5) (L' := [some (.ref 0), some (vI p1), some (vI p2), some (vI p3), some (vI p4), some (vI x368)]) D237_171 (Or.inr rfl) (Nat.le_of_ble_eq_true rfl) rfl ?_
                            refine im_ld (q := 174) (i := 0) D237_173 rfl rfl rfl ?_
                            refine im_gfR (q := 177) (b := 7) D237_174 (im_fl cn_237 fl_11_29) sf_0 rfl rfl tR_11_3 rfl ?_
                            refine im_callV (q := 180) (kd := 1) (y := 22) (n := 0) (ci := 10) (a := 7) (vs := [.ref 7]) (r := []) (L2 := [some (.ref 7)]) D237_177 (im_cal cn_237 cl_11_155) (Or.inl rfl) rfl sf_7 rfl rfl rfl rfl hd ⟨rfl, trivial⟩ ?_
                            refine hP.mono ?_
                            rintro _ e374 M369 ⟨rfl, rfl, hP⟩
                            refine im_bkN ?_
                            refine im_ld (q := 182) (i := 5) D237_180 rfl rfl rfl ?_
                            refine im_iconst (q := 183) D237_182 ?_
                            obtain ⟨hg370, hP⟩ := hP
                            refine im_icmp (q := 186) (t := 197) D237_183 rfl hg370 (by decide) (fun hc371 => ?_) (fun hc371 => ?_)
                            · replace hP := hP.1 hc371
                              refine im_ld (q := 199) (i := 5) D237_197 rfl rfl rfl ?_
                              exact im_iret (q := 200) D237_199 rfl hP
                            · replace hP := hP.2 (Decidable.not_not.mp hc371)
                              refine im_ld (q := 187) (i := 0) D237_186 rfl rfl rfl ?_
                              refine im_gfR (q := 190) (b := 1793) D237_187 (im_fl cn_237 fl_11_106) sf_0 rfl rfl tR_11_16 rfl ?_
                              refine im_ld (q := 191) (i := 0) D237_190 rfl rfl rfl ?_
                              refine im_gfR (q := 194) (b := 7) D237_191 (im_fl cn_237 fl_11_29) sf_0 rfl rfl tR_11_3 rfl ?_
                              refine im_callV (q := 197) (kd := 1) (y := 246) (n := 1) (ci := 8) (a := 1793) (vs := [.ref 1793, .ref 7]) (r := []) (L2 := [some (.ref 1793), some (.ref 7), none, none]) D237_194 (im_cal cn_237 cl_11_398) (Or.inl rfl) rfl sf_1793 rfl rfl rfl rfl hd ⟨rfl, rfl, trivial⟩ ?_
                              refine hP.mono ?_
                              rintro _ e373 M372 ⟨rfl, rfl, hP⟩
                              refine im_bkN ?_
                              refine im_ld (q := 199) (i := 5) D237_197 rfl rfl rfl ?_
                              exact im_iret (q := 200) D237_199 rfl hP
                          · replace hP := hP.2 hc360
                            refine im_ld (q := 150) (i := 0) D237_149 rfl rfl rfl ?_
                            refine im_gfR (q := 153) (b := 30) D237_150 (im_fl cn_237 fl_11_64) sf_0 rfl rfl tR_11_8 rfl ?_
                            refine im_goto (q := 156) (t := 165) D237_153 rfl ?_
                            refine im_ld (q := 166) (i := 3) D237_165 rfl rfl rfl ?_
                            refine im_ld (q := 168) (i := 4) D237_166 rfl rfl rfl ?_
                            refine im_callV (q := 171) (kd := 1) (y := 238) (n := 4) (ci := 8) (a := 1793) (vs := [.ref 1793, .ref 666, .ref 30, vI p3, vI p4]) (r := []) (L2 := [some (.ref 1793), some (.ref 666), some (.ref 30), some (vI p3), some (vI p4), none, none, none, none]) D237_168 (im_cal cn_237 cl_11_395) (Or.inl rfl) rfl sf_1793 rfl rfl rfl rfl hd ⟨rfl, rfl, rfl, rfl, rfl, trivial⟩ ?_
                            refine hP.mono ?_
                            rintro _ e376 M375 ⟨x377, rfl, hP⟩
                            refine im_bkS ?_
                            refine im_st1 (q := 173) (i := 5) (L' := [some (.ref 0), some (vI p1), some (vI p2), some (vI p3), some (vI p4), some (vI x377)]) D237_171 (Or.inr rfl) (Nat.le_of_ble_eq_true rfl) rfl ?_
                            refine im_ld (q := 174) (i := 0) D237_173 rfl rfl rfl ?_
                            refine im_gfR (q := 177) (b := 7) D237_174 (im_fl cn_237 fl_11_29) sf_0 rfl rfl tR_11_3 rfl ?_
                            refine im_callV (q := 180) (kd := 1) (y := 22) (n := 0) (ci := 10) (a := 7) (vs := [.ref 7]) (r := []) (L2 := [some (.ref 7)]) D237_177 (im_cal cn_237 cl_11_155) (Or.inl rfl) rfl sf_7 rfl rfl rfl rfl hd ⟨rfl, trivial⟩ ?_
                            refine hP.mono ?_
                            rintro _ e383 M378 ⟨rfl, rfl, hP⟩
                            refine im_bkN ?_
                            refine im_ld (q := 182) (i := 5) D237_180 rfl rfl rfl ?_
                            refine im_iconst (q := 183) D237_182 ?_
                            obtain ⟨hg379, hP⟩ := hP
                            refine im_icmp (q := 186) (t := 197) D237_183 rfl hg379 (by decide) (fun hc380 => ?_) (fun hc380 => ?_)
                            · replace hP := hP.1 hc380
                              refine im_ld (q := 199) (i := 5) D237_197 rfl rfl rfl ?_
                              exact im_iret (q := 200) D237_199 rfl hP
                            · replace hP := hP.2 (Decidable.not_not.mp hc380)
                              refine im_ld (q := 187) (i := 0) D237_186 rfl rfl rfl ?_
                              refine im_gfR (q := 190) (b := 1793) D237_187 (im_fl cn_237 fl_11_106) sf_0 rfl rfl tR_11_16 rfl ?_
                              refine im_ld (q := 191) (i := 0) D237_190 rfl rfl rfl ?_
                              refine im_gfR (q := 194) (b := 7) D237_191 (im_fl cn_237 fl_11_29) sf_0 rfl rfl tR_11_3 rfl ?_
                              refine im_callV (q := 197) (kd := 1) (y := 246) (n := 1) (ci := 8) (a := 1793) (vs := [.ref 1793, .ref 7]) (r := []) (L2 := [some (.ref 1793), some (.ref 7), none, none]) D237_194 (im_cal cn_237 cl_11_398) (Or.inl rfl) rfl sf_1793 rfl rfl rfl rfl hd ⟨rfl, rfl, trivial⟩ ?_
                              refine hP.mono ?_
                              rintro _ e382 M381 ⟨rfl, rfl, hP⟩
                              refine im_bkN ?_
                              refine im_ld (q := 199) (i := 5) D237_197 rfl rfl rfl ?_
                              exact im_iret (q := 200) D237_199 rfl hP
                        · replace hP := hP.2 hc354
                          refine im_ld (q := 108) (i := 0) D237_107 rfl rfl rfl ?_
                          refine im_gfR (q := 111) (b := 666) D237_108 (im_fl cn_237 fl_11_88) sf_0 rfl rfl tR_11_14 rfl ?_
                          refine im_ld (q := 112) (i := 0) D237_111 rfl rfl rfl ?_
                          refine im_gfR (q := 115) (b := 28) D237_112 (im_fl cn_237 fl_11_49) sf_0 rfl rfl tR_11_6 rfl ?_
                          refine im_ld (q := 116) (i := 1) D237_115 rfl rfl rfl ?_
                          refine im_rng (j := p1) sf_28 hg289.1 hg289.2 (fun hr355 => ?_)
                          refine im_iald (q := 117) D237_116 sf_28 hg289.1 hg289.2 (by decide) rfl ?_
                          refine im_lconst (q := 118) (z := 0) D237_117 rfl ?_
                          refine im_callV (q := 121) (kd := 1) (y := 90) (n := 2) (ci := 9) (a := 666) (vs := [.ref 666, vI (M350 28 p1), vL 0]) (r := []) (L2 := [some (.ref 666), some (vI (M350 28 p1)), some (vL 0), none]) D237_118 (im_cal cn_237 cl_11_322) (Or.inl rfl) rfl sf_666 rfl rfl rfl rfl hd ⟨rfl, rfl, rfl, trivial⟩ ?_
                          refine hP.mono ?_
                          rintro _ e410 M385 ⟨rfl, rfl, hP⟩
                          refine im_bkN ?_
                          refine im_goto (q := 124) (t := 137) D237_121 rfl ?_
                          refine im_ld (q := 138) (i := 0) D237_137 rfl rfl rfl ?_
                          refine im_gfR (q := 141) (b := 1793) D237_138 (im_fl cn_237 fl_11_106) sf_0 rfl rfl tR_11_16 rfl ?_
                          refine im_ld (q := 142) (i := 0) D237_141 rfl rfl rfl ?_
                          refine im_gfR (q := 145) (b := 666) D237_142 (im_fl cn_237 fl_11_88) sf_0 rfl rfl tR_11_14 rfl ?_
                          refine im_ld (q := 146) (i := 2) D237_145 rfl rfl rfl ?_
                          refine im_ifc (q := 149) (t := 156) D237_146 rfl hg278 (fun hc386 => ?_) (fun hc386 => ?_)
                          · replace hP := hP.1 hc386
                            refine im_ld (q := 157) (i := 0) D237_156 rfl rfl rfl ?_
                            refine im_gfR (q := 160) (b := 29) D237_157 (im_fl cn_237 fl_11_55) sf_0 rfl rfl tR_11_7 rfl ?_
                            refine im_ld (q := 161) (i := 1) D237_160 rfl rfl rfl ?_
                            obtain ⟨b387, hb388, hP⟩ := hP
                            obtain ⟨hb389, hP⟩ := hP
                            refine im_aald (q := 162) D237_161 sf_29 (Or.inr rfl) hg289.1 hg289.2 (by decide) hb388 ?_
                            obtain ⟨n390, hb391, hP⟩ := hP
                            refine im_gfR (q := 165) (b := (b387 + 259)) D237_162 (im_fl cn_237 fl_11_326) hb389.1 rfl rfl tR_9_3 rfl ?_
                            refine im_ld (q := 166) (i := 3) D237_165 rfl rfl rfl ?_
                            refine im_ld (q := 168) (i := 4) D237_166 rfl rfl rfl ?_
                            refine im_callV (q := 171) (kd := 1) (y := 238) (n := 4) (ci := 8) (a := 1793) (vs := [.ref 1793, .ref 666, .ref (b387 + 259), vI p3, vI p4]) (r := []) (L2 := [some (.ref 1793), some (.ref 666), some (.ref (b387 + 259)), some (vI p3), some (vI p4), none, none, none, none]) D237_168 (im_cal cn_237 cl_11_395) (Or.inl rfl) rfl sf_1793 rfl rfl rfl rfl hd ⟨rfl, rfl, rfl, rfl, rfl, trivial⟩ ?_
                            refine hP.mono ?_
                            rintro _ e393 M392 ⟨x394, rfl, hP⟩
                            refine im_bkS ?_
                            refine im_st1 (q := 173) (i := 5) (L' := [some (.ref 0), some (vI p1), some (vI p2), some (vI p3), some (vI p4), some (vI x394)]) D237_171 (Or.inr rfl) (Nat.le_of_ble_eq_true rfl) rfl ?_
                            refine im_ld (q := 174) (i := 0) D237_173 rfl rfl rfl ?_
                            refine im_gfR (q := 177) (b := 7) D237_174 (im_fl cn_237 fl_11_29) sf_0 rfl rfl tR_11_3 rfl ?_
                            refine im_callV (q := 180) (kd := 1) (y := 22) (n := 0) (ci := 10) (a := 7) (vs := [.ref 7]) (r := []) (L2 := [some (.ref 7)]) D237_177 (im_cal cn_237 cl_11_155) (Or.inl rfl) rfl sf_7 rfl rfl rfl rfl hd ⟨rfl, trivial⟩ ?_
                            refine hP.mono ?_
                            rintro _ e400 M395 ⟨rfl, rfl, hP⟩
                            refine im_bkN ?_
                            refine im_ld (q := 182) (i := 5) D237_180 rfl rfl rfl ?_
                            refine im_iconst (q := 183) D237_182 ?_
                            obtain ⟨hg396, hP⟩ := hP
                            refine im_icmp (q := 186) (t := 197) D237_183 rfl hg396 (by decide) (fun hc397 => ?_) (fun hc397 => ?_)
                            · replace hP := hP.1 hc397
                              refine im_ld (q := 199) (i := 5) D237_197 rfl rfl rfl ?_
                              exact im_iret (q := 200) D237_199 rfl hP
                            · replace hP := hP.2 (Decidable.not_not.mp hc397)
                              refine im_ld (q := 187) (i := 0) D237_186 rfl rfl rfl ?_
                              refine im_gfR (q := 190) (b := 1793) D237_187 (im_fl cn_237 fl_11_106) sf_0 rfl rfl tR_11_16 rfl ?_
                              refine im_ld (q := 191) (i := 0) D237_190 rfl rfl rfl ?_
                              refine im_gfR (q := 194) (b := 7) D237_191 (im_fl cn_237 fl_11_29) sf_0 rfl rfl tR_11_3 rfl ?_
                              refine im_callV (q := 197) (kd := 1) (y := 246) (n := 1) (ci := 8) (a := 1793) (vs := [.ref 1793, .ref 7]) (r := []) (L2 := [some (.ref 1793), some (.ref 7), none, none]) D237_194 (im_cal cn_237 cl_11_398) (Or.inl rfl) rfl sf_1793 rfl rfl rfl rfl hd ⟨rfl, rfl, trivial⟩ ?_
                              refine hP.mono ?_
                              rintro _ e399 M398 ⟨rfl, rfl, hP⟩
                              refine im_bkN ?_
                              refine im_ld (q := 199) (i := 5) D237_197 rfl rfl rfl ?_
                              exact im_iret (q := 200) D237_199 rfl hP
                          · replace hP := hP.2 hc386
                            refine im_ld (q := 150) (i := 0) D237_149 rfl rfl rfl ?_
                            refine im_gfR (q := 153) (b := 30) D237_150 (im_fl cn_237 fl_11_64) sf_0 rfl rfl tR_11_8 rfl ?_
                            refine im_goto (q := 156) (t := 165) D237_153 rfl ?_
                            refine im_ld (q := 166) (i := 3) D237_165 rfl rfl rfl ?_
                            refine im_ld (q := 168) (i := 4) D237_166 rfl rfl rfl ?_
                            refine im_callV (q := 171) (kd := 1) (y := 238) (n := 4) (ci := 8) (a := 1793) (vs := [.ref 1793, .ref 666, .ref 30, vI p3, vI p4]) (r := []) (L2 := [some (.ref 1793), some (.ref 666), some (.ref 30), some (vI p3), some (vI p4), none, none, none, none]) D237_168 (im_cal cn_237 cl_11_395) (Or.inl rfl) rfl sf_1793 rfl rfl rfl rfl hd ⟨rfl, rfl, rfl, rfl, rfl, trivial⟩ ?_
                            refine hP.mono ?_
                            rintro _ e402 M401 ⟨x403, rfl, hP⟩
                            refine im_bkS ?_
                            refine im_st1 (q := 173) (i := 5) (L' := [some (.ref 0), some (vI p1), some (vI p2), some (vI p3), some (vI p4), some (vI x403)]) D237_171 (Or.inr rfl) (Nat.le_of_ble_eq_true rfl) rfl ?_
                            refine im_ld (q := 174) (i := 0) D237_173 rfl rfl rfl ?_
                            refine im_gfR (q := 177) (b := 7) D237_174 (im_fl cn_237 fl_11_29) sf_0 rfl rfl tR_11_3 rfl ?_
                            refine im_callV (q := 180) (kd := 1) (y := 22) (n := 0) (ci := 10) (a := 7) (vs := [.ref 7]) (r := []) (L2 := [some (.ref 7)]) D237_177 (im_cal cn_237 cl_11_155) (Or.inl rfl) rfl sf_7 rfl rfl rfl rfl hd ⟨rfl, trivial⟩ ?_
                            refine hP.mono ?_
                            rintro _ e409 M404 ⟨rfl, rfl, hP⟩
                            refine im_bkN ?_
                            refine im_ld (q := 182) (i := 5) D237_180 rfl rfl rfl ?_
                            refine im_iconst (q := 183) D237_182 ?_
                            obtain ⟨hg405, hP⟩ := hP
                            refine im_icmp (q := 186) (t := 197) D237_183 rfl hg405 (by decide) (fun hc406 => ?_) (fun hc406 => ?_)
                            · replace hP := hP.1 hc406
                              refine im_ld (q := 199) (i := 5) D237_197 rfl rfl rfl ?_
                              exact im_iret (q := 200) D237_199 rfl hP
                            · replace hP := hP.2 (Decidable.not_not.mp hc406)
                              refine im_ld (q := 187) (i := 0) D237_186 rfl rfl rfl ?_
                              refine im_gfR (q := 190) (b := 1793) D237_187 (im_fl cn_237 fl_11_106) sf_0 rfl rfl tR_11_16 rfl ?_
                              refine im_ld (q := 191) (i := 0) D237_190 rfl rfl rfl ?_
                              refine im_gfR (q := 194) (b := 7) D237_191 (im_fl cn_237 fl_11_29) sf_0 rfl rfl tR_11_3 rfl ?_
                              refine im_callV (q := 197) (kd := 1) (y := 246) (n := 1) (ci := 8) (a := 1793) (vs := [.ref 1793, .ref 7]) (r := []) (L2 := [some (.ref 1793), some (.ref 7), none, none]) D237_194 (im_cal cn_237 cl_11_398) (Or.inl rfl) rfl sf_1793 rfl rfl rfl rfl hd ⟨rfl, rfl, trivial⟩ ?_
                              refine hP.mono ?_
                              rintro _ e408 M407 ⟨rfl, rfl, hP⟩
                              refine im_bkN ?_
                              refine im_ld (q := 199) (i := 5) D237_197 rfl rfl rfl ?_
                              exact im_iret (q := 200) D237_199 rfl hP
                      · replace hP := hP.2 hc353
                        refine im_bipush (q := 102) D237_100 rfl ?_
                        exact im_iret (q := 103) D237_102 rfl hP
                  · exact im_bkE rfl hX
                refine im_ifc (q := 46) (t := 64) D237_43 rfl hg278 (fun hc279 => ?_) (fun hc279 => ?_)
                · replace hP := hP.1 hc279
                  refine im_ld (q := 65) (i := 0) D237_64 rfl rfl rfl ?_
                  refine im_gfR (q := 68) (b := 29) D237_65 (im_fl cn_237 fl_11_55) sf_0 rfl rfl tR_11_7 rfl ?_
                  refine im_ld (q := 69) (i := 1) D237_68 rfl rfl rfl ?_
                  obtain ⟨hg413, hP⟩ := hP
                  obtain ⟨b414, hb415, hP⟩ := hP
                  obtain ⟨hb416, hP⟩ := hP
                  refine im_aald (q := 70) D237_69 sf_29 (Or.inr rfl) hg413.1 hg413.2 (by decide) hb415 ?_
                  refine im_rng (j := 6) hb416.1 (by decide) (show (6 : Int) < ((7 : Nat) : Int) by decide) (fun hr417 => ?_)
                  refine im_gfI (q := 73) D237_70 (im_fl cn_237 fl_11_290) hb416.1 rfl rfl tI_9_6 rfl ?_
                  refine im_callS (q := 76) (kd := 0) (y := 167) (n := 1) (z := 11) (vs := [vI (M277 b414 6)]) (r := []) (L2 := [some (vI (M277 b414 6))]) D237_73 rfl (im_cal cn_237 cl_11_187) (Or.inl rfl) rfl rfl rfl rfl rfl hd ⟨rfl, trivial⟩ ?_
                  refine hP.mono ?_
                  rintro _ e540 M418 (⟨rfl, rfl, hP⟩ | ⟨E_, rfl, hX⟩)
                  · refine im_bkN ?_
                    refine im_ld (q := 77) (i := 2) D237_76 rfl rfl rfl ?_
                    refine im_ifc (q := 80) (t := 103) D237_77 rfl hg278 (fun hc419 => ?_) (fun hc419 => ?_)
                    · replace hP := hP.1 hc419
                      refine im_ld (q := 104) (i := 2) D237_103 rfl rfl rfl ?_
                      refine im_ifc (q := 107) (t := 124) D237_104 rfl hg278 (fun hc421 => ?_) (fun hc421 => ?_)
                      · replace hP := hP.1 hc421
                        refine im_ld (q := 125) (i := 0) D237_124 rfl rfl rfl ?_
                        refine im_gfR (q := 128) (b := 666) D237_125 (im_fl cn_237 fl_11_88) sf_0 rfl rfl tR_11_14 rfl ?_
                        refine im_ld (q := 129) (i := 0) D237_128 rfl rfl rfl ?_
                        refine im_gfR (q := 132) (b := 29) D237_129 (im_fl cn_237 fl_11_55) sf_0 rfl rfl tR_11_7 rfl ?_
                        refine im_ld (q := 133) (i := 1) D237_132 rfl rfl rfl ?_
                        obtain ⟨b423, hb424, hP⟩ := hP
                        obtain ⟨hb425, hP⟩ := hP
                        refine im_aald (q := 134) D237_133 sf_29 (Or.inr rfl) hg413.1 hg413.2 (by decide) hb424 ?_
                        refine im_callV (q := 137) (kd := 1) (y := 107) (n := 1) (ci := 9) (a := 666) (vs := [.ref 666, .ref b423]) (r := []) (L2 := [some (.ref 666), some (.ref b423)]) D237_134 (im_cal cn_237 cl_11_337) (Or.inl rfl) rfl sf_666 rfl rfl rfl rfl hd ⟨rfl, rfl, trivial⟩ ?_
                        refine hP.mono ?_
                        rintro _ e451 M426 ⟨rfl, rfl, hP⟩
                        refine im_bkN ?_
                        refine im_ld (q := 138) (i := 0) D237_137 rfl rfl rfl ?_
                        refine im_gfR (q := 141) (b := 1793) D237_138 (im_fl cn_237 fl_11_106) sf_0 rfl rfl tR_11_16 rfl ?_
                        refine im_ld (q := 142) (i := 0) D237_141 rfl rfl rfl ?_
                        refine im_gfR (q := 145) (b := 666) D237_142 (im_fl cn_237 fl_11_88) sf_0 rfl rfl tR_11_14 rfl ?_
                        refine im_ld (q := 146) (i := 2) D237_145 rfl rfl rfl ?_
                        refine im_ifc (q := 149) (t := 156) D237_146 rfl hg278 (fun hc427 => ?_) (fun hc427 => ?_)
                        · replace hP := hP.1 hc427
                          refine im_ld (q := 157) (i := 0) D237_156 rfl rfl rfl ?_
                          refine im_gfR (q := 160) (b := 29) D237_157 (im_fl cn_237 fl_11_55) sf_0 rfl rfl tR_11_7 rfl ?_
                          refine im_ld (q := 161) (i := 1) D237_160 rfl rfl rfl ?_
                          obtain ⟨b428, hb429, hP⟩ := hP
                          obtain ⟨hb430, hP⟩ := hP
                          refine im_aald (q := 162) D237_161 sf_29 (Or.inr rfl) hg413.1 hg413.2 (by decide) hb429 ?_
                          obtain ⟨n431, hb432, hP⟩ := hP
                          refine im_gfR (q := 165) (b := (b428 + 259)) D237_162 (im_fl cn_237 fl_11_326) hb430.1 rfl rfl tR_9_3 rfl ?_
                          refine im_ld (q := 166) (i := 3) D237_165 rfl rfl rfl ?_
                          refine im_ld (q := 168) (i := 4) D237_166 rfl rfl rfl ?_
                          refine im_callV (q := 171) (kd := 1) (y := 238) (n := 4) (ci := 8) (a := 1793) (vs := [.ref 1793, .ref 666, .ref (b428 + 259), vI p3, vI p4]) (r := []) (L2 := [some (.ref 1793), some (.ref 666), some (.ref (b428 + 259)), some (vI p3), some (vI p4), none, none, none, none]) D237_168 (im_cal cn_237 cl_11_395) (Or.inl rfl) rfl sf_1793 rfl rfl rfl rfl hd ⟨rfl, rfl, rfl, rfl, rfl, trivial⟩ ?_
                          refine hP.mono ?_
                          rintro _ e434 M433 ⟨x435, rfl, hP⟩
                          refine im_bkS ?_
                          refine im_st1 (q := 173) (i := 5) (L' := [some (.ref 0), some (vI p1), some (vI p2), some (vI p3), some (vI p4), some (vI x435)]) D237_171 (Or.inr rfl) (Nat.le_of_ble_eq_true rfl) rfl ?_
                          refine im_ld (q := 174) (i := 0) D237_173 rfl rfl rfl ?_
                          refine im_gfR (q := 177) (b := 7) D237_174 (im_fl cn_237 fl_11_29) sf_0 rfl rfl tR_11_3 rfl ?_
                          refine im_callV (q := 180) (kd := 1) (y := 22) (n := 0) (ci := 10) (a := 7) (vs := [.ref 7]) (r := []) (L2 := [some (.ref 7)]) D237_177 (im_cal cn_237 cl_11_155) (Or.inl rfl) rfl sf_7 rfl rfl rfl rfl hd ⟨rfl, trivial⟩ ?_
                          refine hP.mono ?_
                          rintro _ e441 M436 ⟨rfl, rfl, hP⟩
                          refine im_bkN ?_
                          refine im_ld (q := 182) (i := 5) D237_180 rfl rfl rfl ?_
                          refine im_iconst (q := 183) D237_182 ?_
                          obtain ⟨hg437, hP⟩ := hP
                          refine im_icmp (q := 186) (t := 197) D237_183 rfl hg437 (by decide) (fun hc438 => ?_) (fun hc438 => ?_)
                          · replace hP := hP.1 hc438
                            refine im_ld (q := 199) (i := 5) D237_197 rfl rfl rfl ?_
                            exact im_iret (q := 200) D237_199 rfl hP
                          · replace hP := hP.2 (Decidable.not_not.mp hc438)
                            refine im_ld (q := 187) (i := 0) D237_186 rfl rfl rfl ?_
                            refine im_gfR (q := 190) (b := 1793) D237_187 (im_fl cn_237 fl_11_106) sf_0 rfl rfl tR_11_16 rfl ?_
                            refine im_ld (q := 191) (i := 0) D237_190 rfl rfl rfl ?_
                            refine im_gfR (q := 194) (b := 7) D237_191 (im_fl cn_237 fl_11_29) sf_0 rfl rfl tR_11_3 rfl ?_
                            refine im_callV (q := 197) (kd := 1) (y := 246) (n := 1) (ci := 8) (a := 1793) (vs := [.ref 1793, .ref 7]) (r := []) (L2 := [some (.ref 1793), some (.ref 7), none, none]) D237_194 (im_cal cn_237 cl_11_398) (Or.inl rfl) rfl sf_1793 rfl rfl rfl rfl hd ⟨rfl, rfl, trivial⟩ ?_
                            refine hP.mono ?_
                            rintro _ e440 M439 ⟨rfl, rfl, hP⟩
                            refine im_bkN ?_
                            refine im_ld (q := 199) (i := 5) D237_197 rfl rfl rfl ?_
                            exact im_iret (q := 200) D237_199 rfl hP
                        · replace hP := hP.2 hc427
                          refine im_ld (q := 150) (i := 0) D237_149 rfl rfl rfl ?_
                          refine im_gfR (q := 153) (b := 30) D237_150 (im_fl cn_237 fl_11_64) sf_0 rfl rfl tR_11_8 rfl ?_
                          refine im_goto (q := 156) (t := 165) D237_153 rfl ?_
                          refine im_ld (q := 166) (i := 3) D237_165 rfl rfl rfl ?_
                          refine im_ld (q := 168) (i := 4) D237_166 rfl rfl rfl ?_
                          refine im_callV (q := 171) (kd := 1) (y := 238) (n := 4) (ci := 8) (a := 1793) (vs := [.ref 1793, .ref 666, .ref 30, vI p3, vI p4]) (r := []) (L2 := [some (.ref 1793), some (.ref 666), some (.ref 30), some (vI p3), some (vI p4), none, none, none, none]) D237_168 (im_cal cn_237 cl_11_395) (Or.inl rfl) rfl sf_1793 rfl rfl rfl rfl hd ⟨rfl, rfl, rfl, rfl, rfl, trivial⟩ ?_
                          refine hP.mono ?_
                          rintro _ e443 M442 ⟨x444, rfl, hP⟩
                          refine im_bkS ?_
                          refine im_st1 (q := 173) (i := 5) (L' := [some (.ref 0), some (vI p1), some (vI p2), some (vI p3), some (vI p4), some (vI x444)]) D237_171 (Or.inr rfl) (Nat.le_of_ble_eq_true rfl) rfl ?_
                          refine im_ld (q := 174) (i := 0) D237_173 rfl rfl rfl ?_
                          refine im_gfR (q := 177) (b := 7) D237_174 (im_fl cn_237 fl_11_29) sf_0 rfl rfl tR_11_3 rfl ?_
                          refine im_callV (q := 180) (kd := 1) (y := 22) (n := 0) (ci := 10) (a := 7) (vs := [.ref 7]) (r := []) (L2 := [some (.ref 7)]) D237_177 (im_cal cn_237 cl_11_155) (Or.inl rfl) rfl sf_7 rfl rfl rfl rfl hd ⟨rfl, trivial⟩ ?_
                          refine hP.mono ?_
                          rintro _ e450 M445 ⟨rfl, rfl, hP⟩
                          refine im_bkN ?_
                          refine im_ld (q := 182) (i := 5) D237_180 rfl rfl rfl ?_
                          refine im_iconst (q := 183) D237_182 ?_
                          obtain ⟨hg446, hP⟩ := hP
                          refine im_icmp (q := 186) (t := 197) D237_183 rfl hg446 (by decide) (fun hc447 => ?_) (fun hc447 => ?_)
                          · replace hP := hP.1 hc447
                            refine im_ld (q := 199) (i := 5) D237_197 rfl rfl rfl ?_
                            exact im_iret (q := 200) D237_199 rfl hP
                          · replace hP := hP.2 (Decidable.not_not.mp hc447)
                            refine im_ld (q := 187) (i := 0) D237_186 rfl rfl rfl ?_
                            refine im_gfR (q := 190) (b := 1793) D237_187 (im_fl cn_237 fl_11_106) sf_0 rfl rfl tR_11_16 rfl ?_
                            refine im_ld (q := 191) (i := 0) D237_190 rfl rfl rfl ?_
                            refine im_gfR (q := 194) (b := 7) D237_191 (im_fl cn_237 fl_11_29) sf_0 rfl rfl tR_11_3 rfl ?_
                            refine im_callV (q := 197) (kd := 1) (y := 246) (n := 1) (ci := 8) (a := 1793) (vs := [.ref 1793, .ref 7]) (r := []) (L2 := [some (.ref 1793), some (.ref 7), none, none]) D237_194 (im_cal cn_237 cl_11_398) (Or.inl rfl) rfl sf_1793 rfl rfl rfl rfl hd ⟨rfl, rfl, trivial⟩ ?_
                            refine hP.mono ?_
                            rintro _ e449 M448 ⟨rfl, rfl, hP⟩
                            refine im_bkN ?_
                            refine im_ld (q := 199) (i := 5) D237_197 rfl rfl rfl ?_
                            exact im_iret (q := 200) D237_199 rfl hP
                      · replace hP := hP.2 hc421
                        refine im_ld (q := 108) (i := 0) D237_107 rfl rfl rfl ?_
                        refine im_gfR (q := 111) (b := 666) D237_108 (im_fl cn_237 fl_11_88) sf_0 rfl rfl tR_11_14 rfl ?_
                        refine im_ld (q := 112) (i := 0) D237_111 rfl rfl rfl ?_
                        refine im_gfR (q := 115) (b := 28) D237_112 (im_fl cn_237 fl_11_49) sf_0 rfl rfl tR_11_6 rfl ?_
                        refine im_ld (q := 116) (i := 1) D237_115 rfl rfl rfl ?_
                        refine im_rng (j := p1) sf_28 hg413.1 hg413.2 (fun hr422 => ?_)
                        refine im_iald (q := 117) D237_116 sf_28 hg413.1 hg413.2 (by decide) rfl ?_
                        refine im_lconst (q := 118) (z := 0) D237_117 rfl ?_
                        refine im_callV (q := 121) (kd := 1) (y := 90) (n := 2) (ci := 9) (a := 666) (vs := [.ref 666, vI (M418 28 p1), vL 0]) (r := []) (L2 := [some (.ref 666), some (vI (M418 28 p1)), some (vL 0), none]) D237_118 (im_cal cn_237 cl_11_322) (Or.inl rfl) rfl sf_666 rfl rfl rfl rfl hd ⟨rfl, rfl, rfl, trivial⟩ ?_
                        refine hP.mono ?_
                        rintro _ e477 M452 ⟨rfl, rfl, hP⟩
                        refine im_bkN ?_
                        refine im_goto (q := 124) (t := 137) D237_121 rfl ?_
                        refine im_ld (q := 138) (i := 0) D237_137 rfl rfl rfl ?_
                        refine im_gfR (q := 141) (b := 1793) D237_138 (im_fl cn_237 fl_11_106) sf_0 rfl rfl tR_11_16 rfl ?_
                        refine im_ld (q := 142) (i := 0) D237_141 rfl rfl rfl ?_
                        refine im_gfR (q := 145) (b := 666) D237_142 (im_fl cn_237 fl_11_88) sf_0 rfl rfl tR_11_14 rfl ?_
                        refine im_ld (q := 146) (i := 2) D237_145 rfl rfl rfl ?_
                        refine im_ifc (q := 149) (t := 156) D237_146 rfl hg278 (fun hc453 => ?_) (fun hc453 => ?_)
                        · replace hP := hP.1 hc453
                          refine im_ld (q := 157) (i := 0) D237_156 rfl rfl rfl ?_
                          refine im_gfR (q := 160) (b := 29) D237_157 (im_fl cn_237 fl_11_55) sf_0 rfl rfl tR_11_7 rfl ?_
                          refine im_ld (q := 161) (i := 1) D237_160 rfl rfl rfl ?_
                          obtain ⟨b454, hb455, hP⟩ := hP
                          obtain ⟨hb456, hP⟩ := hP
                          refine im_aald (q := 162) D237_161 sf_29 (Or.inr rfl) hg413.1 hg413.2 (by decide) hb455 ?_
                          obtain ⟨n457, hb458, hP⟩ := hP
                          refine im_gfR (q := 165) (b := (b454 + 259)) D237_162 (im_fl cn_237 fl_11_326) hb456.1 rfl rfl tR_9_3 rfl ?_
                          refine im_ld (q := 166) (i := 3) D237_165 rfl rfl rfl ?_
                          refine im_ld (q := 168) (i := 4) D237_166 rfl rfl rfl ?_
                          refine im_callV (q := 171) (kd := 1) (y := 238) (n := 4) (ci := 8) (a := 1793) (vs := [.ref 1793, .ref 666, .ref (b454 + 259), vI p3, vI p4]) (r := []) (L2 := [some (.ref 1793), some (.ref 666), some (.ref (b454 + 259)), some (vI p3), some (vI p4), none, none, none, none]) D237_168 (im_cal cn_237 cl_11_395) (Or.inl rfl) rfl sf_1793 rfl rfl rfl rfl hd ⟨rfl, rfl, rfl, rfl, rfl, trivial⟩ ?_
                          refine hP.mono ?_
                          rintro _ e460 M459 ⟨x461, rfl, hP⟩
                          refine im_bkS ?_
                          refine im_st1 (q := 173) (i := 5) (L' := [some (.ref 0), some (vI p1), some (vI p2), some (vI p3), some (vI p4), some (vI x461)]) D237_171 (Or.inr rfl) (Nat.le_of_ble_eq_true rfl) rfl ?_
                          refine im_ld (q := 174) (i := 0) D237_173 rfl rfl rfl ?_
                          refine im_gfR (q := 177) (b := 7) D237_174 (im_fl cn_237 fl_11_29) sf_0 rfl rfl tR_11_3 rfl ?_
                          refine im_callV (q := 180) (kd := 1) (y := 22) (n := 0) (ci := 10) (a := 7) (vs := [.ref 7]) (r := []) (L2 := [some (.ref 7)]) D237_177 (im_cal cn_237 cl_11_155) (Or.inl rfl) rfl sf_7 rfl rfl rfl rfl hd ⟨rfl, trivial⟩ ?_
                          refine hP.mono ?_
                          rintro _ e467 M462 ⟨rfl, rfl, hP⟩
                          refine im_bkN ?_
                          refine im_ld (q := 182) (i := 5) D237_180 rfl rfl rfl ?_
                          refine im_iconst (q := 183) D237_182 ?_
                          obtain ⟨hg463, hP⟩ := hP
                          refine im_icmp (q := 186) (t := 197) D237_183 rfl hg463 (by decide) (fun hc464 => ?_) (fun hc464 => ?_)
                          · replace hP := hP.1 hc464
                            refine im_ld (q := 199) (i := 5) D237_197 rfl rfl rfl ?_
                            exact im_iret (q := 200) D237_199 rfl hP
                          · replace hP := hP.2 (Decidable.not_not.mp hc464)
                            refine im_ld (q := 187) (i := 0) D237_186 rfl rfl rfl ?_
                            refine im_gfR (q := 190) (b := 1793) D237_187 (im_fl cn_237 fl_11_106) sf_0 rfl rfl tR_11_16 rfl ?_
                            refine im_ld (q := 191) (i := 0) D237_190 rfl rfl rfl ?_
                            refine im_gfR (q := 194) (b := 7) D237_191 (im_fl cn_237 fl_11_29) sf_0 rfl rfl tR_11_3 rfl ?_
                            refine im_callV (q := 197) (kd := 1) (y := 246) (n := 1) (ci := 8) (a := 1793) (vs := [.ref 1793, .ref 7]) (r := []) (L2 := [some (.ref 1793), some (.ref 7), none, none]) D237_194 (im_cal cn_237 cl_11_398) (Or.inl rfl) rfl sf_1793 rfl rfl rfl rfl hd ⟨rfl, rfl, trivial⟩ ?_
                            refine hP.mono ?_
                            rintro _ e466 M465 ⟨rfl, rfl, hP⟩
                            refine im_bkN ?_
                            refine im_ld (q := 199) (i := 5) D237_197 rfl rfl rfl ?_
                            exact im_iret (q := 200) D237_199 rfl hP
                        · replace hP := hP.2 hc453
                          refine im_ld (q := 150) (i := 0) D237_149 rfl rfl rfl ?_
                          refine im_gfR (q := 153) (b := 30) D237_150 (im_fl cn_237 fl_11_64) sf_0 rfl rfl tR_11_8 rfl ?_
                          refine im_goto (q := 156) (t := 165) D237_153 rfl ?_
                          refine im_ld (q := 166) (i := 3) D237_165 rfl rfl rfl ?_
                          refine im_ld (q := 168) (i := 4) D237_166 rfl rfl rfl ?_
                          refine im_callV (q := 171) (kd := 1) (y := 238) (n := 4) (ci := 8) (a := 1793) (vs := [.ref 1793, .ref 666, .ref 30, vI p3, vI p4]) (r := []) (L2 := [some (.ref 1793), some (.ref 666), some (.ref 30), some (vI p3), some (vI p4), none, none, none, none]) D237_168 (im_cal cn_237 cl_11_395) (Or.inl rfl) rfl sf_1793 rfl rfl rfl rfl hd ⟨rfl, rfl, rfl, rfl, rfl, trivial⟩ ?_
                          refine hP.mono ?_
                          rintro _ e469 M468 ⟨x470, rfl, hP⟩
                          refine im_bkS ?_
                          refine im_st1 (q := 173) (i := 5) (L' := [some (.ref 0), some (vI p1), some (vI p2), some (vI p3), some (vI p4), some (vI x470)]) D237_171 (Or.inr rfl) (Nat.le_of_ble_eq_true rfl) rfl ?_
                          refine im_ld (q := 174) (i := 0) D237_173 rfl rfl rfl ?_
                          refine im_gfR (q := 177) (b := 7) D237_174 (im_fl cn_237 fl_11_29) sf_0 rfl rfl tR_11_3 rfl ?_
                          refine im_callV (q := 180) (kd := 1) (y := 22) (n := 0) (ci := 10) (a := 7) (vs := [.ref 7]) (r := []) (L2 := [some (.ref 7)]) D237_177 (im_cal cn_237 cl_11_155) (Or.inl rfl) rfl sf_7 rfl rfl rfl rfl hd ⟨rfl, trivial⟩ ?_
                          refine hP.mono ?_
                          rintro _ e476 M471 ⟨rfl, rfl, hP⟩
                          refine im_bkN ?_
                          refine im_ld (q := 182) (i := 5) D237_180 rfl rfl rfl ?_
                          refine im_iconst (q := 183) D237_182 ?_
                          obtain ⟨hg472, hP⟩ := hP
                          refine im_icmp (q := 186) (t := 197) D237_183 rfl hg472 (by decide) (fun hc473 => ?_) (fun hc473 => ?_)
                          · replace hP := hP.1 hc473
                            refine im_ld (q := 199) (i := 5) D237_197 rfl rfl rfl ?_
                            exact im_iret (q := 200) D237_199 rfl hP
                          · replace hP := hP.2 (Decidable.not_not.mp hc473)
                            refine im_ld (q := 187) (i := 0) D237_186 rfl rfl rfl ?_
                            refine im_gfR (q := 190) (b := 1793) D237_187 (im_fl cn_237 fl_11_106) sf_0 rfl rfl tR_11_16 rfl ?_
                            refine im_ld (q := 191) (i := 0) D237_190 rfl rfl rfl ?_
                            refine im_gfR (q := 194) (b := 7) D237_191 (im_fl cn_237 fl_11_29) sf_0 rfl rfl tR_11_3 rfl ?_
                            refine im_callV (q := 197) (kd := 1) (y := 246) (n := 1) (ci := 8) (a := 1793) (vs := [.ref 1793, .ref 7]) (r := []) (L2 := [some (.ref 1793), some (.ref 7), none, none]) D237_194 (im_cal cn_237 cl_11_398) (Or.inl rfl) rfl sf_1793 rfl rfl rfl rfl hd ⟨rfl, rfl, trivial⟩ ?_
                            refine hP.mono ?_
                            rintro _ e475 M474 ⟨rfl, rfl, hP⟩
                            refine im_bkN ?_
                            refine im_ld (q := 199) (i := 5) D237_197 rfl rfl rfl ?_
                            exact im_iret (q := 200) D237_199 rfl hP
                    · replace hP := hP.2 hc419
                      refine im_ld (q := 81) (i := 0) D237_80 rfl rfl rfl ?_
                      refine im_gfR (q := 84) (b := 13) D237_81 (im_fl cn_237 fl_11_36) sf_0 rfl rfl tR_11_4 rfl ?_
                      refine im_ld (q := 85) (i := 0) D237_84 rfl rfl rfl ?_
                      refine im_gfR (q := 88) (b := 28) D237_85 (im_fl cn_237 fl_11_49) sf_0 rfl rfl tR_11_6 rfl ?_
                      refine im_ld (q := 89) (i := 1) D237_88 rfl rfl rfl ?_
                      refine im_rng (j := p1) sf_28 hg413.1 hg413.2 (fun hr420 => ?_)
                      refine im_iald (q := 90) D237_89 sf_28 hg413.1 hg413.2 (by decide) rfl ?_
                      refine im_ld (q := 91) (i := 0) D237_90 rfl rfl rfl ?_
                      refine im_gfR (q := 94) (b := 30) D237_91 (im_fl cn_237 fl_11_64) sf_0 rfl rfl tR_11_8 rfl ?_
                      refine im_callV (q := 97) (kd := 1) (y := 86) (n := 2) (ci := 5) (a := 13) (vs := [.ref 13, vI (M418 28 p1), .ref 30]) (r := []) (L2 := [some (.ref 13), some (vI (M418 28 p1)), some (.ref 30), none, none, none]) D237_94 (im_cal cn_237 cl_11_318) (Or.inl rfl) rfl sf_13 rfl rfl rfl rfl hd ⟨rfl, rfl, rfl, trivial⟩ ?_
                      refine hP.mono ?_
                      rintro _ e539 M478 ⟨x479, rfl, rfl, hP⟩
                      refine im_bkS ?_
                      obtain ⟨hg480, hP⟩ := hP
                      refine im_ifc (q := 100) (t := 103) D237_97 rfl hg480 (fun hc481 => ?_) (fun hc481 => ?_)
                      · replace hP := hP.1 hc481
                        refine im_ld (q := 104) (i := 2) D237_103 rfl rfl rfl ?_
                        refine im_ifc (q := 107) (t := 124) D237_104 rfl hg278 (fun hc482 => ?_) (fun hc482 => ?_)
                        · replace hP := hP.1 hc482
                          refine im_ld (q := 125) (i := 0) D237_124 rfl rfl rfl ?_
                          refine im_gfR (q := 128) (b := 666) D237_125 (im_fl cn_237 fl_11_88) sf_0 rfl rfl tR_11_14 rfl ?_
                          refine im_ld (q := 129) (i := 0) D237_128 rfl rfl rfl ?_
                          refine im_gfR (q := 132) (b := 29) D237_129 (im_fl cn_237 fl_11_55) sf_0 rfl rfl tR_11_7 rfl ?_
                          refine im_ld (q := 133) (i := 1) D237_132 rfl rfl rfl ?_
                          obtain ⟨b484, hb485, hP⟩ := hP
                          obtain ⟨hb486, hP⟩ := hP
                          refine im_aald (q := 134) D237_133 sf_29 (Or.inr rfl) hg413.1 hg413.2 (by decide) hb485 ?_
                          refine im_callV (q := 137) (kd := 1) (y := 107) (n := 1) (ci := 9) (a := 666) (vs := [.ref 666, .ref b484]) (r := []) (L2 := [some (.ref 666), some (.ref b484)]) D237_134 (im_cal cn_237 cl_11_337) (Or.inl rfl) rfl sf_666 rfl rfl rfl rfl hd ⟨rfl, rfl, trivial⟩ ?_
                          refine hP.mono ?_
                          rintro _ e512 M487 ⟨rfl, rfl, hP⟩
                          refine im_bkN ?_
                          refine im_ld (q := 138) (i := 0) D237_137 rfl rfl rfl ?_
                          refine im_gfR (q := 141) (b := 1793) D237_138 (im_fl cn_237 fl_11_106) sf_0 rfl rfl tR_11_16 rfl ?_
                          refine im_ld (q := 142) (i := 0) D237_141 rfl rfl rfl ?_
                          refine im_gfR (q := 145) (b := 666) D237_142 (im_fl cn_237 fl_11_88) sf_0 rfl rfl tR_11_14 rfl ?_
                          refine im_ld (q := 146) (i := 2) D237_145 rfl rfl rfl ?_
                          refine im_ifc (q := 149) (t := 156) D237_146 rfl hg278 (fun hc488 => ?_) (fun hc488 => ?_)
                          · replace hP := hP.1 hc488
                            refine im_ld (q := 157) (i := 0) D237_156 rfl rfl rfl ?_
                            refine im_gfR (q := 160) (b := 29) D237_157 (im_fl cn_237 fl_11_55) sf_0 rfl rfl tR_11_7 rfl ?_
                            refine im_ld (q := 161) (i := 1) D237_160 rfl rfl rfl ?_
                            obtain ⟨b489, hb490, hP⟩ := hP
                            obtain ⟨hb491, hP⟩ := hP
                            refine im_aald (q := 162) D237_161 sf_29 (Or.inr rfl) hg413.1 hg413.2 (by decide) hb490 ?_
                            obtain ⟨n492, hb493, hP⟩ := hP
                            refine im_gfR (q := 165) (b := (b489 + 259)) D237_162 (im_fl cn_237 fl_11_326) hb491.1 rfl rfl tR_9_3 rfl ?_
                            refine im_ld (q := 166) (i := 3) D237_165 rfl rfl rfl ?_
                            refine im_ld (q := 168) (i := 4) D237_166 rfl rfl rfl ?_
                            refine im_callV (q := 171) (kd := 1) (y := 238) (n := 4) (ci := 8) (a := 1793) (vs := [.ref 1793, .ref 666, .ref (b489 + 259), vI p3, vI p4]) (r := []) (L2 := [some (.ref 1793), some (.ref 666), some (.ref (b489 + 259)), some (vI p3), some (vI p4), none, none, none, none]) D237_168 (im_cal cn_237 cl_11_395) (Or.inl rfl) rfl sf_1793 rfl rfl rfl rfl hd ⟨rfl, rfl, rfl, rfl, rfl, trivial⟩ ?_
                            refine hP.mono ?_
                            rintro _ e495 M494 ⟨x496, rfl, hP⟩
                            refine im_bkS ?_
                            refine im_st1 (q := 173) (i := 5) (L' := [some (.ref 0), some (vI p1), some (vI p2), some (vI p3), some (vI p4), some (vI x496)]) D237_171 (Or.inr rfl) (Nat.le_of_ble_eq_true rfl) rfl ?_
                            refine im_ld (q := 174) (i := 0) D237_173 rfl rfl rfl ?_
                            refine im_gfR (q := 177) (b := 7) D237_174 (im_fl cn_237 fl_11_29) sf_0 rfl rfl tR_11_3 rfl ?_
                            refine im_callV (q := 180) (kd := 1) (y := 22) (n := 0) (ci := 10) (a := 7) (vs := [.ref 7]) (r := []) (L2 := [some (.ref 7)]) D237_177 (im_cal cn_237 cl_11_155) (Or.inl rfl) rfl sf_7 rfl rfl rfl rfl hd ⟨rfl, trivial⟩ ?_
                            refine hP.mono ?_
                            rintro _ e502 M497 ⟨rfl, rfl, hP⟩
                            refine im_bkN ?_
                            refine im_ld (q := 182) (i := 5) D237_180 rfl rfl rfl ?_
                            refine im_iconst (q := 183) D237_182 ?_
                            obtain ⟨hg498, hP⟩ := hP
                            refine im_icmp (q := 186) (t := 197) D237_183 rfl hg498 (by decide) (fun hc499 => ?_) (fun hc499 => ?_)
                            · replace hP := hP.1 hc499
                              refine im_ld (q := 199) (i := 5) D237_197 rfl rfl rfl ?_
                              exact im_iret (q := 200) D237_199 rfl hP
                            · replace hP := hP.2 (Decidable.not_not.mp hc499)
                              refine im_ld (q := 187) (i := 0) D237_186 rfl rfl rfl ?_
                              refine im_gfR (q := 190) (b := 1793) D237_187 (im_fl cn_237 fl_11_106) sf_0 rfl rfl tR_11_16 rfl ?_
                              refine im_ld (q := 191) (i := 0) D237_190 rfl rfl rfl ?_
                              refine im_gfR (q := 194) (b := 7) D237_191 (im_fl cn_237 fl_11_29) sf_0 rfl rfl tR_11_3 rfl ?_
                              refine im_callV (q := 197) (kd := 1) (y := 246) (n := 1) (ci := 8) (a := 1793) (vs := [.ref 1793, .ref 7]) (r := []) (L2 := [some (.ref 1793), some (.ref 7), none, none]) D237_194 (im_cal cn_237 cl_11_398) (Or.inl rfl) rfl sf_1793 rfl rfl rfl rfl hd ⟨rfl, rfl, trivial⟩ ?_
                              refine hP.mono ?_
                              rintro _ e501 M500 ⟨rfl, rfl, hP⟩
                              refine im_bkN ?_
                              refine im_ld (q := 199) (i := 5) D237_197 rfl rfl rfl ?_
                              exact im_iret (q := 200) D237_199 rfl hP
                          · replace hP := hP.2 hc488
                            refine im_ld (q := 150) (i := 0) D237_149 rfl rfl rfl ?_
                            refine im_gfR (q := 153) (b := 30) D237_150 (im_fl cn_237 fl_11_64) sf_0 rfl rfl tR_11_8 rfl ?_
                            refine im_goto (q := 156) (t := 165) D237_153 rfl ?_
                            refine im_ld (q := 166) (i := 3) D237_165 rfl rfl rfl ?_
                            refine im_ld (q := 168) (i := 4) D237_166 rfl rfl rfl ?_
                            refine im_callV (q := 171) (kd := 1) (y := 238) (n := 4) (ci := 8) (a := 1793) (vs := [.ref 1793, .ref 666, .ref 30, vI p3, vI p4]) (r := []) (L2 := [some (.ref 1793), some (.ref 666), some (.ref 30), some (vI p3), some (vI p4), none, none, none, none]) D237_168 (im_cal cn_237 cl_11_395) (Or.inl rfl) rfl sf_1793 rfl rfl rfl rfl hd ⟨rfl, rfl, rfl, rfl, rfl, trivial⟩ ?_
                            refine hP.mono ?_
                            rintro _ e504 M503 ⟨x505, rfl, hP⟩
                            refine im_bkS ?_
                            refine im_st1 (q := 173) (i := 5) (L' := [some (.ref 0), some (vI p1), some (vI p2), some (vI p3), some (vI p4), some (vI x505)]) D237_171 (Or.inr rfl) (Nat.le_of_ble_eq_true rfl) rfl ?_
                            refine im_ld (q := 174) (i := 0) D237_173 rfl rfl rfl ?_
                            refine im_gfR (q := 177) (b := 7) D237_174 (im_fl cn_237 fl_11_29) sf_0 rfl rfl tR_11_3 rfl ?_
                            refine im_callV (q := 180) (kd := 1) (y := 22) (n := 0) (ci := 10) (a := 7) (vs := [.ref 7]) (r := []) (L2 := [some (.ref 7)]) D237_177 (im_cal cn_237 cl_11_155) (Or.inl rfl) rfl sf_7 rfl rfl rfl rfl hd ⟨rfl, trivial⟩ ?_
                            refine hP.mono ?_
                            rintro _ e511 M506 ⟨rfl, rfl, hP⟩
                            refine im_bkN ?_
                            refine im_ld (q := 182) (i := 5) D237_180 rfl rfl rfl ?_
                            refine im_iconst (q := 183) D237_182 ?_
                            obtain ⟨hg507, hP⟩ := hP
                            refine im_icmp (q := 186) (t := 197) D237_183 rfl hg507 (by decide) (fun hc508 => ?_) (fun hc508 => ?_)
                            · replace hP := hP.1 hc508
                              refine im_ld (q := 199) (i := 5) D237_197 rfl rfl rfl ?_
                              exact im_iret (q := 200) D237_199 rfl hP
                            · replace hP := hP.2 (Decidable.not_not.mp hc508)
                              refine im_ld (q := 187) (i := 0) D237_186 rfl rfl rfl ?_
                              refine im_gfR (q := 190) (b := 1793) D237_187 (im_fl cn_237 fl_11_106) sf_0 rfl rfl tR_11_16 rfl ?_
                              refine im_ld (q := 191) (i := 0) D237_190 rfl rfl rfl ?_
                              refine im_gfR (q := 194) (b := 7) D237_191 (im_fl cn_237 fl_11_29) sf_0 rfl rfl tR_11_3 rfl ?_
                              refine im_callV (q := 197) (kd := 1) (y := 246) (n := 1) (ci := 8) (a := 1793) (vs := [.ref 1793, .ref 7]) (r := []) (L2 := [some (.ref 1793), some (.ref 7), none, none]) D237_194 (im_cal cn_237 cl_11_398) (Or.inl rfl) rfl sf_1793 rfl rfl rfl rfl hd ⟨rfl, rfl, trivial⟩ ?_
                              refine hP.mono ?_
                              rintro _ e510 M509 ⟨rfl, rfl, hP⟩
                              refine im_bkN ?_
                              refine im_ld (q := 199) (i := 5) D237_197 rfl rfl rfl ?_
                              exact im_iret (q := 200) D237_199 rfl hP
                        · replace hP := hP.2 hc482
                          refine im_ld (q := 108) (i := 0) D237_107 rfl rfl rfl ?_
                          refine im_gfR (q := 111) (b := 666) D237_108 (im_fl cn_237 fl_11_88) sf_0 rfl rfl tR_11_14 rfl ?_
                          refine im_ld (q := 112) (i := 0) D237_111 rfl rfl rfl ?_
                          refine im_gfR (q := 115) (b := 28) D237_112 (im_fl cn_237 fl_11_49) sf_0 rfl rfl tR_11_6 rfl ?_
                          refine im_ld (q := 116) (i := 1) D237_115 rfl rfl rfl ?_
                          refine im_rng (j := p1) sf_28 hg413.1 hg413.2 (fun hr483 => ?_)
                          refine im_iald (q := 117) D237_116 sf_28 hg413.1 hg413.2 (by decide) rfl ?_
                          refine im_lconst (q := 118) (z := 0) D237_117 rfl ?_
                          refine im_callV (q := 121) (kd := 1) (y := 90) (n := 2) (ci := 9) (a := 666) (vs := [.ref 666, vI (M478 28 p1), vL 0]) (r := []) (L2 := [some (.ref 666), some (vI (M478 28 p1)), some (vL 0), none]) D237_118 (im_cal cn_237 cl_11_322) (Or.inl rfl) rfl sf_666 rfl rfl rfl rfl hd ⟨rfl, rfl, rfl, trivial⟩ ?_
                          refine hP.mono ?_
                          rintro _ e538 M513 ⟨rfl, rfl, hP⟩
                          refine im_bkN ?_
                          refine im_goto (q := 124) (t := 137) D237_121 rfl ?_
                          refine im_ld (q := 138) (i := 0) D237_137 rfl rfl rfl ?_
                          refine im_gfR (q := 141) (b := 1793) D237_138 (im_fl cn_237 fl_11_106) sf_0 rfl rfl tR_11_16 rfl ?_
                          refine im_ld (q := 142) (i := 0) D237_141 rfl rfl rfl ?_
                          refine im_gfR (q := 145) (b := 666) D237_142 (im_fl cn_237 fl_11_88) sf_0 rfl rfl tR_11_14 rfl ?_
                          refine im_ld (q := 146) (i := 2) D237_145 rfl rfl rfl ?_
                          refine im_ifc (q := 149) (t := 156) D237_146 rfl hg278 (fun hc514 => ?_) (fun hc514 => ?_)
                          · replace hP := hP.1 hc514
                            refine im_ld (q := 157) (i := 0) D237_156 rfl rfl rfl ?_
                            refine im_gfR (q := 160) (b := 29) D237_157 (im_fl cn_237 fl_11_55) sf_0 rfl rfl tR_11_7 rfl ?_
                            refine im_ld (q := 161) (i := 1) D237_160 rfl rfl rfl ?_
                            obtain ⟨b515, hb516, hP⟩ := hP
                            obtain ⟨hb517, hP⟩ := hP
                            refine im_aald (q := 162) D237_161 sf_29 (Or.inr rfl) hg413.1 hg413.2 (by decide) hb516 ?_
                            obtain ⟨n518, hb519, hP⟩ := hP
                            refine im_gfR (q := 165) (b := (b515 + 259)) D237_162 (im_fl cn_237 fl_11_326) hb517.1 rfl rfl tR_9_3 rfl ?_
                            refine im_ld (q := 166) (i := 3) D237_165 rfl rfl rfl ?_
                            refine im_ld (q := 168) (i := 4) D237_166 rfl rfl rfl ?_
                            refine im_callV (q := 171) (kd := 1) (y := 238) (n := 4) (ci := 8) (a := 1793) (vs := [.ref 1793, .ref 666, .ref (b515 + 259), vI p3, vI p4]) (r := []) (L2 := [some (.ref 1793), some (.ref 666), some (.ref (b515 + 259)), some (vI p3), some (vI p4), none, none, none, none]) D237_168 (im_cal cn_237 cl_11_395) (Or.inl rfl) rfl sf_1793 rfl rfl rfl rfl hd ⟨rfl, rfl, rfl, rfl, rfl, trivial⟩ ?_
                            refine hP.mono ?_
                            rintro _ e521 M520 ⟨x522, rfl, hP⟩
                            refine im_bkS ?_
                            refine im_st1 (q := 173) (i := 5) (L' := [some (.ref 0), some (vI p1), some (vI p2), some (vI p3), some (vI p4), some (vI x522)]) D237_171 (Or.inr rfl) (Nat.le_of_ble_eq_true rfl) rfl ?_
                            refine im_ld (q := 174) (i := 0) D237_173 rfl rfl rfl ?_
                            refine im_gfR (q := 177) (b := 7) D237_174 (im_fl cn_237 fl_11_29) sf_0 rfl rfl tR_11_3 rfl ?_
                            refine im_callV (q := 180) (kd := 1) (y := 22) (n := 0) (ci := 10) (a := 7) (vs := [.ref 7]) (r := []) (L2 := [some (.ref 7)]) D237_177 (im_cal cn_237 cl_11_155) (Or.inl rfl) rfl sf_7 rfl rfl rfl rfl hd ⟨rfl, trivial⟩ ?_
                            refine hP.mono ?_
                            rintro _ e528 M523 ⟨rfl, rfl, hP⟩
                            refine im_bkN ?_
                            refine im_ld (q := 182) (i := 5) D237_180 rfl rfl rfl ?_
                            refine im_iconst (q := 183) D237_182 ?_
                            obtain ⟨hg524, hP⟩ := hP
                            refine im_icmp (q := 186) (t := 197) D237_183 rfl hg524 (by decide) (fun hc525 => ?_) (fun hc525 => ?_)
                            · replace hP := hP.1 hc525
                              refine im_ld (q := 199) (i := 5) D237_197 rfl rfl rfl ?_
                              exact im_iret (q := 200) D237_199 rfl hP
                            · replace hP := hP.2 (Decidable.not_not.mp hc525)
                              refine im_ld (q := 187) (i := 0) D237_186 rfl rfl rfl ?_
                              refine im_gfR (q := 190) (b := 1793) D237_187 (im_fl cn_237 fl_11_106) sf_0 rfl rfl tR_11_16 rfl ?_
                              refine im_ld (q := 191) (i := 0) D237_190 rfl rfl rfl ?_
                              refine im_gfR (q := 194) (b := 7) D237_191 (im_fl cn_237 fl_11_29) sf_0 rfl rfl tR_11_3 rfl ?_
                              refine im_callV (q := 197) (kd := 1) (y := 246) (n := 1) (ci := 8) (a := 1793) (vs := [.ref 1793, .ref 7]) (r := []) (L2 := [some (.ref 1793), some (.ref 7), none, none]) D237_194 (im_cal cn_237 cl_11_398) (Or.inl rfl) rfl sf_1793 rfl rfl rfl rfl hd ⟨rfl, rfl, trivial⟩ ?_
                              refine hP.mono ?_
                              rintro _ e527 M526 ⟨rfl, rfl, hP⟩
                              refine im_bkN ?_
                              refine im_ld (q := 199) (i := 5) D237_197 rfl rfl rfl ?_
                              exact im_iret (q := 200) D237_199 rfl hP
                          · replace hP := hP.2 hc514
                            refine im_ld (q := 150) (i := 0) D237_149 rfl rfl rfl ?_
                            refine im_gfR (q := 153) (b := 30) D237_150 (im_fl cn_237 fl_11_64) sf_0 rfl rfl tR_11_8 rfl ?_
                            refine im_goto (q := 156) (t := 165) D237_153 rfl ?_
                            refine im_ld (q := 166) (i := 3) D237_165 rfl rfl rfl ?_
                            refine im_ld (q := 168) (i := 4) D237_166 rfl rfl rfl ?_
                            refine im_callV (q := 171) (kd := 1) (y := 238) (n := 4) (ci := 8) (a := 1793) (vs := [.ref 1793, .ref 666, .ref 30, vI p3, vI p4]) (r := []) (L2 := [some (.ref 1793), some (.ref 666), some (.ref 30), some (vI p3), some (vI p4), none, none, none, none]) D237_168 (im_cal cn_237 cl_11_395) (Or.inl rfl) rfl sf_1793 rfl rfl rfl rfl hd ⟨rfl, rfl, rfl, rfl, rfl, trivial⟩ ?_
                            refine hP.mono ?_
                            rintro _ e530 M529 ⟨x531, rfl, hP⟩
                            refine im_bkS ?_
                            refine im_st1 (q := 173) (i := 5) (L' := [some (.ref 0), some (vI p1), some (vI p2), some (vI p3), some (vI p4), some (vI x531)]) D237_171 (Or.inr rfl) (Nat.le_of_ble_eq_true rfl) rfl ?_
                            refine im_ld (q := 174) (i := 0) D237_173 rfl rfl rfl ?_
                            refine im_gfR (q := 177) (b := 7) D237_174 (im_fl cn_237 fl_11_29) sf_0 rfl rfl tR_11_3 rfl ?_
                            refine im_callV (q := 180) (kd := 1) (y := 22) (n := 0) (ci := 10) (a := 7) (vs := [.ref 7]) (r := []) (L2 := [some (.ref 7)]) D237_177 (im_cal cn_237 cl_11_155) (Or.inl rfl) rfl sf_7 rfl rfl rfl rfl hd ⟨rfl, trivial⟩ ?_
                            refine hP.mono ?_
                            rintro _ e537 M532 ⟨rfl, rfl, hP⟩
                            refine im_bkN ?_
                            refine im_ld (q := 182) (i := 5) D237_180 rfl rfl rfl ?_
                            refine im_iconst (q := 183) D237_182 ?_
                            obtain ⟨hg533, hP⟩ := hP
                            refine im_icmp (q := 186) (t := 197) D237_183 rfl hg533 (by decide) (fun hc534 => ?_) (fun hc534 => ?_)
                            · replace hP := hP.1 hc534
                              refine im_ld (q := 199) (i := 5) D237_197 rfl rfl rfl ?_
                              exact im_iret (q := 200) D237_199 rfl hP
                            · replace hP := hP.2 (Decidable.not_not.mp hc534)
                              refine im_ld (q := 187) (i := 0) D237_186 rfl rfl rfl ?_
                              refine im_gfR (q := 190) (b := 1793) D237_187 (im_fl cn_237 fl_11_106) sf_0 rfl rfl tR_11_16 rfl ?_
                              refine im_ld (q := 191) (i := 0) D237_190 rfl rfl rfl ?_
                              refine im_gfR (q := 194) (b := 7) D237_191 (im_fl cn_237 fl_11_29) sf_0 rfl rfl tR_11_3 rfl ?_
                              refine im_callV (q := 197) (kd := 1) (y := 246) (n := 1) (ci := 8) (a := 1793) (vs := [.ref 1793, .ref 7]) (r := []) (L2 := [some (.ref 1793), some (.ref 7), none, none]) D237_194 (im_cal cn_237 cl_11_398) (Or.inl rfl) rfl sf_1793 rfl rfl rfl rfl hd ⟨rfl, rfl, trivial⟩ ?_
                              refine hP.mono ?_
                              rintro _ e536 M535 ⟨rfl, rfl, hP⟩
                              refine im_bkN ?_
                              refine im_ld (q := 199) (i := 5) D237_197 rfl rfl rfl ?_
                              exact im_iret (q := 200) D237_199 rfl hP
                      · replace hP := hP.2 hc481
                        refine im_bipush (q := 102) D237_100 rfl ?_
                        exact im_iret (q := 103) D237_102 rfl hP
                  · exact im_bkE rfl hX
                · replace hP := hP.2 hc279
                  refine im_ld (q := 47) (i := 0) D237_46 rfl rfl rfl ?_
                  refine im_gfR (q := 50) (b := 28) D237_47 (im_fl cn_237 fl_11_49) sf_0 rfl rfl tR_11_6 rfl ?_
                  refine im_ld (q := 51) (i := 1) D237_50 rfl rfl rfl ?_
                  have hg280 := hP
                  refine im_rng (j := p1) sf_28 hg280.1 hg280.2 (fun hr281 => ?_)
                  refine im_iald (q := 52) D237_51 sf_28 hg280.1 hg280.2 (by decide) rfl ?_
                  refine im_iconst (q := 53) D237_52 ?_
                  refine im_icmp (q := 56) (t := 60) D237_53 rfl hr281 (by decide) (fun hc282 => ?_) (fun hc282 => ?_)
                  · refine im_iconst (q := 61) D237_60 ?_
                    refine im_goto (q := 64) (t := 73) D237_61 rfl ?_
                    exact (kJ285 (0) (Or.inl ⟨hc279, hc282, rfl⟩)).wk ⟨rfl, rfl, rfl, rfl, rfl, trivial⟩
                  · refine im_iconst (q := 57) D237_56 ?_
                    refine im_goto (q := 60) (t := 73) D237_57 rfl ?_
                    exact (kJ285 (1) (Or.inr ⟨hc279, hc282, rfl⟩)).wk ⟨rfl, rfl, rfl, rfl, rfl, trivial⟩
              · exact im_bkE rfl hX
    · exact im_bkE rfl hX
  · exact im_bkE rfl hX

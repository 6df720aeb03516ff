/-! blocks of the reference -/
theorem D289_0 {g : im_g} : im_D g 289 0 (.aload_n 0) 1 := im_D.of (by decide +kernel)
theorem D289_1 {g : im_g} : im_D g 289 1 (.getfield 591) 4 := im_D.of (by decide +kernel)
theorem D289_4 {g : im_g} : im_D g 289 4 (.iconst 1) 5 := im_D.of (by decide +kernel)
theorem D289_5 {g : im_g} : im_D g 289 5 (.if_icmp .ne 8) 8 := im_D.of (by decide +kernel)
theorem D289_8 {g : im_g} : im_D g 289 8 (.bipush 20) 10 := im_D.of (by decide +kernel)
theorem D289_10 {g : im_g} : im_D g 289 10 (.goto 35) 13 := im_D.of (by decide +kernel)
theorem D289_13 {g : im_g} : im_D g 289 13 (.aload_n 0) 14 := im_D.of (by decide +kernel)
theorem D289_14 {g : im_g} : im_D g 289 14 (.getfield 591) 17 := im_D.of (by decide +kernel)
theorem D289_17 {g : im_g} : im_D g 289 17 (.iconst 4) 18 := im_D.of (by decide +kernel)
theorem D289_18 {g : im_g} : im_D g 289 18 (.if_icmp .ne 8) 21 := im_D.of (by decide +kernel)
theorem D289_21 {g : im_g} : im_D g 289 21 (.bipush 21) 23 := im_D.of (by decide +kernel)
theorem D289_23 {g : im_g} : im_D g 289 23 (.goto 22) 26 := im_D.of (by decide +kernel)
theorem D289_26 {g : im_g} : im_D g 289 26 (.aload_n 0) 27 := im_D.of (by decide +kernel)
theorem D289_27 {g : im_g} : im_D g 289 27 (.getfield 591) 30 := im_D.of (by decide +kernel)
theorem D289_30 {g : im_g} : im_D g 289 30 (.iconst 2) 31 := im_D.of (by decide +kernel)
theorem D289_31 {g : im_g} : im_D g 289 31 (.if_icmp .ne 13) 34 := im_D.of (by decide +kernel)
theorem D289_34 {g : im_g} : im_D g 289 34 (.aload_n 0) 35 := im_D.of (by decide +kernel)
theorem D289_35 {g : im_g} : im_D g 289 35 (.getfield 597) 38 := im_D.of (by decide +kernel)
theorem D289_38 {g : im_g} : im_D g 289 38 (.invokestatic 656) 41 := im_D.of (by decide +kernel)
theorem D289_41 {g : im_g} : im_D g 289 41 (.goto 4) 44 := im_D.of (by decide +kernel)
theorem D289_44 {g : im_g} : im_D g 289 44 (.iconst 0) 45 := im_D.of (by decide +kernel)
theorem D289_45 {g : im_g} : im_D g 289 45 (.istore 4) 47 := im_D.of (by decide +kernel)
theorem D289_47 {g : im_g} : im_D g 289 47 (.iload 4) 49 := im_D.of (by decide +kernel)
theorem D289_49 {g : im_g} : im_D g 289 49 (.ifCond .ne 8) 52 := im_D.of (by decide +kernel)
theorem D289_52 {g : im_g} : im_D g 289 52 (.aload_n 0) 53 := im_D.of (by decide +kernel)
theorem D289_53 {g : im_g} : im_D g 289 53 (.invokevirtual 639) 56 := im_D.of (by decide +kernel)
theorem D289_56 {g : im_g} : im_D g 289 56 (.return_) 57 := im_D.of (by decide +kernel)
theorem D289_57 {g : im_g} : im_D g 289 57 (.aload_n 0) 58 := im_D.of (by decide +kernel)
theorem D289_58 {g : im_g} : im_D g 289 58 (.iload 4) 60 := im_D.of (by decide +kernel)
theorem D289_60 {g : im_g} : im_D g 289 60 (.iload_n 3) 61 := im_D.of (by decide +kernel)
theorem D289_61 {g : im_g} : im_D g 289 61 (.invokevirtual 642) 64 := im_D.of (by decide +kernel)
theorem D289_64 {g : im_g} : im_D g 289 64 (.istore 5) 66 := im_D.of (by decide +kernel)
theorem D289_66 {g : im_g} : im_D g 289 66 (.iload 5) 68 := im_D.of (by decide +kernel)
theorem D289_68 {g : im_g} : im_D g 289 68 (.iconst (-1)) 69 := im_D.of (by decide +kernel)
theorem D289_69 {g : im_g} : im_D g 289 69 (.if_icmp .ne 4) 72 := im_D.of (by decide +kernel)
theorem D289_72 {g : im_g} : im_D g 289 72 (.return_) 73 := im_D.of (by decide +kernel)
theorem D289_73 {g : im_g} : im_D g 289 73 (.aload_n 0) 74 := im_D.of (by decide +kernel)
theorem D289_74 {g : im_g} : im_D g 289 74 (.iload_n 1) 75 := im_D.of (by decide +kernel)
theorem D289_75 {g : im_g} : im_D g 289 75 (.iload_n 2) 76 := im_D.of (by decide +kernel)
theorem D289_76 {g : im_g} : im_D g 289 76 (.iload 5) 78 := im_D.of (by decide +kernel)
theorem D289_78 {g : im_g} : im_D g 289 78 (.invokevirtual 645) 81 := im_D.of (by decide +kernel)
theorem D289_81 {g : im_g} : im_D g 289 81 (.iload 4) 83 := im_D.of (by decide +kernel)
theorem D289_83 {g : im_g} : im_D g 289 83 (.bipush 20) 85 := im_D.of (by decide +kernel)
theorem D289_85 {g : im_g} : im_D g 289 85 (.if_icmp .ne 14) 88 := im_D.of (by decide +kernel)
theorem D289_88 {g : im_g} : im_D g 289 88 (.aload_n 0) 89 := im_D.of (by decide +kernel)
theorem D289_89 {g : im_g} : im_D g 289 89 (.getfield 57) 92 := im_D.of (by decide +kernel)
theorem D289_92 {g : im_g} : im_D g 289 92 (.iload 5) 94 := im_D.of (by decide +kernel)
theorem D289_94 {g : im_g} : im_D g 289 94 (.aload_n 0) 95 := im_D.of (by decide +kernel)
theorem D289_95 {g : im_g} : im_D g 289 95 (.invokevirtual 659) 98 := im_D.of (by decide +kernel)
theorem D289_98 {g : im_g} : im_D g 289 98 (.iastore) 99 := im_D.of (by decide +kernel)
theorem D289_99 {g : im_g} : im_D g 289 99 (.iload 4) 101 := im_D.of (by decide +kernel)
theorem D289_101 {g : im_g} : im_D g 289 101 (.bipush 21) 103 := im_D.of (by decide +kernel)
theorem D289_103 {g : im_g} : im_D g 289 103 (.if_icmp .ne 14) 106 := im_D.of (by decide +kernel)
theorem D289_106 {g : im_g} : im_D g 289 106 (.aload_n 0) 107 := im_D.of (by decide +kernel)
theorem D289_107 {g : im_g} : im_D g 289 107 (.getfield 36) 110 := im_D.of (by decide +kernel)
theorem D289_110 {g : im_g} : im_D g 289 110 (.iload 5) 112 := im_D.of (by decide +kernel)
theorem D289_112 {g : im_g} : im_D g 289 112 (.aload_n 0) 113 := im_D.of (by decide +kernel)
theorem D289_113 {g : im_g} : im_D g 289 113 (.getfield 597) 116 := im_D.of (by decide +kernel)
theorem D289_116 {g : im_g} : im_D g 289 116 (.lastore) 117 := im_D.of (by decide +kernel)
theorem D289_117 {g : im_g} : im_D g 289 117 (.aload_n 0) 118 := im_D.of (by decide +kernel)
theorem D289_118 {g : im_g} : im_D g 289 118 (.invokevirtual 649) 121 := im_D.of (by decide +kernel)
theorem D289_121 {g : im_g} : im_D g 289 121 (.iload 4) 123 := im_D.of (by decide +kernel)
theorem D289_123 {g : im_g} : im_D g 289 123 (.bipush 32) 125 := im_D.of (by decide +kernel)
theorem D289_125 {g : im_g} : im_D g 289 125 (.if_icmp .ne 39) 128 := im_D.of (by decide +kernel)
theorem D289_128 {g : im_g} : im_D g 289 128 (.aload_n 0) 129 := im_D.of (by decide +kernel)
theorem D289_129 {g : im_g} : im_D g 289 129 (.iconst 2) 130 := im_D.of (by decide +kernel)
theorem D289_130 {g : im_g} : im_D g 289 130 (.iload 5) 132 := im_D.of (by decide +kernel)
theorem D289_132 {g : im_g} : im_D g 289 132 (.iconst 3) 133 := im_D.of (by decide +kernel)
theorem D289_133 {g : im_g} : im_D g 289 133 (.iload_n 3) 134 := im_D.of (by decide +kernel)
theorem D289_134 {g : im_g} : im_D g 289 134 (.iconst 1) 135 := im_D.of (by decide +kernel)
theorem D289_135 {g : im_g} : im_D g 289 135 (.iadd) 136 := im_D.of (by decide +kernel)
theorem D289_136 {g : im_g} : im_D g 289 136 (.invokevirtual 652) 139 := im_D.of (by decide +kernel)
theorem D289_139 {g : im_g} : im_D g 289 139 (.aload_n 0) 140 := im_D.of (by decide +kernel)
theorem D289_140 {g : im_g} : im_D g 289 140 (.iconst 2) 141 := im_D.of (by decide +kernel)
theorem D289_141 {g : im_g} : im_D g 289 141 (.iload 5) 143 := im_D.of (by decide +kernel)
theorem D289_143 {g : im_g} : im_D g 289 143 (.iconst 2) 144 := im_D.of (by decide +kernel)
theorem D289_144 {g : im_g} : im_D g 289 144 (.iload_n 3) 145 := im_D.of (by decide +kernel)
theorem D289_145 {g : im_g} : im_D g 289 145 (.iconst 1) 146 := im_D.of (by decide +kernel)
theorem D289_146 {g : im_g} : im_D g 289 146 (.iadd) 147 := im_D.of (by decide +kernel)
theorem D289_147 {g : im_g} : im_D g 289 147 (.invokevirtual 652) 150 := im_D.of (by decide +kernel)
theorem D289_150 {g : im_g} : im_D g 289 150 (.aload_n 0) 151 := im_D.of (by decide +kernel)
theorem D289_151 {g : im_g} : im_D g 289 151 (.iconst 3) 152 := im_D.of (by decide +kernel)
theorem D289_152 {g : im_g} : im_D g 289 152 (.iload 5) 154 := im_D.of (by decide +kernel)
theorem D289_154 {g : im_g} : im_D g 289 154 (.iconst 1) 155 := im_D.of (by decide +kernel)
theorem D289_155 {g : im_g} : im_D g 289 155 (.iload_n 3) 156 := im_D.of (by decide +kernel)
theorem D289_156 {g : im_g} : im_D g 289 156 (.iconst 1) 157 := im_D.of (by decide +kernel)
theorem D289_157 {g : im_g} : im_D g 289 157 (.iadd) 158 := im_D.of (by decide +kernel)
theorem D289_158 {g : im_g} : im_D g 289 158 (.invokevirtual 652) 161 := im_D.of (by decide +kernel)
theorem D289_161 {g : im_g} : im_D g 289 161 (.goto 114) 164 := im_D.of (by decide +kernel)
theorem D289_164 {g : im_g} : im_D g 289 164 (.iload 4) 166 := im_D.of (by decide +kernel)
theorem D289_166 {g : im_g} : im_D g 289 166 (.bipush 24) 168 := im_D.of (by decide +kernel)
theorem D289_168 {g : im_g} : im_D g 289 168 (.if_icmp .lt 35) 171 := im_D.of (by decide +kernel)
theorem D289_171 {g : im_g} : im_D g 289 171 (.iload 4) 173 := im_D.of (by decide +kernel)
theorem D289_173 {g : im_g} : im_D g 289 173 (.bipush 27) 175 := im_D.of (by decide +kernel)
theorem D289_175 {g : im_g} : im_D g 289 175 (.if_icmp .gt 28) 178 := im_D.of (by decide +kernel)
theorem D289_178 {g : im_g} : im_D g 289 178 (.aload_n 0) 179 := im_D.of (by decide +kernel)
theorem D289_179 {g : im_g} : im_D g 289 179 (.iconst 2) 180 := im_D.of (by decide +kernel)
theorem D289_180 {g : im_g} : im_D g 289 180 (.iload 5) 182 := im_D.of (by decide +kernel)
theorem D289_182 {g : im_g} : im_D g 289 182 (.iconst 2) 183 := im_D.of (by decide +kernel)
theorem D289_183 {g : im_g} : im_D g 289 183 (.iload_n 3) 184 := im_D.of (by decide +kernel)
theorem D289_184 {g : im_g} : im_D g 289 184 (.iconst 1) 185 := im_D.of (by decide +kernel)
theorem D289_185 {g : im_g} : im_D g 289 185 (.iadd) 186 := im_D.of (by decide +kernel)
theorem D289_186 {g : im_g} : im_D g 289 186 (.invokevirtual 652) 189 := im_D.of (by decide +kernel)
theorem D289_189 {g : im_g} : im_D g 289 189 (.aload_n 0) 190 := im_D.of (by decide +kernel)
theorem D289_190 {g : im_g} : im_D g 289 190 (.iconst 2) 191 := im_D.of (by decide +kernel)
theorem D289_191 {g : im_g} : im_D g 289 191 (.iload 5) 193 := im_D.of (by decide +kernel)
theorem D289_193 {g : im_g} : im_D g 289 193 (.iconst 1) 194 := im_D.of (by decide +kernel)
theorem D289_194 {g : im_g} : im_D g 289 194 (.iload_n 3) 195 := im_D.of (by decide +kernel)
theorem D289_195 {g : im_g} : im_D g 289 195 (.iconst 1) 196 := im_D.of (by decide +kernel)
theorem D289_196 {g : im_g} : im_D g 289 196 (.iadd) 197 := im_D.of (by decide +kernel)
theorem D289_197 {g : im_g} : im_D g 289 197 (.invokevirtual 652) 200 := im_D.of (by decide +kernel)
theorem D289_200 {g : im_g} : im_D g 289 200 (.goto 75) 203 := im_D.of (by decide +kernel)
theorem D289_203 {g : im_g} : im_D g 289 203 (.iload 4) 205 := im_D.of (by decide +kernel)
theorem D289_205 {g : im_g} : im_D g 289 205 (.bipush 23) 207 := im_D.of (by decide +kernel)
theorem D289_207 {g : im_g} : im_D g 289 207 (.if_icmp .ne 17) 210 := im_D.of (by decide +kernel)
theorem D289_210 {g : im_g} : im_D g 289 210 (.aload_n 0) 211 := im_D.of (by decide +kernel)
theorem D289_211 {g : im_g} : im_D g 289 211 (.iconst 2) 212 := im_D.of (by decide +kernel)
theorem D289_212 {g : im_g} : im_D g 289 212 (.iload 5) 214 := im_D.of (by decide +kernel)
theorem D289_214 {g : im_g} : im_D g 289 214 (.iconst 1) 215 := im_D.of (by decide +kernel)
theorem D289_215 {g : im_g} : im_D g 289 215 (.iload_n 3) 216 := im_D.of (by decide +kernel)
theorem D289_216 {g : im_g} : im_D g 289 216 (.iconst 1) 217 := im_D.of (by decide +kernel)
theorem D289_217 {g : im_g} : im_D g 289 217 (.iadd) 218 := im_D.of (by decide +kernel)
theorem D289_218 {g : im_g} : im_D g 289 218 (.invokevirtual 652) 221 := im_D.of (by decide +kernel)
theorem D289_221 {g : im_g} : im_D g 289 221 (.goto 54) 224 := im_D.of (by decide +kernel)
theorem D289_224 {g : im_g} : im_D g 289 224 (.iload 4) 226 := im_D.of (by decide +kernel)
theorem D289_226 {g : im_g} : im_D g 289 226 (.bipush 22) 228 := im_D.of (by decide +kernel)
theorem D289_228 {g : im_g} : im_D g 289 228 (.if_icmp .eq 10) 231 := im_D.of (by decide +kernel)
theorem D289_231 {g : im_g} : im_D g 289 231 (.iload 4) 233 := im_D.of (by decide +kernel)
theorem D289_233 {g : im_g} : im_D g 289 233 (.bipush 28) 235 := im_D.of (by decide +kernel)
theorem D289_235 {g : im_g} : im_D g 289 235 (.if_icmp .ne 24) 238 := im_D.of (by decide +kernel)
theorem D289_238 {g : im_g} : im_D g 289 238 (.aload_n 0) 239 := im_D.of (by decide +kernel)
theorem D289_239 {g : im_g} : im_D g 289 239 (.iconst 4) 240 := im_D.of (by decide +kernel)
theorem D289_240 {g : im_g} : im_D g 289 240 (.iload 5) 242 := im_D.of (by decide +kernel)
theorem D289_242 {g : im_g} : im_D g 289 242 (.iconst 2) 243 := im_D.of (by decide +kernel)
theorem D289_243 {g : im_g} : im_D g 289 243 (.iload_n 3) 244 := im_D.of (by decide +kernel)
theorem D289_244 {g : im_g} : im_D g 289 244 (.invokevirtual 652) 247 := im_D.of (by decide +kernel)
theorem D289_247 {g : im_g} : im_D g 289 247 (.aload_n 0) 248 := im_D.of (by decide +kernel)
theorem D289_248 {g : im_g} : im_D g 289 248 (.iconst 4) 249 := im_D.of (by decide +kernel)
theorem D289_249 {g : im_g} : im_D g 289 249 (.iload 5) 251 := im_D.of (by decide +kernel)
theorem D289_251 {g : im_g} : im_D g 289 251 (.iconst 1) 252 := im_D.of (by decide +kernel)
theorem D289_252 {g : im_g} : im_D g 289 252 (.iload_n 3) 253 := im_D.of (by decide +kernel)
theorem D289_253 {g : im_g} : im_D g 289 253 (.invokevirtual 652) 256 := im_D.of (by decide +kernel)
theorem D289_256 {g : im_g} : im_D g 289 256 (.goto 19) 259 := im_D.of (by decide +kernel)
theorem D289_259 {g : im_g} : im_D g 289 259 (.iload 4) 261 := im_D.of (by decide +kernel)
theorem D289_261 {g : im_g} : im_D g 289 261 (.bipush 31) 263 := im_D.of (by decide +kernel)
theorem D289_263 {g : im_g} : im_D g 289 263 (.if_icmp .ne 12) 266 := im_D.of (by decide +kernel)
theorem D289_266 {g : im_g} : im_D g 289 266 (.aload_n 0) 267 := im_D.of (by decide +kernel)
theorem D289_267 {g : im_g} : im_D g 289 267 (.iconst 4) 268 := im_D.of (by decide +kernel)
theorem D289_268 {g : im_g} : im_D g 289 268 (.iload 5) 270 := im_D.of (by decide +kernel)
theorem D289_270 {g : im_g} : im_D g 289 270 (.iconst 1) 271 := im_D.of (by decide +kernel)
theorem D289_271 {g : im_g} : im_D g 289 271 (.iload_n 3) 272 := im_D.of (by decide +kernel)
theorem D289_272 {g : im_g} : im_D g 289 272 (.invokevirtual 652) 275 := im_D.of (by decide +kernel)
theorem D289_275 {g : im_g} : im_D g 289 275 (.return_) 276 := im_D.of (by decide +kernel)
set_option maxRecDepth 20000 in
set_option maxHeartbeats 4000000 in
theorem b_readValue_0 {g : im_g} {d : Nat} {e : im_E} {M : im_M} {K : im_K} {p1 p2 p3 : Int} (hd : 1 ≤ d) (hP : ((((¬ (M 6952 15) = 1 → ((¬ (M 6952 15) = 4 → (((M 6952 15) = 2 → im_T g (d - 1) 290 0 [some (vL (M 6952 18)), none, none] [] e M (im_ri (fun x166 e_ M165 => e = e_ ∧ (im_i32 x166) ∧ ((¬ x166 = 0 → im_T g (d - 1) 287 0 [some (.ref 6952), some (vI x166), some (vI p3), none] [] e M165 (im_ri (fun x170 e_ M169 => e = e_ ∧ (im_i32 x170) ∧ ((¬ x170 = (-1) → im_T g (d - 1) 288 0 [some (.ref 6952), some (vI p1), some (vI p2), some (vI x170)] [] e M169 (im_r0 (fun  e_ M173 => e = e_ ∧ ((¬ x166 = 20 → ((¬ x166 = 21 → im_T g (d - 1) 282 0 [some (.ref 6952)] [] e M173 (im_r0 (fun  e_ M177 => e = e_ ∧ ((((¬ x166 = 32 → ((24 ≤ x166 → ((x166 ≤ 27 → im_T g (d - 1) 275 0 [some (.ref 6952), some (vI 2), some (vI x170), some (vI 2), some (vI (p3 + 1))] [] e M177 (im_r0 (fun  e_ M199 => e = e_ ∧ im_T g (d - 1) 275 0 [some (.ref 6952), some (vI 2), some (vI x170), some (vI 1), some (vI (p3 + 1))] [] e M199 (im_r0 (fun  e_ M200 => e = e_ ∧ K (.inl none) e M200))))))))) ∧ (x166 = 32 → im_T g (d - 1) 275 0 [some (.ref 6952), some (vI 2), some (vI x170), some (vI 3), some (vI (p3 + 1))] [] e M177 (im_r0 (fun  e_ M203 => e = e_ ∧ im_T g (d - 1) 275 0 [some (.ref 6952), some (vI 2), some (vI x170), some (vI 2), some (vI (p3 + 1))] [] e M203 (im_r0 (fun  e_ M204 => e = e_ ∧ im_T g (d - 1) 275 0 [some (.ref 6952), some (vI 3), some (vI x170), some (vI 1), some (vI (p3 + 1))] [] e M204 (im_r0 (fun  e_ M205 => e = e_ ∧ K (.inl none) e M205))))))))) ∧ ((((¬ x166 = 32) ∧ (x166 < 24)) ∨ ((¬ x166 = 32) ∧ (24 ≤ x166) ∧ (27 < x166))) → ((((¬ x166 = 23 → ((¬ x166 = 22 → ((¬ x166 = 28 → ((¬ x166 = 31 → K (.inl none) e M177) ∧ (x166 = 31 → im_T g (d - 1) 275 0 [some (.ref 6952), some (vI 4), some (vI x170), some (vI 1), some (vI p3)] [] e M177 (im_r0 (fun  e_ M195 => e = e_ ∧ K (.inl none) e M195))))))))) ∧ (x166 = 23 → im_T g (d - 1) 275 0 [some (.ref 6952), some (vI 2), some (vI x170), some (vI 1), some (vI (p3 + 1))] [] e M177 (im_r0 (fun  e_ M197 => e = e_ ∧ K (.inl none) e M197))))) ∧ ((((¬ x166 = 23) ∧ (x166 = 22)) ∨ ((¬ x166 = 23) ∧ (¬ x166 = 22) ∧ (x166 = 28))) → im_T g (d - 1) 275 0 [some (.ref 6952), some (vI 4), some (vI x170), some (vI 2), some (vI p3)] [] e M177 (im_r0 (fun  e_ M191 => e = e_ ∧ im_T g (d - 1) 275 0 [some (.ref 6952), some (vI 4), some (vI x170), some (vI 1), some (vI p3)] [] e M191 (im_r0 (fun  e_ M192 => e = e_ ∧ K (.inl none) e M192))))))))))) ∧ (x166 = 21 → (0 ≤ x170 ∧ x170 < 5100) ∧ im_T g (d - 1) 282 0 [some (.ref 6952)] [] e (im_u M173 6961 x170 (M173 6952 18)) (im_r0 (fun  e_ M211 => e = e_ ∧ ((((¬ x166 = 32 → ((24 ≤ x166 → ((x166 ≤ 27 → im_T g (d - 1) 275 0 [some (.ref 6952), some (vI 2), some (vI x170), some (vI 2), some (vI (p3 + 1))] [] e M211 (im_r0 (fun  e_ M233 => e = e_ ∧ im_T g (d - 1) 275 0 [some (.ref 6952), some (vI 2), some (vI x170), some (vI 1), some (vI (p3 + 1))] [] e M233 (im_r0 (fun  e_ M234 => e = e_ ∧ K (.inl none) e M234))))))))) ∧ (x166 = 32 → im_T g (d - 1) 275 0 [some (.ref 6952), some (vI 2), some (vI x170), some (vI 3), some (vI (p3 + 1))] [] e M211 (im_r0 (fun  e_ M237 => e = e_ ∧ im_T g (d - 1) 275 0 [some (.ref 6952), some (vI 2), some (vI x170), some (vI 2), some (vI (p3 + 1))] [] e M237 (im_r0 (fun  e_ M238 => e = e_ ∧ im_T g (d - 1) 275 0 [some (.ref 6952), some (vI 3), some (vI x170), some (vI 1), some (vI (p3 + 1))] [] e M238 (im_r0 (fun  e_ M239 => e = e_ ∧ K (.inl none) e M239))))))))) ∧ ((((¬ x166 = 32) ∧ (x166 < 24)) ∨ ((¬ x166 = 32) ∧ (24 ≤ x166) ∧ (27 < x166))) → ((((¬ x166 = 23 → ((¬ x166 = 22 → ((¬ x166 = 28 → ((¬ x166 = 31 → K (.inl none) e M211) ∧ (x166 = 31 → im_T g (d - 1) 275 0 [some (.ref 6952), some (vI 4), some (vI x170), some (vI 1), some (vI p3)] [] e M211 (im_r0 (fun  e_ M229 => e = e_ ∧ K (.inl none) e M229))))))))) ∧ (x166 = 23 → im_T g (d - 1) 275 0 [some (.ref 6952), some (vI 2), some (vI x170), some (vI 1), some (vI (p3 + 1))] [] e M211 (im_r0 (fun  e_ M231 => e = e_ ∧ K (.inl none) e M231))))) ∧ ((((¬ x166 = 23) ∧ (x166 = 22)) ∨ ((¬ x166 = 23) ∧ (¬ x166 = 22) ∧ (x166 = 28))) → im_T g (d - 1) 275 0 [some (.ref 6952), some (vI 4), some (vI x170), some (vI 2), some (vI p3)] [] e M211 (im_r0 (fun  e_ M225 => e = e_ ∧ im_T g (d - 1) 275 0 [some (.ref 6952), some (vI 4), some (vI x170), some (vI 1), some (vI p3)] [] e M225 (im_r0 (fun  e_ M226 => e = e_ ∧ K (.inl none) e M226))))))))))))) ∧ (x166 = 20 → im_T g (d - 1) 291 0 [some (.ref 6952), none, none, none, none] [] e M173 (im_ri (fun x245 e_ M244 => e = e_ ∧ (0 ≤ x170 ∧ x170 < 5100) ∧ (im_i32 x245) ∧ ((¬ x166 = 21 → im_T g (d - 1) 282 0 [some (.ref 6952)] [] e (im_u M244 6968 x170 x245) (im_r0 (fun  e_ M250 => e = e_ ∧ ((((¬ x166 = 32 → ((24 ≤ x166 → ((x166 ≤ 27 → im_T g (d - 1) 275 0 [some (.ref 6952), some (vI 2), some (vI x170), some (vI 2), some (vI (p3 + 1))] [] e M250 (im_r0 (fun  e_ M272 => e = e_ ∧ im_T g (d - 1) 275 0 [some (.ref 6952), some (vI 2), some (vI x170), some (vI 1), some (vI (p3 + 1))] [] e M272 (im_r0 (fun  e_ M273 => e = e_ ∧ K (.inl none) e M273))))))))) ∧ (x166 = 32 → im_T g (d - 1) 275 0 [some (.ref 6952), some (vI 2), some (vI x170), some (vI 3), some (vI (p3 + 1))] [] e M250 (im_r0 (fun  e_ M276 => e = e_ ∧ im_T g (d - 1) 275 0 [some (.ref 6952), some (vI 2), some (vI x170), some (vI 2), some (vI (p3 + 1))] [] e M276 (im_r0 (fun  e_ M277 => e = e_ ∧ im_T g (d - 1) 275 0 [some (.ref 6952), some (vI 3), some (vI x170), some (vI 1), some (vI (p3 + 1))] [] e M277 (im_r0 (fun  e_ M278 => e = e_ ∧ K (.inl none) e M278))))))))) ∧ ((((¬ x166 = 32) ∧ (x166 < 24)) ∨ ((¬ x166 = 32) ∧ (24 ≤ x166) ∧ (27 < x166))) → ((((¬ x166 = 23 → ((¬ x166 = 22 → ((¬ x166 = 28 → ((¬ x166 = 31 → K (.inl none) e M250) ∧ (x166 = 31 → im_T g (d - 1) 275 0 [some (.ref 6952), some (vI 4), some (vI x170), some (vI 1), some (vI p3)] [] e M250 (im_r0 (fun  e_ M268 => e = e_ ∧ K (.inl none) e M268))))))))) ∧ (x166 = 23 → im_T g (d - 1) 275 0 [some (.ref 6952), some (vI 2), some (vI x170), some (vI 1), some (vI (p3 + 1))] [] e M250 (im_r0 (fun  e_ M270 => e = e_ ∧ K (.inl none) e M270))))) ∧ ((((¬ x166 = 23) ∧ (x166 = 22)) ∨ ((¬ x166 = 23) ∧ (¬ x166 = 22) ∧ (x166 = 28))) → im_T g (d - 1) 275 0 [some (.ref 6952), some (vI 4), some (vI x170), some (vI 2), some (vI p3)] [] e M250 (im_r0 (fun  e_ M264 => e = e_ ∧ im_T g (d - 1) 275 0 [some (.ref 6952), some (vI 4), some (vI x170), some (vI 1), some (vI p3)] [] e M264 (im_r0 (fun  e_ M265 => e = e_ ∧ K (.inl none) e M265))))))))))) ∧ (x166 = 21 → im_T g (d - 1) 282 0 [some (.ref 6952)] [] e (im_u (im_u M244 6968 x170 x245) 6961 x170 (M244 6952 18)) (im_r0 (fun  e_ M283 => e = e_ ∧ ((((¬ x166 = 32 → ((24 ≤ x166 → ((x166 ≤ 27 → im_T g (d - 1) 275 0 [some (.ref 6952), some (vI 2), some (vI x170), some (vI 2), some (vI (p3 + 1))] [] e M283 (im_r0 (fun  e_ M305 => e = e_ ∧ im_T g (d - 1) 275 0 [some (.ref 6952), some (vI 2), some (vI x170), some (vI 1), some (vI (p3 + 1))] [] e M305 (im_r0 (fun  e_ M306 => e = e_ ∧ K (.inl none) e M306))))))))) ∧ (x166 = 32 → im_T g (d - 1) 275 0 [some (.ref 6952), some (vI 2), some (vI x170), some (vI 3), some (vI (p3 + 1))] [] e M283 (im_r0 (fun  e_ M309 => e = e_ ∧ im_T g (d - 1) 275 0 [some (.ref 6952), some (vI 2), some (vI x170), some (vI 2), some (vI (p3 + 1))] [] e M309 (im_r0 (fun  e_ M310 => e = e_ ∧ im_T g (d - 1) 275 0 [some (.ref 6952), some (vI 3), some (vI x170), some (vI 1), some (vI (p3 + 1))] [] e M310 (im_r0 (fun  e_ M311 => e = e_ ∧ K (.inl none) e M311))))))))) ∧ ((((¬ x166 = 32) ∧ (x166 < 24)) ∨ ((¬ x166 = 32) ∧ (24 ≤ x166) ∧ (27 < x166))) → ((((¬ x166 = 23 → ((¬ x166 = 22 → ((¬ x166 = 28 → ((¬ x166 = 31 → K (.inl none) e M283) ∧ (x166 = 31 → im_T g (d - 1) 275 0 [some (.ref 6952), some (vI 4), some (vI x170), some (vI 1), some (vI p3)] [] e M283 (im_r0 (fun  e_ M301 => e = e_ ∧ K (.inl none) e M301))))))))) ∧ (x166 = 23 → im_T g (d - 1) 275 0 [some (.ref 6952), some (vI 2), some (vI x170), some (vI 1), some (vI (p3 + 1))] [] e M283 (im_r0 (fun  e_ M303 => e = e_ ∧ K (.inl none) e M303))))) ∧ ((((¬ x166 = 23) ∧ (x166 = 22)) ∨ ((¬ x166 = 23) ∧ (¬ x166 = 22) ∧ (x166 = 28))) → im_T g (d - 1) 275 0 [some (.ref 6952), some (vI 4), some (vI x170), some (vI 2), some (vI p3)] [] e M283 (im_r0 (fun  e_ M297 => e = e_ ∧ im_T g (d - 1) 275 0 [some (.ref 6952), some (vI 4), some (vI x170), some (vI 1), some (vI p3)] [] e M297 (im_r0 (fun  e_ M298 => e = e_ ∧ K (.inl none) e M298))))))))))))))))))) ∧ (x170 = (-1) → K (.inl none) e M169))))) ∧ (x166 = 0 → im_T g (d - 1) 285 0 [some (.ref 6952)] [] e M165 (im_r0 (fun  e_ M319 => e = e_ ∧ K (.inl none) e M319))))))))))))) ∧ (∀ x8 : Int, (((¬ (M 6952 15) = 1) ∧ (¬ (M 6952 15) = 4) ∧ (¬ (M 6952 15) = 2) ∧ x8 = 0) ∨ ((¬ (M 6952 15) = 1) ∧ ((M 6952 15) = 4) ∧ x8 = 21) ∨ (((M 6952 15) = 1) ∧ x8 = 20)) → ((¬ x8 = 0 → im_T g (d - 1) 287 0 [some (.ref 6952), some (vI x8), some (vI p3), none] [] e M (im_ri (fun x14 e_ M13 => e = e_ ∧ (im_i32 x14) ∧ ((¬ x14 = (-1) → im_T g (d - 1) 288 0 [some (.ref 6952), some (vI p1), some (vI p2), some (vI x14)] [] e M13 (im_r0 (fun  e_ M17 => e = e_ ∧ ((¬ x8 = 20 → ((¬ x8 = 21 → im_T g (d - 1) 282 0 [some (.ref 6952)] [] e M17 (im_r0 (fun  e_ M21 => e = e_ ∧ ((((¬ x8 = 32 → ((24 ≤ x8 → ((x8 ≤ 27 → im_T g (d - 1) 275 0 [some (.ref 6952), some (vI 2), some (vI x14), some (vI 2), some (vI (p3 + 1))] [] e M21 (im_r0 (fun  e_ M43 => e = e_ ∧ im_T g (d - 1) 275 0 [some (.ref 6952), some (vI 2), some (vI x14), some (vI 1), some (vI (p3 + 1))] [] e M43 (im_r0 (fun  e_ M44 => e = e_ ∧ K (.inl none) e M44))))))))) ∧ (x8 = 32 → im_T g (d - 1) 275 0 [some (.ref 6952), some (vI 2), some (vI x14), some (vI 3), some (vI (p3 + 1))] [] e M21 (im_r0 (fun  e_ M47 => e = e_ ∧ im_T g (d - 1) 275 0 [some (.ref 6952), some (vI 2), some (vI x14), some (vI 2), some (vI (p3 + 1))] [] e M47 (im_r0 (fun  e_ M48 => e = e_ ∧ im_T g (d - 1) 275 0 [some (.ref 6952), some (vI 3), some (vI x14), some (vI 1), some (vI (p3 + 1))] [] e M48 (im_r0 (fun  e_ M49 => e = e_ ∧ K (.inl none) e M49))))))))) ∧ ((((¬ x8 = 32) ∧ (x8 < 24)) ∨ ((¬ x8 = 32) ∧ (24 ≤ x8) ∧ (27 < x8))) → ((((¬ x8 = 23 → ((¬ x8 = 22 → ((¬ x8 = 28 → ((¬ x8 = 31 → K (.inl none) e M21) ∧ (x8 = 31 → im_T g (d - 1) 275 0 [some (.ref 6952), some (vI 4), some (vI x14), some (vI 1), some (vI p3)] [] e M21 (im_r0 (fun  e_ M39 => e = e_ ∧ K (.inl none) e M39))))))))) ∧ (x8 = 23 → im_T g (d - 1) 275 0 [some (.ref 6952), some (vI 2), some (vI x14), some (vI 1), some (vI (p3 + 1))] [] e M21 (im_r0 (fun  e_ M41 => e = e_ ∧ K (.inl none) e M41))))) ∧ ((((¬ x8 = 23) ∧ (x8 = 22)) ∨ ((¬ x8 = 23) ∧ (¬ x8 = 22) ∧ (x8 = 28))) → im_T g (d - 1) 275 0 [some (.ref 6952), some (vI 4), some (vI x14), some (vI 2), some (vI p3)] [] e M21 (im_r0 (fun  e_ M35 => e = e_ ∧ im_T g (d - 1) 275 0 [some (.ref 6952), some (vI 4), some (vI x14), some (vI 1), some (vI p3)] [] e M35 (im_r0 (fun  e_ M36 => e = e_ ∧ K (.inl none) e M36))))))))))) ∧ (x8 = 21 → (0 ≤ x14 ∧ x14 < 5100) ∧ im_T g (d - 1) 282 0 [some (.ref 6952)] [] e (im_u M17 6961 x14 (M17 6952 18)) (im_r0 (fun  e_ M55 => e = e_ ∧ ((((¬ x8 = 32 → ((24 ≤ x8 → ((x8 ≤ 27 → im_T g (d - 1) 275 0 [some (.ref 6952), some (vI 2), some (vI x14), some (vI 2), some (vI (p3 + 1))] [] e M55 (im_r0 (fun  e_ M77 => e = e_ ∧ im_T g (d - 1) 275 0 [some (.ref 6952), some (vI 2), some (vI x14), some (vI 1), some (vI (p3 + 1))] [] e M77 (im_r0 (fun  e_ M78 => e = e_ ∧ K (.inl none) e M78))))))))) ∧ (x8 = 32 → im_T g (d - 1) 275 0 [some (.ref 6952), some (vI 2), some (vI x14), some (vI 3), some (vI (p3 + 1))] [] e M55 (im_r0 (fun  e_ M81 => e = e_ ∧ im_T g (d - 1) 275 0 [some (.ref 6952), some (vI 2), some (vI x14), some (vI 2), some (vI (p3 + 1))] [] e M81 (im_r0 (fun  e_ M82 => e = e_ ∧ im_T g (d - 1) 275 0 [some (.ref 6952), some (vI 3), some (vI x14), some (vI 1), some (vI (p3 + 1))] [] e M82 (im_r0 (fun  e_ M83 => e = e_ ∧ K (.inl none) e M83))))))))) ∧ ((((¬ x8 = 32) ∧ (x8 < 24)) ∨ ((¬ x8 = 32) ∧ (24 ≤ x8) ∧ (27 < x8))) → ((((¬ x8 = 23 → ((¬ x8 = 22 → ((¬ x8 = 28 → ((¬ x8 = 31 → K (.inl none) e M55) ∧ (x8 = 31 → im_T g (d - 1) 275 0 [some (.ref 6952), some (vI 4), some (vI x14), some (vI 1), some (vI p3)] [] e M55 (im_r0 (fun  e_ M73 => e = e_ ∧ K (.inl none) e M73))))))))) ∧ (x8 = 23 → im_T g (d - 1) 275 0 [some (.ref 6952), some (vI 2), some (vI x14), some (vI 1), some (vI (p3 + 1))] [] e M55 (im_r0 (fun  e_ M75 => e = e_ ∧ K (.inl none) e M75))))) ∧ ((((¬ x8 = 23) ∧ (x8 = 22)) ∨ ((¬ x8 = 23) ∧ (¬ x8 = 22) ∧ (x8 = 28))) → im_T g (d - 1) 275 0 [some (.ref 6952), some (vI 4), some (vI x14), some (vI 2), some (vI p3)] [] e M55 (im_r0 (fun  e_ M69 => e = e_ ∧ im_T g (d - 1) 275 0 [some (.ref 6952), some (vI 4), some (vI x14), some (vI 1), some (vI p3)] [] e M69 (im_r0 (fun  e_ M70 => e = e_ ∧ K (.inl none) e M70))))))))))))) ∧ (x8 = 20 → im_T g (d - 1) 291 0 [some (.ref 6952), none, none, none, none] [] e M17 (im_ri (fun x89 e_ M88 => e = e_ ∧ (0 ≤ x14 ∧ x14 < 5100) ∧ (im_i32 x89) ∧ ((¬ x8 = 21 → im_T g (d - 1) 282 0 [some (.ref 6952)] [] e (im_u M88 6968 x14 x89) (im_r0 (fun  e_ M94 => e = e_ ∧ ((((¬ x8 = 32 → ((24 ≤ x8 → ((x8 ≤ 27 → im_T g (d - 1) 275 0 [some (.ref 6952), some (vI 2), some (vI x14), some (vI 2), some (vI (p3 + 1))] [] e M94 (im_r0 (fun  e_ M116 => e = e_ ∧ im_T g (d - 1) 275 0 [some (.ref 6952), some (vI 2), some (vI x14), some (vI 1), some (vI (p3 + 1))] [] e M116 (im_r0 (fun  e_ M117 => e = e_ ∧ K (.inl none) e M117))))))))) ∧ (x8 = 32 → im_T g (d - 1) 275 0 [some (.ref 6952), some (vI 2), some (vI x14), some (vI 3), some (vI (p3 + 1))] [] e M94 (im_r0 (fun  e_ M120 => e = e_ ∧ im_T g (d - 1) 275 0 [some (.ref 6952), some (vI 2), some (vI x14), some (vI 2), some (vI (p3 + 1))] [] e M120 (im_r0 (fun  e_ M121 => e = e_ ∧ im_T g (d - 1) 275 0 [some (.ref 6952), some (vI 3), some (vI x14), some (vI 1), some (vI (p3 + 1))] [] e M121 (im_r0 (fun  e_ M122 => e = e_ ∧ K (.inl none) e M122))))))))) ∧ ((((¬ x8 = 32) ∧ (x8 < 24)) ∨ ((¬ x8 = 32) ∧ (24 ≤ x8) ∧ (27 < x8))) → ((((¬ x8 = 23 → ((¬ x8 = 22 → ((¬ x8 = 28 → ((¬ x8 = 31 → K (.inl none) e M94) ∧ (x8 = 31 → im_T g (d - 1) 275 0 [some (.ref 6952), some (vI 4), some (vI x14), some (vI 1), some (vI p3)] [] e M94 (im_r0 (fun  e_ M112 => e = e_ ∧ K (.inl none) e M112))))))))) ∧ (x8 = 23 → im_T g (d - 1) 275 0 [some (.ref 6952), some (vI 2), some (vI x14), some (vI 1), some (vI (p3 + 1))] [] e M94 (im_r0 (fun  e_ M114 => e = e_ ∧ K (.inl none) e M114))))) ∧ ((((¬ x8 = 23) ∧ (x8 = 22)) ∨ ((¬ x8 = 23) ∧ (¬ x8 = 22) ∧ (x8 = 28))) → im_T g (d - 1) 275 0 [some (.ref 6952), some (vI 4), some (vI x14), some (vI 2), some (vI p3)] [] e M94 (im_r0 (fun  e_ M108 => e = e_ ∧ im_T g (d - 1) 275 0 [some (.ref 6952), some (vI 4), some (vI x14), some (vI 1), some (vI p3)] [] e M108 (im_r0 (fun  e_ M109 => e = e_ ∧ K (.inl none) e M109))))))))))) ∧ (x8 = 21 → im_T g (d - 1) 282 0 [some (.ref 6952)] [] e (im_u (im_u M88 6968 x14 x89) 6961 x14 (M88 6952 18)) (im_r0 (fun  e_ M127 => e = e_ ∧ ((((¬ x8 = 32 → ((24 ≤ x8 → ((x8 ≤ 27 → im_T g (d - 1) 275 0 [some (.ref 6952), some (vI 2), some (vI x14), some (vI 2), some (vI (p3 + 1))] [] e M127 (im_r0 (fun  e_ M149 => e = e_ ∧ im_T g (d - 1) 275 0 [some (.ref 6952), some (vI 2), some (vI x14), some (vI 1), some (vI (p3 + 1))] [] e M149 (im_r0 (fun  e_ M150 => e = e_ ∧ K (.inl none) e M150))))))))) ∧ (x8 = 32 → im_T g (d - 1) 275 0 [some (.ref 6952), some (vI 2), some (vI x14), some (vI 3), some (vI (p3 + 1))] [] e M127 (im_r0 (fun  e_ M153 => e = e_ ∧ im_T g (d - 1) 275 0 [some (.ref 6952), some (vI 2), some (vI x14), some (vI 2), some (vI (p3 + 1))] [] e M153 (im_r0 (fun  e_ M154 => e = e_ ∧ im_T g (d - 1) 275 0 [some (.ref 6952), some (vI 3), some (vI x14), some (vI 1), some (vI (p3 + 1))] [] e M154 (im_r0 (fun  e_ M155 => e = e_ ∧ K (.inl none) e M155))))))))) ∧ ((((¬ x8 = 32) ∧ (x8 < 24)) ∨ ((¬ x8 = 32) ∧ (24 ≤ x8) ∧ (27 < x8))) → ((((¬ x8 = 23 → ((¬ x8 = 22 → ((¬ x8 = 28 → ((¬ x8 = 31 → K (.inl none) e M127) ∧ (x8 = 31 → im_T g (d - 1) 275 0 [some (.ref 6952), some (vI 4), some (vI x14), some (vI 1), some (vI p3)] [] e M127 (im_r0 (fun  e_ M145 => e = e_ ∧ K (.inl none) e M145))))))))) ∧ (x8 = 23 → im_T g (d - 1) 275 0 [some (.ref 6952), some (vI 2), some (vI x14), some (vI 1), some (vI (p3 + 1))] [] e M127 (im_r0 (fun  e_ M147 => e = e_ ∧ K (.inl none) e M147))))) ∧ ((((¬ x8 = 23) ∧ (x8 = 22)) ∨ ((¬ x8 = 23) ∧ (¬ x8 = 22) ∧ (x8 = 28))) → im_T g (d - 1) 275 0 [some (.ref 6952), some (vI 4), some (vI x14), some (vI 2), some (vI p3)] [] e M127 (im_r0 (fun  e_ M141 => e = e_ ∧ im_T g (d - 1) 275 0 [some (.ref 6952), some (vI 4), some (vI x14), some (vI 1), some (vI p3)] [] e M141 (im_r0 (fun  e_ M142 => e = e_ ∧ K (.inl none) e M142))))))))))))))))))) ∧ (x14 = (-1) → K (.inl none) e M13))))) ∧ (x8 = 0 → im_T g (d - 1) 285 0 [some (.ref 6952)] [] e M (im_r0 (fun  e_ M163 => e = e_ ∧ K (.inl none) e M163))))))) : im_T g d 289 0 [some (.ref 6952), some (vI p1), some (vI p2), some (vI p3), none, none] [] e M K := by
  refine im_ld (q := 1) (i := 0) D289_0 rfl rfl rfl ?_
  refine im_rng (j := 15) sf_6952 (by decide) (by decide) (fun hr1 => ?_)
  refine im_gfI (q := 4) D289_1 (im_fl cn_289 fl_12_591) sf_6952 rfl rfl tI_12_15 rfl ?_
  refine im_iconst (q := 5) D289_4 ?_
  obtain ⟨hP, hJ9⟩ := hP
  have kJ10 : ∀ x8 : Int, (((¬ (M 6952 15) = 1) ∧ (¬ (M 6952 15) = 4) ∧ (¬ (M 6952 15) = 2) ∧ x8 = 0) ∨ ((¬ (M 6952 15) = 1) ∧ ((M 6952 15) = 4) ∧ x8 = 21) ∨ (((M 6952 15) = 1) ∧ x8 = 20)) → im_T g d 289 45 [some (.ref 6952), some (vI p1), some (vI p2), some (vI p3), none, none] [vI x8] e M K := by
    intro x8 hx11
    have hP := hJ9 x8 hx11
    refine im_st1 (q := 47) (i := 4) (L' := [some (.ref 6952), some (vI p1), some (vI p2), some (vI p3), some (vI x8), none]) D289_45 (Or.inr rfl) (Nat.le_of_ble_eq_true rfl) rfl ?_
    refine im_ld (q := 49) (i := 4) D289_47 rfl rfl rfl ?_
    refine im_ifc (q := 52) (t := 57) D289_49 rfl (by omega) (fun hc12 => ?_) (fun hc12 => ?_)
    · replace hP := hP.1 hc12
      refine im_ld (q := 58) (i := 0) D289_57 rfl rfl rfl ?_
      refine im_ld (q := 60) (i := 4) D289_58 rfl rfl rfl ?_
      refine im_ld (q := 61) (i := 3) D289_60 rfl rfl rfl ?_
      refine im_callV (q := 64) (kd := 1) (y := 287) (n := 2) (ci := 12) (a := 6952) (vs := [.ref 6952, vI x8, vI p3]) (r := []) (L2 := [some (.ref 6952), some (vI x8), some (vI p3), none]) D289_61 (im_cal cn_289 cl_12_642) (Or.inl rfl) rfl sf_6952 rfl rfl rfl rfl hd ⟨rfl, rfl, rfl, trivial⟩ ?_
      refine hP.mono ?_
      rintro _ e162 M13 ⟨x14, rfl, rfl, hP⟩
      refine im_bkS ?_
      refine im_st1 (q := 66) (i := 5) (L' := [some (.ref 6952), some (vI p1), some (vI p2), some (vI p3), some (vI x8), some (vI x14)]) D289_64 (Or.inr rfl) (Nat.le_of_ble_eq_true rfl) rfl ?_
      refine im_ld (q := 68) (i := 5) D289_66 rfl rfl rfl ?_
      refine im_iconst (q := 69) D289_68 ?_
      obtain ⟨hg15, hP⟩ := hP
      refine im_icmp (q := 72) (t := 73) D289_69 rfl hg15 (by decide) (fun hc16 => ?_) (fun hc16 => ?_)
      · replace hP := hP.1 hc16
        refine im_ld (q := 74) (i := 0) D289_73 rfl rfl rfl ?_
        refine im_ld (q := 75) (i := 1) D289_74 rfl rfl rfl ?_
        refine im_ld (q := 76) (i := 2) D289_75 rfl rfl rfl ?_
        refine im_ld (q := 78) (i := 5) D289_76 rfl rfl rfl ?_
        refine im_callV (q := 81) (kd := 1) (y := 288) (n := 3) (ci := 12) (a := 6952) (vs := [.ref 6952, vI p1, vI p2, vI x14]) (r := []) (L2 := [some (.ref 6952), some (vI p1), some (vI p2), some (vI x14)]) D289_78 (im_cal cn_289 cl_12_645) (Or.inl rfl) rfl sf_6952 rfl rfl rfl rfl hd ⟨rfl, rfl, rfl, rfl, trivial⟩ ?_
        refine hP.mono ?_
        rintro _ e161 M17 ⟨rfl, rfl, hP⟩
        refine im_bkN ?_
        refine im_ld (q := 83) (i := 4) D289_81 rfl rfl rfl ?_
        refine im_bipush (q := 85) D289_83 rfl ?_
        refine im_icmp (q := 88) (t := 99) D289_85 rfl (by omega) (by decide) (fun hc18 => ?_) (fun hc18 => ?_)
        · replace hP := hP.1 hc18
          refine im_ld (q := 101) (i := 4) D289_99 rfl rfl rfl ?_
          refine im_bipush (q := 103) D289_101 rfl ?_
          refine im_icmp (q := 106) (t := 117) D289_103 rfl (by omega) (by decide) (fun hc19 => ?_) (fun hc19 => ?_)
          · replace hP := hP.1 hc19
            refine im_ld (q := 118) (i := 0) D289_117 rfl rfl rfl ?_
            refine im_callV (q := 121) (kd := 1) (y := 282) (n := 0) (ci := 12) (a := 6952) (vs := [.ref 6952]) (r := []) (L2 := [some (.ref 6952)]) D289_118 (im_cal cn_289 cl_12_649) (Or.inl rfl) rfl sf_6952 rfl rfl rfl rfl hd ⟨rfl, trivial⟩ ?_
            refine hP.mono ?_
            rintro _ e53 M21 ⟨rfl, rfl, hP⟩
            refine im_bkN ?_
            refine im_ld (q := 123) (i := 4) D289_121 rfl rfl rfl ?_
            refine im_bipush (q := 125) D289_123 rfl ?_
            obtain ⟨hP, hJ25⟩ := hP
            have kJ26 : (((¬ x8 = 32) ∧ (x8 < 24)) ∨ ((¬ x8 = 32) ∧ (24 ≤ x8) ∧ (27 < x8))) → im_T g d 289 203 [some (.ref 6952), none, none, some (vI p3), some (vI x8), some (vI x14)] [] e M21 K := by
              intro  hx27
              have hP := hJ25  hx27
              refine im_ld (q := 205) (i := 4) D289_203 rfl rfl rfl ?_
              refine im_bipush (q := 207) D289_205 rfl ?_
              obtain ⟨hP, hJ32⟩ := hP
              have kJ33 : (((¬ x8 = 23) ∧ (x8 = 22)) ∨ ((¬ x8 = 23) ∧ (¬ x8 = 22) ∧ (x8 = 28))) → im_T g d 289 238 [some (.ref 6952), none, none, some (vI p3), none, some (vI x14)] [] e M21 K := by
                intro  hx34
                have hP := hJ32  hx34
                refine im_ld (q := 239) (i := 0) D289_238 rfl rfl rfl ?_
                refine im_iconst (q := 240) D289_239 ?_
                refine im_ld (q := 242) (i := 5) D289_240 rfl rfl rfl ?_
                refine im_iconst (q := 243) D289_242 ?_
                refine im_ld (q := 244) (i := 3) D289_243 rfl rfl rfl ?_
                refine im_callV (q := 247) (kd := 1) (y := 275) (n := 4) (ci := 12) (a := 6952) (vs := [.ref 6952, vI 4, vI x14, vI 2, vI p3]) (r := []) (L2 := [some (.ref 6952), some (vI 4), some (vI x14), some (vI 2), some (vI p3)]) D289_244 (im_cal cn_289 cl_12_652) (Or.inl rfl) rfl sf_6952 rfl rfl rfl rfl hd ⟨rfl, rfl, rfl, rfl, rfl, trivial⟩ ?_
                refine hP.mono ?_
                rintro _ e38 M35 ⟨rfl, rfl, hP⟩
                refine im_bkN ?_
                refine im_ld (q := 248) (i := 0) D289_247 rfl rfl rfl ?_
                refine im_iconst (q := 249) D289_248 ?_
                refine im_ld (q := 251) (i := 5) D289_249 rfl rfl rfl ?_
                refine im_iconst (q := 252) D289_251 ?_
                refine im_ld (q := 253) (i := 3) D289_252 rfl rfl rfl ?_
                refine im_callV (q := 256) (kd := 1) (y := 275) (n := 4) (ci := 12) (a := 6952) (vs := [.ref 6952, vI 4, vI x14, vI 1, vI p3]) (r := []) (L2 := [some (.ref 6952), some (vI 4), some (vI x14), some (vI 1), some (vI p3)]) D289_253 (im_cal cn_289 cl_12_652) (Or.inl rfl) rfl sf_6952 rfl rfl rfl rfl hd ⟨rfl, rfl, rfl, rfl, rfl, trivial⟩ ?_
                refine hP.mono ?_
                rintro _ e37 M36 ⟨rfl, rfl, hP⟩
                refine im_bkN ?_
                refine im_goto (q := 259) (t := 275) D289_256 rfl ?_
                exact im_vret (q := 276) D289_275 rfl hP
              refine im_icmp (q := 210) (t := 224) D289_207 rfl (by omega) (by decide) (fun hc28 => ?_) (fun hc28 => ?_)
              · replace hP := hP.1 hc28
                refine im_ld (q := 226) (i := 4) D289_224 rfl rfl rfl ?_
                refine im_bipush (q := 228) D289_226 rfl ?_
                refine im_icmp (q := 231) (t := 238) D289_228 rfl (by omega) (by decide) (fun hc29 => ?_) (fun hc29 => ?_)
                · exact (kJ33  (Or.inl ⟨hc28, hc29⟩)).wk ⟨rfl, rfl, rfl, trivial⟩
                · replace hP := hP hc29
                  refine im_ld (q := 233) (i := 4) D289_231 rfl rfl rfl ?_
                  refine im_bipush (q := 235) D289_233 rfl ?_
                  refine im_icmp (q := 238) (t := 259) D289_235 rfl (by omega) (by decide) (fun hc30 => ?_) (fun hc30 => ?_)
                  · replace hP := hP hc30
                    refine im_ld (q := 261) (i := 4) D289_259 rfl rfl rfl ?_
                    refine im_bipush (q := 263) D289_261 rfl ?_
                    refine im_icmp (q := 266) (t := 275) D289_263 rfl (by omega) (by decide) (fun hc31 => ?_) (fun hc31 => ?_)
                    · replace hP := hP.1 hc31
                      exact im_vret (q := 276) D289_275 rfl hP
                    · replace hP := hP.2 (Decidable.not_not.mp hc31)
                      refine im_ld (q := 267) (i := 0) D289_266 rfl rfl rfl ?_
                      refine im_iconst (q := 268) D289_267 ?_
                      refine im_ld (q := 270) (i := 5) D289_268 rfl rfl rfl ?_
                      refine im_iconst (q := 271) D289_270 ?_
                      refine im_ld (q := 272) (i := 3) D289_271 rfl rfl rfl ?_
                      refine im_callV (q := 275) (kd := 1) (y := 275) (n := 4) (ci := 12) (a := 6952) (vs := [.ref 6952, vI 4, vI x14, vI 1, vI p3]) (r := []) (L2 := [some (.ref 6952), some (vI 4), some (vI x14), some (vI 1), some (vI p3)]) D289_272 (im_cal cn_289 cl_12_652) (Or.inl rfl) rfl sf_6952 rfl rfl rfl rfl hd ⟨rfl, rfl, rfl, rfl, rfl, trivial⟩ ?_
                      refine hP.mono ?_
                      rintro _ e40 M39 ⟨rfl, rfl, hP⟩
                      refine im_bkN ?_
                      exact im_vret (q := 276) D289_275 rfl hP
                  · exact (kJ33  (Or.inr ⟨hc28, hc29, (Decidable.not_not.mp hc30)⟩)).wk ⟨rfl, rfl, rfl, trivial⟩
              · replace hP := hP.2 (Decidable.not_not.mp hc28)
                refine im_ld (q := 211) (i := 0) D289_210 rfl rfl rfl ?_
                refine im_iconst (q := 212) D289_211 ?_
                refine im_ld (q := 214) (i := 5) D289_212 rfl rfl rfl ?_
                refine im_iconst (q := 215) D289_214 ?_
                refine im_ld (q := 216) (i := 3) D289_215 rfl rfl rfl ?_
                refine im_iconst (q := 217) D289_216 ?_
                refine im_iadd (q := 218) D289_217 ?_
                refine im_callV (q := 221) (kd := 1) (y := 275) (n := 4) (ci := 12) (a := 6952) (vs := [.ref 6952, vI 2, vI x14, vI 1, vI (p3 + 1)]) (r := []) (L2 := [some (.ref 6952), some (vI 2), some (vI x14), some (vI 1), some (vI (p3 + 1))]) D289_218 (im_cal cn_289 cl_12_652) (Or.inl rfl) rfl sf_6952 rfl rfl rfl rfl hd ⟨rfl, rfl, rfl, rfl, rfl, trivial⟩ ?_
                refine hP.mono ?_
                rintro _ e42 M41 ⟨rfl, rfl, hP⟩
                refine im_bkN ?_
                refine im_goto (q := 224) (t := 275) D289_221 rfl ?_
                exact im_vret (q := 276) D289_275 rfl hP
            refine im_icmp (q := 128) (t := 164) D289_125 rfl (by omega) (by decide) (fun hc22 => ?_) (fun hc22 => ?_)
            · replace hP := hP.1 hc22
              refine im_ld (q := 166) (i := 4) D289_164 rfl rfl rfl ?_
              refine im_bipush (q := 168) D289_166 rfl ?_
              refine im_icmp (q := 171) (t := 203) D289_168 rfl (by omega) (by decide) (fun hc23 => ?_) (fun hc23 => ?_)
              · exact (kJ26  (Or.inl ⟨hc22, hc23⟩)).wk ⟨rfl, rfl, rfl, rfl, trivial⟩
              · replace hP := hP (Int.not_lt.mp hc23)
                refine im_ld (q := 173) (i := 4) D289_171 rfl rfl rfl ?_
                refine im_bipush (q := 175) D289_173 rfl ?_
                refine im_icmp (q := 178) (t := 203) D289_175 rfl (by omega) (by decide) (fun hc24 => ?_) (fun hc24 => ?_)
                · exact (kJ26  (Or.inr ⟨hc22, (Int.not_lt.mp hc23), hc24⟩)).wk ⟨rfl, rfl, rfl, rfl, trivial⟩
                · replace hP := hP (Int.not_lt.mp hc24)
                  refine im_ld (q := 179) (i := 0) D289_178 rfl rfl rfl ?_
                  refine im_iconst (q := 180) D289_179 ?_
                  refine im_ld (q := 182) (i := 5) D289_180 rfl rfl rfl ?_
                  refine im_iconst (q := 183) D289_182 ?_
                  refine im_ld (q := 184) (i := 3) D289_183 rfl rfl rfl ?_
                  refine im_iconst (q := 185) D289_184 ?_
                  refine im_iadd (q := 186) D289_185 ?_
                  refine im_callV (q := 189) (kd := 1) (y := 275) (n := 4) (ci := 12) (a := 6952) (vs := [.ref 6952, vI 2, vI x14, vI 2, vI (p3 + 1)]) (r := []) (L2 := [some (.ref 6952), some (vI 2), some (vI x14), some (vI 2), some (vI (p3 + 1))]) D289_186 (im_cal cn_289 cl_12_652) (Or.inl rfl) rfl sf_6952 rfl rfl rfl rfl hd ⟨rfl, rfl, rfl, rfl, rfl, trivial⟩ ?_
                  refine hP.mono ?_
                  rintro _ e46 M43 ⟨rfl, rfl, hP⟩
                  refine im_bkN ?_
                  refine im_ld (q := 190) (i := 0) D289_189 rfl rfl rfl ?_
                  refine im_iconst (q := 191) D289_190 ?_
                  refine im_ld (q := 193) (i := 5) D289_191 rfl rfl rfl ?_
                  refine im_iconst (q := 194) D289_193 ?_
                  refine im_ld (q := 195) (i := 3) D289_194 rfl rfl rfl ?_
                  refine im_iconst (q := 196) D289_195 ?_
                  refine im_iadd (q := 197) D289_196 ?_
                  refine im_callV (q := 200) (kd := 1) (y := 275) (n := 4) (ci := 12) (a := 6952) (vs := [.ref 6952, vI 2, vI x14, vI 1, vI (p3 + 1)]) (r := []) (L2 := [some (.ref 6952), some (vI 2), some (vI x14), some (vI 1), some (vI (p3 + 1))]) D289_197 (im_cal cn_289 cl_12_652) (Or.inl rfl) rfl sf_6952 rfl rfl rfl rfl hd ⟨rfl, rfl, rfl, rfl, rfl, trivial⟩ ?_
                  refine hP.mono ?_
                  rintro _ e45 M44 ⟨rfl, rfl, hP⟩
                  refine im_bkN ?_
                  refine im_goto (q := 203) (t := 275) D289_200 rfl ?_
                  exact im_vret (q := 276) D289_275 rfl hP
            · replace hP := hP.2 (Decidable.not_not.mp hc22)
              refine im_ld (q := 129) (i := 0) D289_128 rfl rfl rfl ?_
              refine im_iconst (q := 130) D289_129 ?_
              refine im_ld (q := 132) (i := 5) D289_130 rfl rfl rfl ?_
              refine im_iconst (q := 133) D289_132 ?_
              refine im_ld (q := 134) (i := 3) D289_133 rfl rfl rfl ?_
              refine im_iconst (q := 135) D289_134 ?_
              refine im_iadd (q := 136) D289_135 ?_
              refine im_callV (q := 139) (kd := 1) (y := 275) (n := 4) (ci := 12) (a := 6952) (vs := [.ref 6952, vI 2, vI x14, vI 3, vI (p3 + 1)]) (r := []) (L2 := [some (.ref 6952), some (vI 2), some (vI x14), some (vI 3), some (vI (p3 + 1))]) D289_136 (im_cal cn_289 cl_12_652) (Or.inl rfl) rfl sf_6952 rfl rfl rfl rfl hd ⟨rfl, rfl, rfl, rfl, rfl, trivial⟩ ?_
              refine hP.mono ?_
              rintro _ e52 M47 ⟨rfl, rfl, hP⟩
              refine im_bkN ?_
              refine im_ld (q := 140) (i := 0) D289_139 rfl rfl rfl ?_
              refine im_iconst (q := 141) D289_140 ?_
              refine im_ld (q := 143) (i := 5) D289_141 rfl rfl rfl ?_
              refine im_iconst (q := 144) D289_143 ?_
              refine im_ld (q := 145) (i := 3) D289_144 rfl rfl rfl ?_
              refine im_iconst (q := 146) D289_145 ?_
              refine im_iadd (q := 147) D289_146 ?_
              refine im_callV (q := 150) (kd := 1) (y := 275) (n := 4) (ci := 12) (a := 6952) (vs := [.ref 6952, vI 2, vI x14, vI 2, vI (p3 + 1)]) (r := []) (L2 := [some (.ref 6952), some (vI 2), some (vI x14), some (vI 2), some (vI (p3 + 1))]) D289_147 (im_cal cn_289 cl_12_652) (Or.inl rfl) rfl sf_6952 rfl rfl rfl rfl hd ⟨rfl, rfl, rfl, rfl, rfl, trivial⟩ ?_
              refine hP.mono ?_
              rintro _ e51 M48 ⟨rfl, rfl, hP⟩
              refine im_bkN ?_
              refine im_ld (q := 151) (i := 0) D289_150 rfl rfl rfl ?_
              refine im_iconst (q := 152) D289_151 ?_
              refine im_ld (q := 154) (i := 5) D289_152 rfl rfl rfl ?_
              refine im_iconst (q := 155) D289_154 ?_
              refine im_ld (q := 156) (i := 3) D289_155 rfl rfl rfl ?_
              refine im_iconst (q := 157) D289_156 ?_
              refine im_iadd (q := 158) D289_157 ?_
              refine im_callV (q := 161) (kd := 1) (y := 275) (n := 4) (ci := 12) (a := 6952) (vs := [.ref 6952, vI 3, vI x14, vI 1, vI (p3 + 1)]) (r := []) (L2 := [some (.ref 6952), some (vI 3), some (vI x14), some (vI 1), some (vI (p3 + 1))]) D289_158 (im_cal cn_289 cl_12_652) (Or.inl rfl) rfl sf_6952 rfl rfl rfl rfl hd ⟨rfl, rfl, rfl, rfl, rfl, trivial⟩ ?_
              refine hP.mono ?_
              rintro _ e50 M49 ⟨rfl, rfl, hP⟩
              refine im_bkN ?_
              refine im_goto (q := 164) (t := 275) D289_161 rfl ?_
              exact im_vret (q := 276) D289_275 rfl hP
          · replace hP := hP.2 (Decidable.not_not.mp hc19)
            refine im_ld (q := 107) (i := 0) D289_106 rfl rfl rfl ?_
            refine im_gfR (q := 110) (b := 6961) D289_107 (im_fl cn_289 fl_12_36) sf_6952 rfl rfl tR_12_22 rf_6952_22 ?_
            refine im_ld (q := 112) (i := 5) D289_110 rfl rfl rfl ?_
            refine im_ld (q := 113) (i := 0) D289_112 rfl rfl rfl ?_
            refine im_rng (j := 18) sf_6952 (by decide) (by decide) (fun hr20 => ?_)
            refine im_gfL (q := 116) D289_113 (im_fl cn_289 fl_12_597) sf_6952 rfl rfl tL_12_18 rfl ?_
            obtain ⟨hg54, hP⟩ := hP
            refine im_last (q := 117) D289_116 sf_6961 hg54.1 hg54.2 (by decide) hr20 ?_
            refine im_ld (q := 118) (i := 0) D289_117 rfl rfl rfl ?_
            refine im_callV (q := 121) (kd := 1) (y := 282) (n := 0) (ci := 12) (a := 6952) (vs := [.ref 6952]) (r := []) (L2 := [some (.ref 6952)]) D289_118 (im_cal cn_289 cl_12_649) (Or.inl rfl) rfl sf_6952 rfl rfl rfl rfl hd ⟨rfl, trivial⟩ ?_
            refine hP.mono ?_
            rintro _ e87 M55 ⟨rfl, rfl, hP⟩
            refine im_bkN ?_
            refine im_ld (q := 123) (i := 4) D289_121 rfl rfl rfl ?_
            refine im_bipush (q := 125) D289_123 rfl ?_
            obtain ⟨hP, hJ59⟩ := hP
            have kJ60 : (((¬ x8 = 32) ∧ (x8 < 24)) ∨ ((¬ x8 = 32) ∧ (24 ≤ x8) ∧ (27 < x8))) → im_T g d 289 203 [some (.ref 6952), none, none, some (vI p3), some (vI x8), some (vI x14)] [] e M55 K := by
              intro  hx61
              have hP := hJ59  hx61
              refine im_ld (q := 205) (i := 4) D289_203 rfl rfl rfl ?_
              refine im_bipush (q := 207) D289_205 rfl ?_
              obtain ⟨hP, hJ66⟩ := hP
              have kJ67 : (((¬ x8 = 23) ∧ (x8 = 22)) ∨ ((¬ x8 = 23) ∧ (¬ x8 = 22) ∧ (x8 = 28))) → im_T g d 289 238 [some (.ref 6952), none, none, some (vI p3), none, some (vI x14)] [] e M55 K := by
                intro  hx68
                have hP := hJ66  hx68
                refine im_ld (q := 239) (i := 0) D289_238 rfl rfl rfl ?_
                refine im_iconst (q := 240) D289_239 ?_
                refine im_ld (q := 242) (i := 5) D289_240 rfl rfl rfl ?_
                refine im_iconst (q := 243) D289_242 ?_
                refine im_ld (q := 244) (i := 3) D289_243 rfl rfl rfl ?_
                refine im_callV (q := 247) (kd := 1) (y := 275) (n := 4) (ci := 12) (a := 6952) (vs := [.ref 6952, vI 4, vI x14, vI 2, vI p3]) (r := []) (L2 := [some (.ref 6952), some (vI 4), some (vI x14), some (vI 2), some (vI p3)]) D289_244 (im_cal cn_289 cl_12_652) (Or.inl rfl) rfl sf_6952 rfl rfl rfl rfl hd ⟨rfl, rfl, rfl, rfl, rfl, trivial⟩ ?_
                refine hP.mono ?_
                rintro _ e72 M69 ⟨rfl, rfl, hP⟩
                refine im_bkN ?_
                refine im_ld (q := 248) (i := 0) D289_247 rfl rfl rfl ?_
                refine im_iconst (q := 249) D289_248 ?_
                refine im_ld (q := 251) (i := 5) D289_249 rfl rfl rfl ?_
                refine im_iconst (q := 252) D289_251 ?_
                refine im_ld (q := 253) (i := 3) D289_252 rfl rfl rfl ?_
                refine im_callV (q := 256) (kd := 1) (y := 275) (n := 4) (ci := 12) (a := 6952) (vs := [.ref 6952, vI 4, vI x14, vI 1, vI p3]) (r := []) (L2 := [some (.ref 6952), some (vI 4), some (vI x14), some (vI 1), some (vI p3)]) D289_253 (im_cal cn_289 cl_12_652) (Or.inl rfl) rfl sf_6952 rfl rfl rfl rfl hd ⟨rfl, rfl, rfl, rfl, rfl, trivial⟩ ?_
                refine hP.mono ?_
                rintro _ e71 M70 ⟨rfl, rfl, hP⟩
                refine im_bkN ?_
                refine im_goto (q := 259) (t := 275) D289_256 rfl ?_
                exact im_vret (q := 276) D289_275 rfl hP
              refine im_icmp (q := 210) (t := 224) D289_207 rfl (by omega) (by decide) (fun hc62 => ?_) (fun hc62 => ?_)
              · replace hP := hP.1 hc62
                refine im_ld (q := 226) (i := 4) D289_224 rfl rfl rfl ?_
                refine im_bipush (q := 228) D289_226 rfl ?_
                refine im_icmp (q := 231) (t := 238) D289_228 rfl (by omega) (by decide) (fun hc63 => ?_) (fun hc63 => ?_)
                · exact (kJ67  (Or.inl ⟨hc62, hc63⟩)).wk ⟨rfl, rfl, rfl, trivial⟩
                · replace hP := hP hc63
                  refine im_ld (q := 233) (i := 4) D289_231 rfl rfl rfl ?_
                  refine im_bipush (q := 235) D289_233 rfl ?_
                  refine im_icmp (q := 238) (t := 259) D289_235 rfl (by omega) (by decide) (fun hc64 => ?_) (fun hc64 => ?_)
                  · replace hP := hP hc64
                    refine im_ld (q := 261) (i := 4) D289_259 rfl rfl rfl ?_
                    refine im_bipush (q := 263) D289_261 rfl ?_
                    refine im_icmp (q := 266) (t := 275) D289_263 rfl (by omega) (by decide) (fun hc65 => ?_) (fun hc65 => ?_)
                    · replace hP := hP.1 hc65
                      exact im_vret (q := 276) D289_275 rfl hP
                    · replace hP := hP.2 (Decidable.not_not.mp hc65)
                      refine im_ld (q := 267) (i := 0) D289_266 rfl rfl rfl ?_
                      refine im_iconst (q := 268) D289_267 ?_
                      refine im_ld (q := 270) (i := 5) D289_268 rfl rfl rfl ?_
                      refine im_iconst (q := 271) D289_270 ?_
                      refine im_ld (q := 272) (i := 3) D289_271 rfl rfl rfl ?_
                      refine im_callV (q := 275) (kd := 1) (y := 275) (n := 4) (ci := 12) (a := 6952) (vs := [.ref 6952, vI 4, vI x14, vI 1, vI p3]) (r := []) (L2 := [some (.ref 6952), some (vI 4), some (vI x14), some (vI 1), some (vI p3)]) D289_272 (im_cal cn_289 cl_12_652) (Or.inl rfl) rfl sf_6952 rfl rfl rfl rfl hd ⟨rfl, rfl, rfl, rfl, rfl, trivial⟩ ?_
                      refine hP.mono ?_
                      rintro _ e74 M73 ⟨rfl, rfl, hP⟩
                      refine im_bkN ?_
                      exact im_vret (q := 276) D289_275 rfl hP
                  · exact (kJ67  (Or.inr ⟨hc62, hc63, (Decidable.not_not.mp hc64)⟩)).wk ⟨rfl, rfl, rfl, trivial⟩
              · replace hP := hP.2 (Decidable.not_not.mp hc62)
                refine im_ld (q := 211) (i := 0) D289_210 rfl rfl rfl ?_
                refine im_iconst (q := 212) D289_211 ?_
                refine im_ld (q := 214) (i := 5) D289_212 rfl rfl rfl ?_
                refine im_iconst (q := 215) D289_214 ?_
                refine im_ld (q := 216) (i := 3) D289_215 rfl rfl rfl ?_
                refine im_iconst (q := 217) D289_216 ?_
                refine im_iadd (q := 218) D289_217 ?_
                refine im_callV (q := 221) (kd := 1) (y := 275) (n := 4) (ci := 12) (a := 6952) (vs := [.ref 6952, vI 2, vI x14, vI 1, vI (p3 + 1)]) (r := []) (L2 := [some (.ref 6952), some (vI 2), some (vI x14), some (vI 1), some (vI (p3 + 1))]) D289_218 (im_cal cn_289 cl_12_652) (Or.inl rfl) rfl sf_6952 rfl rfl rfl rfl hd ⟨rfl, rfl, rfl, rfl, rfl, trivial⟩ ?_
                refine hP.mono ?_
                rintro _ e76 M75 ⟨rfl, rfl, hP⟩
                refine im_bkN ?_
                refine im_goto (q := 224) (t := 275) D289_221 rfl ?_
                exact im_vret (q := 276) D289_275 rfl hP
            refine im_icmp (q := 128) (t := 164) D289_125 rfl (by omega) (by decide) (fun hc56 => ?_) (fun hc56 => ?_)
            · replace hP := hP.1 hc56
              refine im_ld (q := 166) (i := 4) D289_164 rfl rfl rfl ?_
              refine im_bipush (q := 168) D289_166 rfl ?_
              refine im_icmp (q := 171) (t := 203) D289_168 rfl (by omega) (by decide) (fun hc57 => ?_) (fun hc57 => ?_)
              · exact (kJ60  (Or.inl ⟨hc56, hc57⟩)).wk ⟨rfl, rfl, rfl, rfl, trivial⟩
              · replace hP := hP (Int.not_lt.mp hc57)
                refine im_ld (q := 173) (i := 4) D289_171 rfl rfl rfl ?_
                refine im_bipush (q := 175) D289_173 rfl ?_
                refine im_icmp (q := 178) (t := 203) D289_175 rfl (by omega) (by decide) (fun hc58 => ?_) (fun hc58 => ?_)
                · exact (kJ60  (Or.inr ⟨hc56, (Int.not_lt.mp hc57), hc58⟩)).wk ⟨rfl, rfl, rfl, rfl, trivial⟩
                · replace hP := hP (Int.not_lt.mp hc58)
                  refine im_ld (q := 179) (i := 0) D289_178 rfl rfl rfl ?_
                  refine im_iconst (q := 180) D289_179 ?_
                  refine im_ld (q := 182) (i := 5) D289_180 rfl rfl rfl ?_
                  refine im_iconst (q := 183) D289_182 ?_
                  refine im_ld (q := 184) (i := 3) D289_183 rfl rfl rfl ?_
                  refine im_iconst (q := 185) D289_184 ?_
                  refine im_iadd (q := 186) D289_185 ?_
                  refine im_callV (q := 189) (kd := 1) (y := 275) (n := 4) (ci := 12) (a := 6952) (vs := [.ref 6952, vI 2, vI x14, vI 2, vI (p3 + 1)]) (r := []) (L2 := [some (.ref 6952), some (vI 2), some (vI x14), some (vI 2), some (vI (p3 + 1))]) D289_186 (im_cal cn_289 cl_12_652) (Or.inl rfl) rfl sf_6952 rfl rfl rfl rfl hd ⟨rfl, rfl, rfl, rfl, rfl, trivial⟩ ?_
                  refine hP.mono ?_
                  rintro _ e80 M77 ⟨rfl, rfl, hP⟩
                  refine im_bkN ?_
                  refine im_ld (q := 190) (i := 0) D289_189 rfl rfl rfl ?_
                  refine im_iconst (q := 191) D289_190 ?_
                  refine im_ld (q := 193) (i := 5) D289_191 rfl rfl rfl ?_
                  refine im_iconst (q := 194) D289_193 ?_
                  refine im_ld (q := 195) (i := 3) D289_194 rfl rfl rfl ?_
                  refine im_iconst (q := 196) D289_195 ?_
                  refine im_iadd (q := 197) D289_196 ?_
                  refine im_callV (q := 200) (kd := 1) (y := 275) (n := 4) (ci := 12) (a := 6952) (vs := [.ref 6952, vI 2, vI x14, vI 1, vI (p3 + 1)]) (r := []) (L2 := [some (.ref 6952), some (vI 2), some (vI x14), some (vI 1), some (vI (p3 + 1))]) D289_197 (im_cal cn_289 cl_12_652) (Or.inl rfl) rfl sf_6952 rfl rfl rfl rfl hd ⟨rfl, rfl, rfl, rfl, rfl, trivial⟩ ?_
                  refine hP.mono ?_
                  rintro _ e79 M78 ⟨rfl, rfl, hP⟩
                  refine im_bkN ?_
                  refine im_goto (q := 203) (t := 275) D289_200 rfl ?_
                  exact im_vret (q := 276) D289_275 rfl hP
            · replace hP := hP.2 (Decidable.not_not.mp hc56)
              refine im_ld (q := 129) (i := 0) D289_128 rfl rfl rfl ?_
              refine im_iconst (q := 130) D289_129 ?_
              refine im_ld (q := 132) (i := 5) D289_130 rfl rfl rfl ?_
              refine im_iconst (q := 133) D289_132 ?_
              refine im_ld (q := 134) (i := 3) D289_133 rfl rfl rfl ?_
              refine im_iconst (q := 135) D289_134 ?_
              refine im_iadd (q := 136) D289_135 ?_
              refine im_callV (q := 139) (kd := 1) (y := 275) (n := 4) (ci := 12) (a := 6952) (vs := [.ref 6952, vI 2, vI x14, vI 3, vI (p3 + 1)]) (r := []) (L2 := [some (.ref 6952), some (vI 2), some (vI x14), some (vI 3), some (vI (p3 + 1))]) D289_136 (im_cal cn_289 cl_12_652) (Or.inl rfl) rfl sf_6952 rfl rfl rfl rfl hd ⟨rfl, rfl, rfl, rfl, rfl, trivial⟩ ?_
              refine hP.mono ?_
              rintro _ e86 M81 ⟨rfl, rfl, hP⟩
              refine im_bkN ?_
              refine im_ld (q := 140) (i := 0) D289_139 rfl rfl rfl ?_
              refine im_iconst (q := 141) D289_140 ?_
              refine im_ld (q := 143) (i := 5) D289_141 rfl rfl rfl ?_
              refine im_iconst (q := 144) D289_143 ?_
              refine im_ld (q := 145) (i := 3) D289_144 rfl rfl rfl ?_
              refine im_iconst (q := 146) D289_145 ?_
              refine im_iadd (q := 147) D289_146 ?_
              refine im_callV (q := 150) (kd := 1) (y := 275) (n := 4) (ci := 12) (a := 6952) (vs := [.ref 6952, vI 2, vI x14, vI 2, vI (p3 + 1)]) (r := []) (L2 := [some (.ref 6952), some (vI 2), some (vI x14), some (vI 2), some (vI (p3 + 1))]) D289_147 (im_cal cn_289 cl_12_652) (Or.inl rfl) rfl sf_6952 rfl rfl rfl rfl hd ⟨rfl, rfl, rfl, rfl, rfl, trivial⟩ ?_
              refine hP.mono ?_
              rintro _ e85 M82 ⟨rfl, rfl, hP⟩
              refine im_bkN ?_
              refine im_ld (q := 151) (i := 0) D289_150 rfl rfl rfl ?_
              refine im_iconst (q := 152) D289_151 ?_
              refine im_ld (q := 154) (i := 5) D289_152 rfl rfl rfl ?_
              refine im_iconst (q := 155) D289_154 ?_
              refine im_ld (q := 156) (i := 3) D289_155 rfl rfl rfl ?_
              refine im_iconst (q := 157) D289_156 ?_
              refine im_iadd (q := 158) D289_157 ?_
              refine im_callV (q := 161) (kd := 1) (y := 275) (n := 4) (ci := 12) (a := 6952) (vs := [.ref 6952, vI 3, vI x14, vI 1, vI (p3 + 1)]) (r := []) (L2 := [some (.ref 6952), some (vI 3), some (vI x14), some (vI 1), some (vI (p3 + 1))]) D289_158 (im_cal cn_289 cl_12_652) (Or.inl rfl) rfl sf_6952 rfl rfl rfl rfl hd ⟨rfl, rfl, rfl, rfl, rfl, trivial⟩ ?_
              refine hP.mono ?_
              rintro _ e84 M83 ⟨rfl, rfl, hP⟩
              refine im_bkN ?_
              refine im_goto (q := 164) (t := 275) D289_161 rfl ?_
              exact im_vret (q := 276) D289_275 rfl hP
        · replace hP := hP.2 (Decidable.not_not.mp hc18)
          refine im_ld (q := 89) (i := 0) D289_88 rfl rfl rfl ?_
          refine im_gfR (q := 92) (b := 6968) D289_89 (im_fl cn_289 fl_12_57) sf_6952 rfl rfl tR_12_29 rf_6952_29 ?_
          refine im_ld (q := 94) (i := 5) D289_92 rfl rfl rfl ?_
          refine im_ld (q := 95) (i := 0) D289_94 rfl rfl rfl ?_
          refine im_callV (q := 98) (kd := 1) (y := 291) (n := 0) (ci := 12) (a := 6952) (vs := [.ref 6952]) (r := [vI x14, .ref 6968]) (L2 := [some (.ref 6952), none, none, none, none]) D289_95 (im_cal cn_289 cl_12_659) (Or.inl rfl) rfl sf_6952 rfl rfl rfl rfl hd ⟨rfl, trivial⟩ ?_
          refine hP.mono ?_
          rintro _ e160 M88 ⟨x89, rfl, rfl, hP⟩
          refine im_bkS ?_
          obtain ⟨hg90, hP⟩ := hP
          obtain ⟨hg91, hP⟩ := hP
          refine im_iast (q := 99) D289_98 sf_6968 hg90.1 hg90.2 (by decide) hg91 ?_
          refine im_ld (q := 101) (i := 4) D289_99 rfl rfl rfl ?_
          refine im_bipush (q := 103) D289_101 rfl ?_
          refine im_icmp (q := 106) (t := 117) D289_103 rfl (by omega) (by decide) (fun hc92 => ?_) (fun hc92 => ?_)
          · replace hP := hP.1 hc92
            refine im_ld (q := 118) (i := 0) D289_117 rfl rfl rfl ?_
            refine im_callV (q := 121) (kd := 1) (y := 282) (n := 0) (ci := 12) (a := 6952) (vs := [.ref 6952]) (r := []) (L2 := [some (.ref 6952)]) D289_118 (im_cal cn_289 cl_12_649) (Or.inl rfl) rfl sf_6952 rfl rfl rfl rfl hd ⟨rfl, trivial⟩ ?_
            refine hP.mono ?_
            rintro _ e126 M94 ⟨rfl, rfl, hP⟩
            refine im_bkN ?_
            refine im_ld (q := 123) (i := 4) D289_121 rfl rfl rfl ?_
            refine im_bipush (q := 125) D289_123 rfl ?_
            obtain ⟨hP, hJ98⟩ := hP
            have kJ99 : (((¬ x8 = 32) ∧ (x8 < 24)) ∨ ((¬ x8 = 32) ∧ (24 ≤ x8) ∧ (27 < x8))) → im_T g d 289 203 [some (.ref 6952), none, none, some (vI p3), some (vI x8), some (vI x14)] [] e M94 K := by
              intro  hx100
              have hP := hJ98  hx100
              refine im_ld (q := 205) (i := 4) D289_203 rfl rfl rfl ?_
              refine im_bipush (q := 207) D289_205 rfl ?_
              obtain ⟨hP, hJ105⟩ := hP
              have kJ106 : (((¬ x8 = 23) ∧ (x8 = 22)) ∨ ((¬ x8 = 23) ∧ (¬ x8 = 22) ∧ (x8 = 28))) → im_T g d 289 238 [some (.ref 6952), none, none, some (vI p3), none, some (vI x14)] [] e M94 K := by
                intro  hx107
                have hP := hJ105  hx107
                refine im_ld (q := 239) (i := 0) D289_238 rfl rfl rfl ?_
                refine im_iconst (q := 240) D289_239 ?_
                refine im_ld (q := 242) (i := 5) D289_240 rfl rfl rfl ?_
                refine im_iconst (q := 243) D289_242 ?_
                refine im_ld (q := 244) (i := 3) D289_243 rfl rfl rfl ?_
                refine im_callV (q := 247) (kd := 1) (y := 275) (n := 4) (ci := 12) (a := 6952) (vs := [.ref 6952, vI 4, vI x14, vI 2, vI p3]) (r := []) (L2 := [some (.ref 6952), some (vI 4), some (vI x14), some (vI 2), some (vI p3)]) D289_244 (im_cal cn_289 cl_12_652) (Or.inl rfl) rfl sf_6952 rfl rfl rfl rfl hd ⟨rfl, rfl, rfl, rfl, rfl, trivial⟩ ?_
                refine hP.mono ?_
                rintro _ e111 M108 ⟨rfl, rfl, hP⟩
                refine im_bkN ?_
                refine im_ld (q := 248) (i := 0) D289_247 rfl rfl rfl ?_
                refine im_iconst (q := 249) D289_248 ?_
                refine im_ld (q := 251) (i := 5) D289_249 rfl rfl rfl ?_
                refine im_iconst (q := 252) D289_251 ?_
                refine im_ld (q := 253) (i := 3) D289_252 rfl rfl rfl ?_
                refine im_callV (q := 256) (kd := 1) (y := 275) (n := 4) (ci := 12) (a := 6952) (vs := [.ref 6952, vI 4, vI x14, vI 1, vI p3]) (r := []) (L2 := [some (.ref 6952), some (vI 4), some (vI x14), some (vI 1), some (vI p3)]) D289_253 (im_cal cn_289 cl_12_652) (Or.inl rfl) rfl sf_6952 rfl rfl rfl rfl hd ⟨rfl, rfl, rfl, rfl, rfl, trivial⟩ ?_
                refine hP.mono ?_
                rintro _ e110 M109 ⟨rfl, rfl, hP⟩
                refine im_bkN ?_
                refine im_goto (q := 259) (t := 275) D289_256 rfl ?_
                exact im_vret (q := 276) D289_275 rfl hP
              refine im_icmp (q := 210) (t := 224) D289_207 rfl (by omega) (by decide) (fun hc101 => ?_) (fun hc101 => ?_)
              · replace hP := hP.1 hc101
                refine im_ld (q := 226) (i := 4) D289_224 rfl rfl rfl ?_
                refine im_bipush (q := 228) D289_226 rfl ?_
                refine im_icmp (q := 231) (t := 238) D289_228 rfl (by omega) (by decide) (fun hc102 => ?_) (fun hc102 => ?_)
                · exact (kJ106  (Or.inl ⟨hc101, hc102⟩)).wk ⟨rfl, rfl, rfl, trivial⟩
                · replace hP := hP hc102
                  refine im_ld (q := 233) (i := 4) D289_231 rfl rfl rfl ?_
                  refine im_bipush (q := 235) D289_233 rfl ?_
                  refine im_icmp (q := 238) (t := 259) D289_235 rfl (by omega) (by decide) (fun hc103 => ?_) (fun hc103 => ?_)
                  · replace hP := hP hc103
                    refine im_ld (q := 261) (i := 4) D289_259 rfl rfl rfl ?_
                    refine im_bipush (q := 263) D289_261 rfl ?_
                    refine im_icmp (q := 266) (t := 275) D289_263 rfl (by omega) (by decide) (fun hc104 => ?_) (fun hc104 => ?_)
                    · replace hP := hP.1 hc104
                      exact im_vret (q := 276) D289_275 rfl hP
                    · replace hP := hP.2 (Decidable.not_not.mp hc104)
                      refine im_ld (q := 267) (i := 0) D289_266 rfl rfl rfl ?_
                      refine im_iconst (q := 268) D289_267 ?_
                      refine im_ld (q := 270) (i := 5) D289_268 rfl rfl rfl ?_
                      refine im_iconst (q := 271) D289_270 ?_
                      refine im_ld (q := 272) (i := 3) D289_271 rfl rfl rfl ?_
                      refine im_callV (q := 275) (kd := 1) (y := 275) (n := 4) (ci := 12) (a := 6952) (vs := [.ref 6952, vI 4, vI x14, vI 1, vI p3]) (r := []) (L2 := [some (.ref 6952), some (vI 4), some (vI x14), some (vI 1), some (vI p3)]) D289_272 (im_cal cn_289 cl_12_652) (Or.inl rfl) rfl sf_6952 rfl rfl rfl rfl hd ⟨rfl, rfl, rfl, rfl, rfl, trivial⟩ ?_
                      refine hP.mono ?_
                      rintro _ e113 M112 ⟨rfl, rfl, hP⟩
                      refine im_bkN ?_
                      exact im_vret (q := 276) D289_275 rfl hP
                  · exact (kJ106  (Or.inr ⟨hc101, hc102, (Decidable.not_not.mp hc103)⟩)).wk ⟨rfl, rfl, rfl, trivial⟩
              · replace hP := hP.2 (Decidable.not_not.mp hc101)
                refine im_ld (q := 211) (i := 0) D289_210 rfl rfl rfl ?_
                refine im_iconst (q := 212) D289_211 ?_
                refine im_ld (q := 214) (i := 5) D289_212 rfl rfl rfl ?_
                refine im_iconst (q := 215) D289_214 ?_
                refine im_ld (q := 216) (i := 3) D289_215 rfl rfl rfl ?_
                refine im_iconst (q := 217) D289_216 ?_
                refine im_iadd (q := 218) D289_217 ?_
                refine im_callV (q := 221) (kd := 1) (y := 275) (n := 4) (ci := 12) (a := 6952) (vs := [.ref 6952, vI 2, vI x14, vI 1, vI (p3 + 1)]) (r := []) (L2 := [some (.ref 6952), some (vI 2), some (vI x14), some (vI 1), some (vI (p3 + 1))]) D289_218 (im_cal cn_289 cl_12_652) (Or.inl rfl) rfl sf_6952 rfl rfl rfl rfl hd ⟨rfl, rfl, rfl, rfl, rfl, trivial⟩ ?_
                refine hP.mono ?_
                rintro _ e115 M114 ⟨rfl, rfl, hP⟩
                refine im_bkN ?_
                refine im_goto (q := 224) (t := 275) D289_221 rfl ?_
                exact im_vret (q := 276) D289_275 rfl hP
            refine im_icmp (q := 128) (t := 164) D289_125 rfl (by omega) (by decide) (fun hc95 => ?_) (fun hc95 => ?_)
            · replace hP := hP.1 hc95
              refine im_ld (q := 166) (i := 4) D289_164 rfl rfl rfl ?_
              refine im_bipush (q := 168) D289_166 rfl ?_
              refine im_icmp (q := 171) (t := 203) D289_168 rfl (by omega) (by decide) (fun hc96 => ?_) (fun hc96 => ?_)
              · exact (kJ99  (Or.inl ⟨hc95, hc96⟩)).wk ⟨rfl, rfl, rfl, rfl, trivial⟩
              · replace hP := hP (Int.not_lt.mp hc96)
                refine im_ld (q := 173) (i := 4) D289_171 rfl rfl rfl ?_
                refine im_bipush (q := 175) D289_173 rfl ?_
                refine im_icmp (q := 178) (t := 203) D289_175 rfl (by omega) (by decide) (fun hc97 => ?_) (fun hc97 => ?_)
                · exact (kJ99  (Or.inr ⟨hc95, (Int.not_lt.mp hc96), hc97⟩)).wk ⟨rfl, rfl, rfl, rfl, trivial⟩
                · replace hP := hP (Int.not_lt.mp hc97)
                  refine im_ld (q := 179) (i := 0) D289_178 rfl rfl rfl ?_
                  refine im_iconst (q := 180) D289_179 ?_
                  refine im_ld (q := 182) (i := 5) D289_180 rfl rfl rfl ?_
                  refine im_iconst (q := 183) D289_182 ?_
                  refine im_ld (q := 184) (i := 3) D289_183 rfl rfl rfl ?_
                  refine im_iconst (q := 185) D289_184 ?_
                  refine im_iadd (q := 186) D289_185 ?_
                  refine im_callV (q := 189) (kd := 1) (y := 275) (n := 4) (ci := 12) (a := 6952) (vs := [.ref 6952, vI 2, vI x14, vI 2, vI (p3 + 1)]) (r := []) (L2 := [some (.ref 6952), some (vI 2), some (vI x14), some (vI 2), some (vI (p3 + 1))]) D289_186 (im_cal cn_289 cl_12_652) (Or.inl rfl) rfl sf_6952 rfl rfl rfl rfl hd ⟨rfl, rfl, rfl, rfl, rfl, trivial⟩ ?_
                  refine hP.mono ?_
                  rintro _ e119 M116 ⟨rfl, rfl, hP⟩
                  refine im_bkN ?_
                  refine im_ld (q := 190) (i := 0) D289_189 rfl rfl rfl ?_
                  refine im_iconst (q := 191) D289_190 ?_
                  refine im_ld (q := 193) (i := 5) D289_191 rfl rfl rfl ?_
                  refine im_iconst (q := 194) D289_193 ?_
                  refine im_ld (q := 195) (i := 3) D289_194 rfl rfl rfl ?_
                  refine im_iconst (q := 196) D289_195 ?_
                  refine im_iadd (q := 197) D289_196 ?_
                  refine im_callV (q := 200) (kd := 1) (y := 275) (n := 4) (ci := 12) (a := 6952) (vs := [.ref 6952, vI 2, vI x14, vI 1, vI (p3 + 1)]) (r := []) (L2 := [some (.ref 6952), some (vI 2), some (vI x14), some (vI 1), some (vI (p3 + 1))]) D289_197 (im_cal cn_289 cl_12_652) (Or.inl rfl) rfl sf_6952 rfl rfl rfl rfl hd ⟨rfl, rfl, rfl, rfl, rfl, trivial⟩ ?_
                  refine hP.mono ?_
                  rintro _ e118 M117 ⟨rfl, rfl, hP⟩
                  refine im_bkN ?_
                  refine im_goto (q := 203) (t := 275) D289_200 rfl ?_
                  exact im_vret (q := 276) D289_275 rfl hP
            · replace hP := hP.2 (Decidable.not_not.mp hc95)
              refine im_ld (q := 129) (i := 0) D289_128 rfl rfl rfl ?_
              refine im_iconst (q := 130) D289_129 ?_
              refine im_ld (q := 132) (i := 5) D289_130 rfl rfl rfl ?_
              refine im_iconst (q := 133) D289_132 ?_
              refine im_ld (q := 134) (i := 3) D289_133 rfl rfl rfl ?_
              refine im_iconst (q := 135) D289_134 ?_
              refine im_iadd (q := 136) D289_135 ?_
              refine im_callV (q := 139) (kd := 1) (y := 275) (n := 4) (ci := 12) (a := 6952) (vs := [.ref 6952, vI 2, vI x14, vI 3, vI (p3 + 1)]) (r := []) (L2 := [some (.ref 6952), some (vI 2), some (vI x14), some (vI 3), some (vI (p3 + 1))]) D289_136 (im_cal cn_289 cl_12_652) (Or.inl rfl) rfl sf_6952 rfl rfl rfl rfl hd ⟨rfl, rfl, rfl, rfl, rfl, trivial⟩ ?_
              refine hP.mono ?_
              rintro _ e125 M120 ⟨rfl, rfl, hP⟩
              refine im_bkN ?_
              refine im_ld (q := 140) (i := 0) D289_139 rfl rfl rfl ?_
              refine im_iconst (q := 141) D289_140 ?_
              refine im_ld (q := 143) (i := 5) D289_141 rfl rfl rfl ?_
              refine im_iconst (q := 144) D289_143 ?_
              refine im_ld (q := 145) (i := 3) D289_144 rfl rfl rfl ?_
              refine im_iconst (q := 146) D289_145 ?_
              refine im_iadd (q := 147) D289_146 ?_
              refine im_callV (q := 150) (kd := 1) (y := 275) (n := 4) (ci := 12) (a := 6952) (vs := [.ref 6952, vI 2, vI x14, vI 2, vI (p3 + 1)]) (r := []) (L2 := [some (.ref 6952), some (vI 2), some (vI x14), some (vI 2), some (vI (p3 + 1))]) D289_147 (im_cal cn_289 cl_12_652) (Or.inl rfl) rfl sf_6952 rfl rfl rfl rfl hd ⟨rfl, rfl, rfl, rfl, rfl, trivial⟩ ?_
              refine hP.mono ?_
              rintro _ e124 M121 ⟨rfl, rfl, hP⟩
              refine im_bkN ?_
              refine im_ld (q := 151) (i := 0) D289_150 rfl rfl rfl ?_
              refine im_iconst (q := 152) D289_151 ?_
              refine im_ld (q := 154) (i := 5) D289_152 rfl rfl rfl ?_
              refine im_iconst (q := 155) D289_154 ?_
              refine im_ld (q := 156) (i := 3) D289_155 rfl rfl rfl ?_
              refine im_iconst (q := 157) D289_156 ?_
              refine im_iadd (q := 158) D289_157 ?_
              refine im_callV (q := 161) (kd := 1) (y := 275) (n := 4) (ci := 12) (a := 6952) (vs := [.ref 6952, vI 3, vI x14, vI 1, vI (p3 + 1)]) (r := []) (L2 := [some (.ref 6952), some (vI 3), some (vI x14), some (vI 1), some (vI (p3 + 1))]) D289_158 (im_cal cn_289 cl_12_652) (Or.inl rfl) rfl sf_6952 rfl rfl rfl rfl hd ⟨rfl, rfl, rfl, rfl, rfl, trivial⟩ ?_
              refine hP.mono ?_
              rintro _ e123 M122 ⟨rfl, rfl, hP⟩
              refine im_bkN ?_
              refine im_goto (q := 164) (t := 275) D289_161 rfl ?_
              exact im_vret (q := 276) D289_275 rfl hP
          · replace hP := hP.2 (Decidable.not_not.mp hc92)
            refine im_ld (q := 107) (i := 0) D289_106 rfl rfl rfl ?_
            refine im_gfR (q := 110) (b := 6961) D289_107 (im_fl cn_289 fl_12_36) sf_6952 rfl rfl tR_12_22 rf_6952_22 ?_
            refine im_ld (q := 112) (i := 5) D289_110 rfl rfl rfl ?_
            refine im_ld (q := 113) (i := 0) D289_112 rfl rfl rfl ?_
            refine im_rng (j := 18) sf_6952 (by decide) (by decide) (fun hr93 => ?_)
            refine im_gfL (q := 116) D289_113 (im_fl cn_289 fl_12_597) sf_6952 rfl rfl tL_12_18 (im_rdn _ _ _ _ (by decide)) ?_
            refine im_last (q := 117) D289_116 sf_6961 hg90.1 hg90.2 (by decide) (im_rgc hr93 (im_rdn _ _ _ _ (by decide))) ?_
            refine im_ld (q := 118) (i := 0) D289_117 rfl rfl rfl ?_
            refine im_callV (q := 121) (kd := 1) (y := 282) (n := 0) (ci := 12) (a := 6952) (vs := [.ref 6952]) (r := []) (L2 := [some (.ref 6952)]) D289_118 (im_cal cn_289 cl_12_649) (Or.inl rfl) rfl sf_6952 rfl rfl rfl rfl hd ⟨rfl, trivial⟩ ?_
            refine hP.mono ?_
            rintro _ e159 M127 ⟨rfl, rfl, hP⟩
            refine im_bkN ?_
            refine im_ld (q := 123) (i := 4) D289_121 rfl rfl rfl ?_
            refine im_bipush (q := 125) D289_123 rfl ?_
            obtain ⟨hP, hJ131⟩ := hP
            have kJ132 : (((¬ x8 = 32) ∧ (x8 < 24)) ∨ ((¬ x8 = 32) ∧ (24 ≤ x8) ∧ (27 < x8))) → im_T g d 289 203 [some (.ref 6952), none, none, some (vI p3), some (vI x8), some (vI x14)] [] e M127 K := by
              intro  hx133
              have hP := hJ131  hx133
              refine im_ld (q := 205) (i := 4) D289_203 rfl rfl rfl ?_
              refine im_bipush (q := 207) D289_205 rfl ?_
              obtain ⟨hP, hJ138⟩ := hP
              have kJ139 : (((¬ x8 = 23) ∧ (x8 = 22)) ∨ ((¬ x8 = 23) ∧ (¬ x8 = 22) ∧ (x8 = 28))) → im_T g d 289 238 [some (.ref 6952), none, none, some (vI p3), none, some (vI x14)] [] e M127 K := by
                intro  hx140
                have hP := hJ138  hx140
                refine im_ld (q := 239) (i := 0) D289_238 rfl rfl rfl ?_
                refine im_iconst (q := 240) D289_239 ?_
                refine im_ld (q := 242) (i := 5) D289_240 rfl rfl rfl ?_
                refine im_iconst (q := 243) D289_242 ?_
                refine im_ld (q := 244) (i := 3) D289_243 rfl rfl rfl ?_
                refine im_callV (q := 247) (kd := 1) (y := 275) (n := 4) (ci := 12) (a := 6952) (vs := [.ref 6952, vI 4, vI x14, vI 2, vI p3]) (r := []) (L2 := [some (.ref 6952), some (vI 4), some (vI x14), some (vI 2), some (vI p3)]) D289_244 (im_cal cn_289 cl_12_652) (Or.inl rfl) rfl sf_6952 rfl rfl rfl rfl hd ⟨rfl, rfl, rfl, rfl, rfl, trivial⟩ ?_
                refine hP.mono ?_
                rintro _ e144 M141 ⟨rfl, rfl, hP⟩
                refine im_bkN ?_
                refine im_ld (q := 248) (i := 0) D289_247 rfl rfl rfl ?_
                refine im_iconst (q := 249) D289_248 ?_
                refine im_ld (q := 251) (i := 5) D289_249 rfl rfl rfl ?_
                refine im_iconst (q := 252) D289_251 ?_
                refine im_ld (q := 253) (i := 3) D289_252 rfl rfl rfl ?_
                refine im_callV (q := 256) (kd := 1) (y := 275) (n := 4) (ci := 12) (a := 6952) (vs := [.ref 6952, vI 4, vI x14, vI 1, vI p3]) (r := []) (L2 := [some (.ref 6952), some (vI 4), some (vI x14), some (vI 1), some (vI p3)]) D289_253 (im_cal cn_289 cl_12_652) (Or.inl rfl) rfl sf_6952 rfl rfl rfl rfl hd ⟨rfl, rfl, rfl, rfl, rfl, trivial⟩ ?_
                refine hP.mono ?_
                rintro _ e143 M142 ⟨rfl, rfl, hP⟩
                refine im_bkN ?_
                refine im_goto (q := 259) (t := 275) D289_256 rfl ?_
                exact im_vret (q := 276) D289_275 rfl hP
              refine im_icmp (q := 210) (t := 224) D289_207 rfl (by omega) (by decide) (fun hc134 => ?_) (fun hc134 => ?_)
              · replace hP := hP.1 hc134
                refine im_ld (q := 226) (i := 4) D289_224 rfl rfl rfl ?_
                refine im_bipush (q := 228) D289_226 rfl ?_
                refine im_icmp (q := 231) (t := 238) D289_228 rfl (by omega) (by decide) (fun hc135 => ?_) (fun hc135 => ?_)
                · exact (kJ139  (Or.inl ⟨hc134, hc135⟩)).wk ⟨rfl, rfl, rfl, trivial⟩
                · replace hP := hP hc135
                  refine im_ld (q := 233) (i := 4) D289_231 rfl rfl rfl ?_
                  refine im_bipush (q := 235) D289_233 rfl ?_
                  refine im_icmp (q := 238) (t := 259) D289_235 rfl (by omega) (by decide) (fun hc136 => ?_) (fun hc136 => ?_)
                  · replace hP := hP hc136
                    refine im_ld (q := 261) (i := 4) D289_259 rfl rfl rfl ?_
                    refine im_bipush (q := 263) D289_261 rfl ?_
                    refine im_icmp (q := 266) (t := 275) D289_263 rfl (by omega) (by decide) (fun hc137 => ?_) (fun hc137 => ?_)
                    · replace hP := hP.1 hc137
                      exact im_vret (q := 276) D289_275 rfl hP
                    · replace hP := hP.2 (Decidable.not_not.mp hc137)
                      refine im_ld (q := 267) (i := 0) D289_266 rfl rfl rfl ?_
                      refine im_iconst (q := 268) D289_267 ?_
                      refine im_ld (q := 270) (i := 5) D289_268 rfl rfl rfl ?_
                      refine im_iconst (q := 271) D289_270 ?_
                      refine im_ld (q := 272) (i := 3) D289_271 rfl rfl rfl ?_
                      refine im_callV (q := 275) (kd := 1) (y := 275) (n := 4) (ci := 12) (a := 6952) (vs := [.ref 6952, vI 4, vI x14, vI 1, vI p3]) (r := []) (L2 := [some (.ref 6952), some (vI 4), some (vI x14), some (vI 1), some (vI p3)]) D289_272 (im_cal cn_289 cl_12_652) (Or.inl rfl) rfl sf_6952 rfl rfl rfl rfl hd ⟨rfl, rfl, rfl, rfl, rfl, trivial⟩ ?_
                      refine hP.mono ?_
                      rintro _ e146 M145 ⟨rfl, rfl, hP⟩
                      refine im_bkN ?_
                      exact im_vret (q := 276) D289_275 rfl hP
                  · exact (kJ139  (Or.inr ⟨hc134, hc135, (Decidable.not_not.mp hc136)⟩)).wk ⟨rfl, rfl, rfl, trivial⟩
              · replace hP := hP.2 (Decidable.not_not.mp hc134)
                refine im_ld (q := 211) (i := 0) D289_210 rfl rfl rfl ?_
                refine im_iconst (q := 212) D289_211 ?_
                refine im_ld (q := 214) (i := 5) D289_212 rfl rfl rfl ?_
                refine im_iconst (q := 215) D289_214 ?_
                refine im_ld (q := 216) (i := 3) D289_215 rfl rfl rfl ?_
                refine im_iconst (q := 217) D289_216 ?_
                refine im_iadd (q := 218) D289_217 ?_
                refine im_callV (q := 221) (kd := 1) (y := 275) (n := 4) (ci := 12) (a := 6952) (vs := [.ref 6952, vI 2, vI x14, vI 1, vI (p3 + 1)]) (r := []) (L2 := [some (.ref 6952), some (vI 2), some (vI x14), some (vI 1), some (vI (p3 + 1))]) D289_218 (im_cal cn_289 cl_12_652) (Or.inl rfl) rfl sf_6952 rfl rfl rfl rfl hd ⟨rfl, rfl, rfl, rfl, rfl, trivial⟩ ?_
                refine hP.mono ?_
                rintro _ e148 M147 ⟨rfl, rfl, hP⟩
                refine im_bkN ?_
                refine im_goto (q := 224) (t := 275) D289_221 rfl ?_
                exact im_vret (q := 276) D289_275 rfl hP
            refine im_icmp (q := 128) (t := 164) D289_125 rfl (by omega) (by decide) (fun hc128 => ?_) (fun hc128 => ?_)
            · replace hP := hP.1 hc128
              refine im_ld (q := 166) (i := 4) D289_164 rfl rfl rfl ?_
              refine im_bipush (q := 168) D289_166 rfl ?_
              refine im_icmp (q := 171) (t := 203) D289_168 rfl (by omega) (by decide) (fun hc129 => ?_) (fun hc129 => ?_)
              · exact (kJ132  (Or.inl ⟨hc128, hc129⟩)).wk ⟨rfl, rfl, rfl, rfl, trivial⟩
              · replace hP := hP (Int.not_lt.mp hc129)
                refine im_ld (q := 173) (i := 4) D289_171 rfl rfl rfl ?_
                refine im_bipush (q := 175) D289_173 rfl ?_
                refine im_icmp (q := 178) (t := 203) D289_175 rfl (by omega) (by decide) (fun hc130 => ?_) (fun hc130 => ?_)
                · exact (kJ132  (Or.inr ⟨hc128, (Int.not_lt.mp hc129), hc130⟩)).wk ⟨rfl, rfl, rfl, rfl, trivial⟩
                · replace hP := hP (Int.not_lt.mp hc130)
                  refine im_ld (q := 179) (i := 0) D289_178 rfl rfl rfl ?_
                  refine im_iconst (q := 180) D289_179 ?_
                  refine im_ld (q := 182) (i := 5) D289_180 rfl rfl rfl ?_
                  refine im_iconst (q := 183) D289_182 ?_
                  refine im_ld (q := 184) (i := 3) D289_183 rfl rfl rfl ?_
                  refine im_iconst (q := 185) D289_184 ?_
                  refine im_iadd (q := 186) D289_185 ?_
                  refine im_callV (q := 189) (kd := 1) (y := 275) (n := 4) (ci := 12) (a := 6952) (vs := [.ref 6952, vI 2, vI x14, vI 2, vI (p3 + 1)]) (r := []) (L2 := [some (.ref 6952), some (vI 2), some (vI x14), some (vI 2), some (vI (p3 + 1))]) D289_186 (im_cal cn_289 cl_12_652) (Or.inl rfl) rfl sf_6952 rfl rfl rfl rfl hd ⟨rfl, rfl, rfl, rfl, rfl, trivial⟩ ?_
                  refine hP.mono ?_
                  rintro _ e152 M149 ⟨rfl, rfl, hP⟩
                  refine im_bkN ?_
                  refine im_ld (q := 190) (i := 0) D289_189 rfl rfl rfl ?_
                  refine im_iconst (q := 191) D289_190 ?_
                  refine im_ld (q := 193) (i := 5) D289_191 rfl rfl rfl ?_
                  refine im_iconst (q := 194) D289_193 ?_
                  refine im_ld (q := 195) (i := 3) D289_194 rfl rfl rfl ?_
                  refine im_iconst (q := 196) D289_195 ?_
                  refine im_iadd (q := 197) D289_196 ?_
                  refine im_callV (q := 200) (kd := 1) (y := 275) (n := 4) (ci := 12) (a := 6952) (vs := [.ref 6952, vI 2, vI x14, vI 1, vI (p3 + 1)]) (r := []) (L2 := [some (.ref 6952), some (vI 2), some (vI x14), some (vI 1), some (vI (p3 + 1))]) D289_197 (im_cal cn_289 cl_12_652) (Or.inl rfl) rfl sf_6952 rfl rfl rfl rfl hd ⟨rfl, rfl, rfl, rfl, rfl, trivial⟩ ?_
                  refine hP.mono ?_
                  rintro _ e151 M150 ⟨rfl, rfl, hP⟩
                  refine im_bkN ?_
                  refine im_goto (q := 203) (t := 275) D289_200 rfl ?_
                  exact im_vret (q := 276) D289_275 rfl hP
            · replace hP := hP.2 (Decidable.not_not.mp hc128)
              refine im_ld (q := 129) (i := 0) D289_128 rfl rfl rfl ?_
              refine im_iconst (q := 130) D289_129 ?_
              refine im_ld (q := 132) (i := 5) D289_130 rfl rfl rfl ?_
              refine im_iconst (q := 133) D289_132 ?_
              refine im_ld (q := 134) (i := 3) D289_133 rfl rfl rfl ?_
              refine im_iconst (q := 135) D289_134 ?_
              refine im_iadd (q := 136) D289_135 ?_
              refine im_callV (q := 139) (kd := 1) (y := 275) (n := 4) (ci := 12) (a := 6952) (vs := [.ref 6952, vI 2, vI x14, vI 3, vI (p3 + 1)]) (r := []) (L2 := [some (.ref 6952), some (vI 2), some (vI x14), some (vI 3), some (vI (p3 + 1))]) D289_136 (im_cal cn_289 cl_12_652) (Or.inl rfl) rfl sf_6952 rfl rfl rfl rfl hd ⟨rfl, rfl, rfl, rfl, rfl, trivial⟩ ?_
              refine hP.mono ?_
              rintro _ e158 M153 ⟨rfl, rfl, hP⟩
              refine im_bkN ?_
              refine im_ld (q := 140) (i := 0) D289_139 rfl rfl rfl ?_
              refine im_iconst (q := 141) D289_140 ?_
              refine im_ld (q := 143) (i := 5) D289_141 rfl rfl rfl ?_
              refine im_iconst (q := 144) D289_143 ?_
              refine im_ld (q := 145) (i := 3) D289_144 rfl rfl rfl ?_
              refine im_iconst (q := 146) D289_145 ?_
              refine im_iadd (q := 147) D289_146 ?_
              refine im_callV (q := 150) (kd := 1) (y := 275) (n := 4) (ci := 12) (a := 6952) (vs := [.ref 6952, vI 2, vI x14, vI 2, vI (p3 + 1)]) (r := []) (L2 := [some (.ref 6952), some (vI 2), some (vI x14), some (vI 2), some (vI (p3 + 1))]) D289_147 (im_cal cn_289 cl_12_652) (Or.inl rfl) rfl sf_6952 rfl rfl rfl rfl hd ⟨rfl, rfl, rfl, rfl, rfl, trivial⟩ ?_
              refine hP.mono ?_
              rintro _ e157 M154 ⟨rfl, rfl, hP⟩
              refine im_bkN ?_
              refine im_ld (q := 151) (i := 0) D289_150 rfl rfl rfl ?_
              refine im_iconst (q := 152) D289_151 ?_
              refine im_ld (q := 154) (i := 5) D289_152 rfl rfl rfl ?_
              refine im_iconst (q := 155) D289_154 ?_
              refine im_ld (q := 156) (i := 3) D289_155 rfl rfl rfl ?_
              refine im_iconst (q := 157) D289_156 ?_
              refine im_iadd (q := 158) D289_157 ?_
              refine im_callV (q := 161) (kd := 1) (y := 275) (n := 4) (ci := 12) (a := 6952) (vs := [.ref 6952, vI 3, vI x14, vI 1, vI (p3 + 1)]) (r := []) (L2 := [some (.ref 6952), some (vI 3), some (vI x14), some (vI 1), some (vI (p3 + 1))]) D289_158 (im_cal cn_289 cl_12_652) (Or.inl rfl) rfl sf_6952 rfl rfl rfl rfl hd ⟨rfl, rfl, rfl, rfl, rfl, trivial⟩ ?_
              refine hP.mono ?_
              rintro _ e156 M155 ⟨rfl, rfl, hP⟩
              refine im_bkN ?_
              refine im_goto (q := 164) (t := 275) D289_161 rfl ?_
              exact im_vret (q := 276) D289_275 rfl hP
      · replace hP := hP.2 (Decidable.not_not.mp hc16)
        exact im_vret (q := 73) D289_72 rfl hP
    · replace hP := hP.2 (Decidable.not_not.mp hc12)
      refine im_ld (q := 53) (i := 0) D289_52 rfl rfl rfl ?_
      refine im_callV (q := 56) (kd := 1) (y := 285) (n := 0) (ci := 12) (a := 6952) (vs := [.ref 6952]) (r := []) (L2 := [some (.ref 6952)]) D289_53 (im_cal cn_289 cl_12_639) (Or.inl rfl) rfl sf_6952 rfl rfl rfl rfl hd ⟨rfl, trivial⟩ ?_
      refine hP.mono ?_
      rintro _ e164 M163 ⟨rfl, rfl, hP⟩
      refine im_bkN ?_
      exact im_vret (q := 57) D289_56 rfl hP
  refine im_icmp (q := 8) (t := 13) D289_5 rfl hr1 (by decide) (fun hc2 => ?_) (fun hc2 => ?_)
  · replace hP := hP hc2
    refine im_ld (q := 14) (i := 0) D289_13 rfl rfl rfl ?_
    refine im_gfI (q := 17) D289_14 (im_fl cn_289 fl_12_591) sf_6952 rfl rfl tI_12_15 rfl ?_
    refine im_iconst (q := 18) D289_17 ?_
    refine im_icmp (q := 21) (t := 26) D289_18 rfl hr1 (by decide) (fun hc4 => ?_) (fun hc4 => ?_)
    · replace hP := hP hc4
      refine im_ld (q := 27) (i := 0) D289_26 rfl rfl rfl ?_
      refine im_gfI (q := 30) D289_27 (im_fl cn_289 fl_12_591) sf_6952 rfl rfl tI_12_15 rfl ?_
      refine im_iconst (q := 31) D289_30 ?_
      refine im_icmp (q := 34) (t := 44) D289_31 rfl hr1 (by decide) (fun hc6 => ?_) (fun hc6 => ?_)
      · refine im_iconst (q := 45) D289_44 ?_
        exact (kJ10 (0) (Or.inl ⟨hc2, hc4, hc6, rfl⟩)).wk ⟨rfl, rfl, rfl, rfl, trivial⟩
      · replace hP := hP (Decidable.not_not.mp hc6)
        refine im_ld (q := 35) (i := 0) D289_34 rfl rfl rfl ?_
        refine im_rng (j := 18) sf_6952 (by decide) (by decide) (fun hr7 => ?_)
        refine im_gfL (q := 38) D289_35 (im_fl cn_289 fl_12_597) sf_6952 rfl rfl tL_12_18 rfl ?_
        refine im_callS (q := 41) (kd := 0) (y := 290) (n := 1) (z := 12) (vs := [vL (M 6952 18)]) (r := []) (L2 := [some (vL (M 6952 18)), none, none]) D289_38 rfl (im_cal cn_289 cl_12_656) (Or.inl rfl) rfl rfl rfl rfl rfl hd ⟨rfl, trivial⟩ ?_
        refine hP.mono ?_
        rintro _ e321 M165 ⟨x166, rfl, rfl, hP⟩
        refine im_bkS ?_
        refine im_goto (q := 44) (t := 45) D289_41 rfl ?_
        refine im_st1 (q := 47) (i := 4) (L' := [some (.ref 6952), some (vI p1), some (vI p2), some (vI p3), some (vI x166), none]) D289_45 (Or.inr rfl) (Nat.le_of_ble_eq_true rfl) rfl ?_
        refine im_ld (q := 49) (i := 4) D289_47 rfl rfl rfl ?_
        obtain ⟨hg167, hP⟩ := hP
        refine im_ifc (q := 52) (t := 57) D289_49 rfl hg167 (fun hc168 => ?_) (fun hc168 => ?_)
        · replace hP := hP.1 hc168
          refine im_ld (q := 58) (i := 0) D289_57 rfl rfl rfl ?_
          refine im_ld (q := 60) (i := 4) D289_58 rfl rfl rfl ?_
          refine im_ld (q := 61) (i := 3) D289_60 rfl rfl rfl ?_
          refine im_callV (q := 64) (kd := 1) (y := 287) (n := 2) (ci := 12) (a := 6952) (vs := [.ref 6952, vI x166, vI p3]) (r := []) (L2 := [some (.ref 6952), some (vI x166), some (vI p3), none]) D289_61 (im_cal cn_289 cl_12_642) (Or.inl rfl) rfl sf_6952 rfl rfl rfl rfl hd ⟨rfl, rfl, rfl, trivial⟩ ?_
          refine hP.mono ?_
          rintro _ e318 M169 ⟨x170, rfl, rfl, hP⟩
          refine im_bkS ?_
          refine im_st1 (q := 66) (i := 5) (L' := [some (.ref 6952), some (vI p1), some (vI p2), some (vI p3), some (vI x166), some (vI x170)]) D289_64 (Or.inr rfl) (Nat.le_of_ble_eq_true rfl) rfl ?_
          refine im_ld (q := 68) (i := 5) D289_66 rfl rfl rfl ?_
          refine im_iconst (q := 69) D289_68 ?_
          obtain ⟨hg171, hP⟩ := hP
          refine im_icmp (q := 72) (t := 73) D289_69 rfl hg171 (by decide) (fun hc172 => ?_) (fun hc172 => ?_)
          · replace hP := hP.1 hc172
            refine im_ld (q := 74) (i := 0) D289_73 rfl rfl rfl ?_
            refine im_ld (q := 75) (i := 1) D289_74 rfl rfl rfl ?_
            refine im_ld (q := 76) (i := 2) D289_75 rfl rfl rfl ?_
            refine im_ld (q := 78) (i := 5) D289_76 rfl rfl rfl ?_
            refine im_callV (q := 81) (kd := 1) (y := 288) (n := 3) (ci := 12) (a := 6952) (vs := [.ref 6952, vI p1, vI p2, vI x170]) (r := []) (L2 := [some (.ref 6952), some (vI p1), some (vI p2), some (vI x170)]) D289_78 (im_cal cn_289 cl_12_645) (Or.inl rfl) rfl sf_6952 rfl rfl rfl rfl hd ⟨rfl, rfl, rfl, rfl, trivial⟩ ?_
            refine hP.mono ?_
            rintro _ e317 M173 ⟨rfl, rfl, hP⟩
            refine im_bkN ?_
            refine im_ld (q := 83) (i := 4) D289_81 rfl rfl rfl ?_
            refine im_bipush (q := 85) D289_83 rfl ?_
            refine im_icmp (q := 88) (t := 99) D289_85 rfl hg167 (by decide) (fun hc174 => ?_) (fun hc174 => ?_)
            · replace hP := hP.1 hc174
              refine im_ld (q := 101) (i := 4) D289_99 rfl rfl rfl ?_
              refine im_bipush (q := 103) D289_101 rfl ?_
              refine im_icmp (q := 106) (t := 117) D289_103 rfl hg167 (by decide) (fun hc175 => ?_) (fun hc175 => ?_)
              · replace hP := hP.1 hc175
                refine im_ld (q := 118) (i := 0) D289_117 rfl rfl rfl ?_
                refine im_callV (q := 121) (kd := 1) (y := 282) (n := 0) (ci := 12) (a := 6952) (vs := [.ref 6952]) (r := []) (L2 := [some (.ref 6952)]) D289_118 (im_cal cn_289 cl_12_649) (Or.inl rfl) rfl sf_6952 rfl rfl rfl rfl hd ⟨rfl, trivial⟩ ?_
                refine hP.mono ?_
                rintro _ e209 M177 ⟨rfl, rfl, hP⟩
                refine im_bkN ?_
                refine im_ld (q := 123) (i := 4) D289_121 rfl rfl rfl ?_
                refine im_bipush (q := 125) D289_123 rfl ?_
                obtain ⟨hP, hJ181⟩ := hP
                have kJ182 : (((¬ x166 = 32) ∧ (x166 < 24)) ∨ ((¬ x166 = 32) ∧ (24 ≤ x166) ∧ (27 < x166))) → im_T g d 289 203 [some (.ref 6952), none, none, some (vI p3), some (vI x166), some (vI x170)] [] e M177 K := by
                  intro  hx183
                  have hP := hJ181  hx183
                  refine im_ld (q := 205) (i := 4) D289_203 rfl rfl rfl ?_
                  refine im_bipush (q := 207) D289_205 rfl ?_
                  obtain ⟨hP, hJ188⟩ := hP
                  have kJ189 : (((¬ x166 = 23) ∧ (x166 = 22)) ∨ ((¬ x166 = 23) ∧ (¬ x166 = 22) ∧ (x166 = 28))) → im_T g d 289 238 [some (.ref 6952), none, none, some (vI p3), none, some (vI x170)] [] e M177 K := by
                    intro  hx190
                    have hP := hJ188  hx190
                    refine im_ld (q := 239) (i := 0) D289_238 rfl rfl rfl ?_
                    refine im_iconst (q := 240) D289_239 ?_
                    refine im_ld (q := 242) (i := 5) D289_240 rfl rfl rfl ?_
                    refine im_iconst (q := 243) D289_242 ?_
                    refine im_ld (q := 244) (i := 3) D289_243 rfl rfl rfl ?_
                    refine im_callV (q := 247) (kd := 1) (y := 275) (n := 4) (ci := 12) (a := 6952) (vs := [.ref 6952, vI 4, vI x170, vI 2, vI p3]) (r := []) (L2 := [some (.ref 6952), some (vI 4), some (vI x170), some (vI 2), some (vI p3)]) D289_244 (im_cal cn_289 cl_12_652) (Or.inl rfl) rfl sf_6952 rfl rfl rfl rfl hd ⟨rfl, rfl, rfl, rfl, rfl, trivial⟩ ?_
                    refine hP.mono ?_
                    rintro _ e194 M191 ⟨rfl, rfl, hP⟩
                    refine im_bkN ?_
                    refine im_ld (q := 248) (i := 0) D289_247 rfl rfl rfl ?_
                    refine im_iconst (q := 249) D289_248 ?_
                    refine im_ld (q := 251) (i := 5) D289_249 rfl rfl rfl ?_
                    refine im_iconst (q := 252) D289_251 ?_
                    refine im_ld (q := 253) (i := 3) D289_252 rfl rfl rfl ?_
                    refine im_callV (q := 256) (kd := 1) (y := 275) (n := 4) (ci := 12) (a := 6952) (vs := [.ref 6952, vI 4, vI x170, vI 1, vI p3]) (r := []) (L2 := [some (.ref 6952), some (vI 4), some (vI x170), some (vI 1), some (vI p3)]) D289_253 (im_cal cn_289 cl_12_652) (Or.inl rfl) rfl sf_6952 rfl rfl rfl rfl hd ⟨rfl, rfl, rfl, rfl, rfl, trivial⟩ ?_
                    refine hP.mono ?_
                    rintro _ e193 M192 ⟨rfl, rfl, hP⟩
                    refine im_bkN ?_
                    refine im_goto (q := 259) (t := 275) D289_256 rfl ?_
                    exact im_vret (q := 276) D289_275 rfl hP
                  refine im_icmp (q := 210) (t := 224) D289_207 rfl hg167 (by decide) (fun hc184 => ?_) (fun hc184 => ?_)
                  · replace hP := hP.1 hc184
                    refine im_ld (q := 226) (i := 4) D289_224 rfl rfl rfl ?_
                    refine im_bipush (q := 228) D289_226 rfl ?_
                    refine im_icmp (q := 231) (t := 238) D289_228 rfl hg167 (by decide) (fun hc185 => ?_) (fun hc185 => ?_)
                    · exact (kJ189  (Or.inl ⟨hc184, hc185⟩)).wk ⟨rfl, rfl, rfl, trivial⟩
                    · replace hP := hP hc185
                      refine im_ld (q := 233) (i := 4) D289_231 rfl rfl rfl ?_
                      refine im_bipush (q := 235) D289_233 rfl ?_
                      refine im_icmp (q := 238) (t := 259) D289_235 rfl hg167 (by decide) (fun hc186 => ?_) (fun hc186 => ?_)
                      · replace hP := hP hc186
                        refine im_ld (q := 261) (i := 4) D289_259 rfl rfl rfl ?_
                        refine im_bipush (q := 263) D289_261 rfl ?_
                        refine im_icmp (q := 266) (t := 275) D289_263 rfl hg167 (by decide) (fun hc187 => ?_) (fun hc187 => ?_)
                        · replace hP := hP.1 hc187
                          exact im_vret (q := 276) D289_275 rfl hP
                        · replace hP := hP.2 (Decidable.not_not.mp hc187)
                          refine im_ld (q := 267) (i := 0) D289_266 rfl rfl rfl ?_
                          refine im_iconst (q := 268) D289_267 ?_
                          refine im_ld (q := 270) (i := 5) D289_268 rfl rfl rfl ?_
                          refine im_iconst (q := 271) D289_270 ?_
                          refine im_ld (q := 272) (i := 3) D289_271 rfl rfl rfl ?_
                          refine im_callV (q := 275) (kd := 1) (y := 275) (n := 4) (ci := 12) (a := 6952) (vs := [.ref 6952, vI 4, vI x170, vI 1, vI p3]) (r := []) (L2 := [some (.ref 6952), some (vI 4), some (vI x170), some (vI 1), some (vI p3)]) D289_272 (im_cal cn_289 cl_12_652) (Or.inl rfl) rfl sf_6952 rfl rfl rfl rfl hd ⟨rfl, rfl, rfl, rfl, rfl, trivial⟩ ?_
                          refine hP.mono ?_
                          rintro _ e196 M195 ⟨rfl, rfl, hP⟩
                          refine im_bkN ?_
                          exact im_vret (q := 276) D289_275 rfl hP
                      · exact (kJ189  (Or.inr ⟨hc184, hc185, (Decidable.not_not.mp hc186)⟩)).wk ⟨rfl, rfl, rfl, trivial⟩
                  · replace hP := hP.2 (Decidable.not_not.mp hc184)
                    refine im_ld (q := 211) (i := 0) D289_210 rfl rfl rfl ?_
                    refine im_iconst (q := 212) D289_211 ?_
                    refine im_ld (q := 214) (i := 5) D289_212 rfl rfl rfl ?_
                    refine im_iconst (q := 215) D289_214 ?_
                    refine im_ld (q := 216) (i := 3) D289_215 rfl rfl rfl ?_
                    refine im_iconst (q := 217) D289_216 ?_
                    refine im_iadd (q := 218) D289_217 ?_
                    refine im_callV (q := 221) (kd := 1) (y := 275) (n := 4) (ci := 12) (a := 6952) (vs := [.ref 6952, vI 2, vI x170, vI 1, vI (p3 + 1)]) (r := []) (L2 := [some (.ref 6952), some (vI 2), some (vI x170), some (vI 1), some (vI (p3 + 1))]) D289_218 (im_cal cn_289 cl_12_652) (Or.inl rfl) rfl sf_6952 rfl rfl rfl rfl hd ⟨rfl, rfl, rfl, rfl, rfl, trivial⟩ ?_
                    refine hP.mono ?_
                    rintro _ e198 M197 ⟨rfl, rfl, hP⟩
                    refine im_bkN ?_
                    refine im_goto (q := 224) (t := 275) D289_221 rfl ?_
                    exact im_vret (q := 276) D289_275 rfl hP
                refine im_icmp (q := 128) (t := 164) D289_125 rfl hg167 (by decide) (fun hc178 => ?_) (fun hc178 => ?_)
                · replace hP := hP.1 hc178
                  refine im_ld (q := 166) (i := 4) D289_164 rfl rfl rfl ?_
                  refine im_bipush (q := 168) D289_166 rfl ?_
                  refine im_icmp (q := 171) (t := 203) D289_168 rfl hg167 (by decide) (fun hc179 => ?_) (fun hc179 => ?_)
                  · exact (kJ182  (Or.inl ⟨hc178, hc179⟩)).wk ⟨rfl, rfl, rfl, rfl, trivial⟩
                  · replace hP := hP (Int.not_lt.mp hc179)
                    refine im_ld (q := 173) (i := 4) D289_171 rfl rfl rfl ?_
                    refine im_bipush (q := 175) D289_173 rfl ?_
                    refine im_icmp (q := 178) (t := 203) D289_175 rfl hg167 (by decide) (fun hc180 => ?_) (fun hc180 => ?_)
                    · exact (kJ182  (Or.inr ⟨hc178, (Int.not_lt.mp hc179), hc180⟩)).wk ⟨rfl, rfl, rfl, rfl, trivial⟩
                    · replace hP := hP (Int.not_lt.mp hc180)
                      refine im_ld (q := 179) (i := 0) D289_178 rfl rfl rfl ?_
                      refine im_iconst (q := 180) D289_179 ?_
                      refine im_ld (q := 182) (i := 5) D289_180 rfl rfl rfl ?_
                      refine im_iconst (q := 183) D289_182 ?_
                      refine im_ld (q := 184) (i := 3) D289_183 rfl rfl rfl ?_
                      refine im_iconst (q := 185) D289_184 ?_
                      refine im_iadd (q := 186) D289_185 ?_
                      refine im_callV (q := 189) (kd := 1) (y := 275) (n := 4) (ci := 12) (a := 6952) (vs := [.ref 6952, vI 2, vI x170, vI 2, vI (p3 + 1)]) (r := []) (L2 := [some (.ref 6952), some (vI 2), some (vI x170), some (vI 2), some (vI (p3 + 1))]) D289_186 (im_cal cn_289 cl_12_652) (Or.inl rfl) rfl sf_6952 rfl rfl rfl rfl hd ⟨rfl, rfl, rfl, rfl, rfl, trivial⟩ ?_
                      refine hP.mono ?_
                      rintro _ e202 M199 ⟨rfl, rfl, hP⟩
                      refine im_bkN ?_
                      refine im_ld (q := 190) (i := 0) D289_189 rfl rfl rfl ?_
                      refine im_iconst (q := 191) D289_190 ?_
                      refine im_ld (q := 193) (i := 5) D289_191 rfl rfl rfl ?_
                      refine im_iconst (q := 194) D289_193 ?_
                      refine im_ld (q := 195) (i := 3) D289_194 rfl rfl rfl ?_
                      refine im_iconst (q := 196) D289_195 ?_
                      refine im_iadd (q := 197) D289_196 ?_
                      refine im_callV (q := 200) (kd := 1) (y := 275) (n := 4) (ci := 12) (a := 6952) (vs := [.ref 6952, vI 2, vI x170, vI 1, vI (p3 + 1)]) (r := []) (L2 := [some (.ref 6952), some (vI 2), some (vI x170), some (vI 1), some (vI (p3 + 1))]) D289_197 (im_cal cn_289 cl_12_652) (Or.inl rfl) rfl sf_6952 rfl rfl rfl rfl hd ⟨rfl, rfl, rfl, rfl, rfl, trivial⟩ ?_
                      refine hP.mono ?_
                      rintro _ e201 M200 ⟨rfl, rfl, hP⟩
                      refine im_bkN ?_
                      refine im_goto (q := 203) (t := 275) D289_200 rfl ?_
                      exact im_vret (q := 276) D289_275 rfl hP
                · replace hP := hP.2 (Decidable.not_not.mp hc178)
                  refine im_ld (q := 129) (i := 0) D289_128 rfl rfl rfl ?_
                  refine im_iconst (q := 130) D289_129 ?_
                  refine im_ld (q := 132) (i := 5) D289_130 rfl rfl rfl ?_
                  refine im_iconst (q := 133) D289_132 ?_
                  refine im_ld (q := 134) (i := 3) D289_133 rfl rfl rfl ?_
                  refine im_iconst (q := 135) D289_134 ?_
                  refine im_iadd (q := 136) D289_135 ?_
                  refine im_callV (q := 139) (kd := 1) (y := 275) (n := 4) (ci := 12) (a := 6952) (vs := [.ref 6952, vI 2, vI x170, vI 3, vI (p3 + 1)]) (r := []) (L2 := [some (.ref 6952), some (vI 2), some (vI x170), some (vI 3), some (vI (p3 + 1))]) D289_136 (im_cal cn_289 cl_12_652) (Or.inl rfl) rfl sf_6952 rfl rfl rfl rfl hd ⟨rfl, rfl, rfl, rfl, rfl, trivial⟩ ?_
                  refine hP.mono ?_
                  rintro _ e208 M203 ⟨rfl, rfl, hP⟩
                  refine im_bkN ?_
                  refine im_ld (q := 140) (i := 0) D289_139 rfl rfl rfl ?_
                  refine im_iconst (q := 141) D289_140 ?_
                  refine im_ld (q := 143) (i := 5) D289_141 rfl rfl rfl ?_
                  refine im_iconst (q := 144) D289_143 ?_
                  refine im_ld (q := 145) (i := 3) D289_144 rfl rfl rfl ?_
                  refine im_iconst (q := 146) D289_145 ?_
                  refine im_iadd (q := 147) D289_146 ?_
                  refine im_callV (q := 150) (kd := 1) (y := 275) (n := 4) (ci := 12) (a := 6952) (vs := [.ref 6952, vI 2, vI x170, vI 2, vI (p3 + 1)]) (r := []) (L2 := [some (.ref 6952), some (vI 2), some (vI x170), some (vI 2), some (vI (p3 + 1))]) D289_147 (im_cal cn_289 cl_12_652) (Or.inl rfl) rfl sf_6952 rfl rfl rfl rfl hd ⟨rfl, rfl, rfl, rfl, rfl, trivial⟩ ?_
                  refine hP.mono ?_
                  rintro _ e207 M204 ⟨rfl, rfl, hP⟩
                  refine im_bkN ?_
                  refine im_ld (q := 151) (i := 0) D289_150 rfl rfl rfl ?_
                  refine im_iconst (q := 152) D289_151 ?_
                  refine im_ld (q := 154) (i := 5) D289_152 rfl rfl rfl ?_
                  refine im_iconst (q := 155) D289_154 ?_
                  refine im_ld (q := 156) (i := 3) D289_155 rfl rfl rfl ?_
                  refine im_iconst (q := 157) D289_156 ?_
                  refine im_iadd (q := 158) D289_157 ?_
                  refine im_callV (q := 161) (kd := 1) (y := 275) (n := 4) (ci := 12) (a := 6952) (vs := [.ref 6952, vI 3, vI x170, vI 1, vI (p3 + 1)]) (r := []) (L2 := [some (.ref 6952), some (vI 3), some (vI x170), some (vI 1), some (vI (p3 + 1))]) D289_158 (im_cal cn_289 cl_12_652) (Or.inl rfl) rfl sf_6952 rfl rfl rfl rfl hd ⟨rfl, rfl, rfl, rfl, rfl, trivial⟩ ?_
                  refine hP.mono ?_
                  rintro _ e206 M205 ⟨rfl, rfl, hP⟩
                  refine im_bkN ?_
                  refine im_goto (q := 164) (t := 275) D289_161 rfl ?_
                  exact im_vret (q := 276) D289_275 rfl hP
              · replace hP := hP.2 (Decidable.not_not.mp hc175)
                refine im_ld (q := 107) (i := 0) D289_106 rfl rfl rfl ?_
                refine im_gfR (q := 110) (b := 6961) D289_107 (im_fl cn_289 fl_12_36) sf_6952 rfl rfl tR_12_22 rf_6952_22 ?_
                refine im_ld (q := 112) (i := 5) D289_110 rfl rfl rfl ?_
                refine im_ld (q := 113) (i := 0) D289_112 rfl rfl rfl ?_
                refine im_rng (j := 18) sf_6952 (by decide) (by decide) (fun hr176 => ?_)
                refine im_gfL (q := 116) D289_113 (im_fl cn_289 fl_12_597) sf_6952 rfl rfl tL_12_18 rfl ?_
                obtain ⟨hg210, hP⟩ := hP
                refine im_last (q := 117) D289_116 sf_6961 hg210.1 hg210.2 (by decide) hr176 ?_
                refine im_ld (q := 118) (i := 0) D289_117 rfl rfl rfl ?_
                refine im_callV (q := 121) (kd := 1) (y := 282) (n := 0) (ci := 12) (a := 6952) (vs := [.ref 6952]) (r := []) (L2 := [some (.ref 6952)]) D289_118 (im_cal cn_289 cl_12_649) (Or.inl rfl) rfl sf_6952 rfl rfl rfl rfl hd ⟨rfl, trivial⟩ ?_
                refine hP.mono ?_
                rintro _ e243 M211 ⟨rfl, rfl, hP⟩
                refine im_bkN ?_
                refine im_ld (q := 123) (i := 4) D289_121 rfl rfl rfl ?_
                refine im_bipush (q := 125) D289_123 rfl ?_
                obtain ⟨hP, hJ215⟩ := hP
                have kJ216 : (((¬ x166 = 32) ∧ (x166 < 24)) ∨ ((¬ x166 = 32) ∧ (24 ≤ x166) ∧ (27 < x166))) → im_T g d 289 203 [some (.ref 6952), none, none, some (vI p3), some (vI x166), some (vI x170)] [] e M211 K := by
                  intro  hx217
                  have hP := hJ215  hx217
                  refine im_ld (q := 205) (i := 4) D289_203 rfl rfl rfl ?_
                  refine im_bipush (q := 207) D289_205 rfl ?_
                  obtain ⟨hP, hJ222⟩ := hP
                  have kJ223 : (((¬ x166 = 23) ∧ (x166 = 22)) ∨ ((¬ x166 = 23) ∧ (¬ x166 = 22) ∧ (x166 = 28))) → im_T g d 289 238 [some (.ref 6952), none, none, some (vI p3), none, some (vI x170)] [] e M211 K := by
                    intro  hx224
                    have hP := hJ222  hx224
                    refine im_ld (q := 239) (i := 0) D289_238 rfl rfl rfl ?_
                    refine im_iconst (q := 240) D289_239 ?_
                    refine im_ld (q := 242) (i := 5) D289_240 rfl rfl rfl ?_
                    refine im_iconst (q := 243) D289_242 ?_
                    refine im_ld (q := 244) (i := 3) D289_243 rfl rfl rfl ?_
                    refine im_callV (q := 247) (kd := 1) (y := 275) (n := 4) (ci := 12) (a := 6952) (vs := [.ref 6952, vI 4, vI x170, vI 2, vI p3]) (r := []) (L2 := [some (.ref 6952), some (vI 4), some (vI x170), some (vI 2), some (vI p3)]) D289_244 (im_cal cn_289 cl_12_652) (Or.inl rfl) rfl sf_6952 rfl rfl rfl rfl hd ⟨rfl, rfl, rfl, rfl, rfl, trivial⟩ ?_
                    refine hP.mono ?_
                    rintro _ e228 M225 ⟨rfl, rfl, hP⟩
                    refine im_bkN ?_
                    refine im_ld (q := 248) (i := 0) D289_247 rfl rfl rfl ?_
                    refine im_iconst (q := 249) D289_248 ?_
                    refine im_ld (q := 251) (i := 5) D289_249 rfl rfl rfl ?_
                    refine im_iconst (q := 252) D289_251 ?_
                    refine im_ld (q := 253) (i := 3) D289_252 rfl rfl rfl ?_
                    refine im_callV (q := 256) (kd := 1) (y := 275) (n := 4) (ci := 12) (a := 6952) (vs := [.ref 6952, vI 4, vI x170, vI 1, vI p3]) (r := []) (L2 := [some (.ref 6952), some (vI 4), some (vI x170), some (vI 1), some (vI p3)]) D289_253 (im_cal cn_289 cl_12_652) (Or.inl rfl) rfl sf_6952 rfl rfl rfl rfl hd ⟨rfl, rfl, rfl, rfl, rfl, trivial⟩ ?_
                    refine hP.mono ?_
                    rintro _ e227 M226 ⟨rfl, rfl, hP⟩
                    refine im_bkN ?_
                    refine im_goto (q := 259) (t := 275) D289_256 rfl ?_
                    exact im_vret (q := 276) D289_275 rfl hP
                  refine im_icmp (q := 210) (t := 224) D289_207 rfl hg167 (by decide) (fun hc218 => ?_) (fun hc218 => ?_)
                  · replace hP := hP.1 hc218
                    refine im_ld (q := 226) (i := 4) D289_224 rfl rfl rfl ?_
                    refine im_bipush (q := 228) D289_226 rfl ?_
                    refine im_icmp (q := 231) (t := 238) D289_228 rfl hg167 (by decide) (fun hc219 => ?_) (fun hc219 => ?_)
                    · exact (kJ223  (Or.inl ⟨hc218, hc219⟩)).wk ⟨rfl, rfl, rfl, trivial⟩
                    · replace hP := hP hc219
                      refine im_ld (q := 233) (i := 4) D289_231 rfl rfl rfl ?_
                      refine im_bipush (q := 235) D289_233 rfl ?_
                      refine im_icmp (q := 238) (t := 259) D289_235 rfl hg167 (by decide) (fun hc220 => ?_) (fun hc220 => ?_)
                      · replace hP := hP hc220
                        refine im_ld (q := 261) (i := 4) D289_259 rfl rfl rfl ?_
                        refine im_bipush (q := 263) D289_261 rfl ?_
                        refine im_icmp (q := 266) (t := 275) D289_263 rfl hg167 (by decide) (fun hc221 => ?_) (fun hc221 => ?_)
                        · replace hP := hP.1 hc221
                          exact im_vret (q := 276) D289_275 rfl hP
                        · replace hP := hP.2 (Decidable.not_not.mp hc221)
                          refine im_ld (q := 267) (i := 0) D289_266 rfl rfl rfl ?_
                          refine im_iconst (q := 268) D289_267 ?_
                          refine im_ld (q := 270) (i := 5) D289_268 rfl rfl rfl ?_
                          refine im_iconst (q := 271) D289_270 ?_
                          refine im_ld (q := 272) (i := 3) D289_271 rfl rfl rfl ?_
                          refine im_callV (q := 275) (kd := 1) (y := 275) (n := 4) (ci := 12) (a := 6952) (vs := [.ref 6952, vI 4, vI x170, vI 1, vI p3]) (r := []) (L2 := [some (.ref 6952), some (vI 4), some (vI x170), some (vI 1), some (vI p3)]) D289_272 (im_cal cn_289 cl_12_652) (Or.inl rfl) rfl sf_6952 rfl rfl rfl rfl hd ⟨rfl, rfl, rfl, rfl, rfl, trivial⟩ ?_
                          refine hP.mono ?_
                          rintro _ e230 M229 ⟨rfl, rfl, hP⟩
                          refine im_bkN ?_
                          exact im_vret (q := 276) D289_275 rfl hP
                      · exact (kJ223  (Or.inr ⟨hc218, hc219, (Decidable.not_not.mp hc220)⟩)).wk ⟨rfl, rfl, rfl, trivial⟩
                  · replace hP := hP.2 (Decidable.not_not.mp hc218)
                    refine im_ld (q := 211) (i := 0) D289_210 rfl rfl rfl ?_
                    refine im_iconst (q := 212) D289_211 ?_
                    refine im_ld (q := 214) (i := 5) D289_212 rfl rfl rfl ?_
                    refine im_iconst (q := 215) D289_214 ?_
                    refine im_ld (q := 216) (i := 3) D289_215 rfl rfl rfl ?_
                    refine im_iconst (q := 217) D289_216 ?_
                    refine im_iadd (q := 218) D289_217 ?_
                    refine im_callV (q := 221) (kd := 1) (y := 275) (n := 4) (ci := 12) (a := 6952) (vs := [.ref 6952, vI 2, vI x170, vI 1, vI (p3 + 1)]) (r := []) (L2 := [some (.ref 6952), some (vI 2), some (vI x170), some (vI 1), some (vI (p3 + 1))]) D289_218 (im_cal cn_289 cl_12_652) (Or.inl rfl) rfl sf_6952 rfl rfl rfl rfl hd ⟨rfl, rfl, rfl, rfl, rfl, trivial⟩ ?_
                    refine hP.mono ?_
                    rintro _ e232 M231 ⟨rfl, rfl, hP⟩
                    refine im_bkN ?_
                    refine im_goto (q := 224) (t := 275) D289_221 rfl ?_
                    exact im_vret (q := 276) D289_275 rfl hP
                refine im_icmp (q := 128) (t := 164) D289_125 rfl hg167 (by decide) (fun hc212 => ?_) (fun hc212 => ?_)
                · replace hP := hP.1 hc212
                  refine im_ld (q := 166) (i := 4) D289_164 rfl rfl rfl ?_
                  refine im_bipush (q := 168) D289_166 rfl ?_
                  refine im_icmp (q := 171) (t := 203) D289_168 rfl hg167 (by decide) (fun hc213 => ?_) (fun hc213 => ?_)
                  · exact (kJ216  (Or.inl ⟨hc212, hc213⟩)).wk ⟨rfl, rfl, rfl, rfl, trivial⟩
                  · replace hP := hP (Int.not_lt.mp hc213)
                    refine im_ld (q := 173) (i := 4) D289_171 rfl rfl rfl ?_
                    refine im_bipush (q := 175) D289_173 rfl ?_
                    refine im_icmp (q := 178) (t := 203) D289_175 rfl hg167 (by decide) (fun hc214 => ?_) (fun hc214 => ?_)
                    · exact (kJ216  (Or.inr ⟨hc212, (Int.not_lt.mp hc213), hc214⟩)).wk ⟨rfl, rfl, rfl, rfl, trivial⟩
                    · replace hP := hP (Int.not_lt.mp hc214)
                      refine im_ld (q := 179) (i := 0) D289_178 rfl rfl rfl ?_
                      refine im_iconst (q := 180) D289_179 ?_
                      refine im_ld (q := 182) (i := 5) D289_180 rfl rfl rfl ?_
                      refine im_iconst (q := 183) D289_182 ?_
                      refine im_ld (q := 184) (i := 3) D289_183 rfl rfl rfl ?_
                      refine im_iconst (q := 185) D289_184 ?_
                      refine im_iadd (q := 186) D289_185 ?_
                      refine im_callV (q := 189) (kd := 1) (y := 275) (n := 4) (ci := 12) (a := 6952) (vs := [.ref 6952, vI 2, vI x170, vI 2, vI (p3 + 1)]) (r := []) (L2 := [some (.ref 6952), some (vI 2), some (vI x170), some (vI 2), some (vI (p3 + 1))]) D289_186 (im_cal cn_289 cl_12_652) (Or.inl rfl) rfl sf_6952 rfl rfl rfl rfl hd ⟨rfl, rfl, rfl, rfl, rfl, trivial⟩ ?_
                      refine hP.mono ?_
                      rintro _ e236 M233 ⟨rfl, rfl, hP⟩
                      refine im_bkN ?_
                      refine im_ld (q := 190) (i := 0) D289_189 rfl rfl rfl ?_
                      refine im_iconst (q := 191) D289_190 ?_
                      refine im_ld (q := 193) (i := 5) D289_191 rfl rfl rfl ?_
                      refine im_iconst (q := 194) D289_193 ?_
                      refine im_ld (q := 195) (i := 3) D289_194 rfl rfl rfl ?_
                      refine im_iconst (q := 196) D289_195 ?_
                      refine im_iadd (q := 197) D289_196 ?_
                      refine im_callV (q := 200) (kd := 1) (y := 275) (n := 4) (ci := 12) (a := 6952) (vs := [.ref 6952, vI 2, vI x170, vI 1, vI (p3 + 1)]) (r := []) (L2 := [some (.ref 6952), some (vI 2), some (vI x170), some (vI 1), some (vI (p3 + 1))]) D289_197 (im_cal cn_289 cl_12_652) (Or.inl rfl) rfl sf_6952 rfl rfl rfl rfl hd ⟨rfl, rfl, rfl, rfl, rfl, trivial⟩ ?_
                      refine hP.mono ?_
                      rintro _ e235 M234 ⟨rfl, rfl, hP⟩
                      refine im_bkN ?_
                      refine im_goto (q := 203) (t := 275) D289_200 rfl ?_
                      exact im_vret (q := 276) D289_275 rfl hP
                · replace hP := hP.2 (Decidable.not_not.mp hc212)
                  refine im_ld (q := 129) (i := 0) D289_128 rfl rfl rfl ?_
                  refine im_iconst (q := 130) D289_129 ?_
                  refine im_ld (q := 132) (i := 5) D289_130 rfl rfl rfl ?_
                  refine im_iconst (q := 133) D289_132 ?_
                  refine im_ld (q := 134) (i := 3) D289_133 rfl rfl rfl ?_
                  refine im_iconst (q := 135) D289_134 ?_
                  refine im_iadd (q := 136) D289_135 ?_
                  refine im_callV (q := 139) (kd := 1) (y := 275) (n := 4) (ci := 12) (a := 6952) (vs := [.ref 6952, vI 2, vI x170, vI 3, vI (p3 + 1)]) (r := []) (L2 := [some (.ref 6952), some (vI 2), some (vI x170), some (vI 3), some (vI (p3 + 1))]) D289_136 (im_cal cn_289 cl_12_652) (Or.inl rfl) rfl sf_6952 rfl rfl rfl rfl hd ⟨rfl, rfl, rfl, rfl, rfl, trivial⟩ ?_
                  refine hP.mono ?_
                  rintro _ e242 M237 ⟨rfl, rfl, hP⟩
                  refine im_bkN ?_
                  refine im_ld (q := 140) (i := 0) D289_139 rfl rfl rfl ?_
                  refine im_iconst (q := 141) D289_140 ?_
                  refine im_ld (q := 143) (i := 5) D289_141 rfl rfl rfl ?_
                  refine im_iconst (q := 144) D289_143 ?_
                  refine im_ld (q := 145) (i := 3) D289_144 rfl rfl rfl ?_
                  refine im_iconst (q := 146) D289_145 ?_
                  refine im_iadd (q := 147) D289_146 ?_
                  refine im_callV (q := 150) (kd := 1) (y := 275) (n := 4) (ci := 12) (a := 6952) (vs := [.ref 6952, vI 2, vI x170, vI 2, vI (p3 + 1)]) (r := []) (L2 := [some (.ref 6952), some (vI 2), some (vI x170), some (vI 2), some (vI (p3 + 1))]) D289_147 (im_cal cn_289 cl_12_652) (Or.inl rfl) rfl sf_6952 rfl rfl rfl rfl hd ⟨rfl, rfl, rfl, rfl, rfl, trivial⟩ ?_
                  refine hP.mono ?_
                  rintro _ e241 M238 ⟨rfl, rfl, hP⟩
                  refine im_bkN ?_
                  refine im_ld (q := 151) (i := 0) D289_150 rfl rfl rfl ?_
                  refine im_iconst (q := 152) D289_151 ?_
                  refine im_ld (q := 154) (i := 5) D289_152 rfl rfl rfl ?_
                  refine im_iconst (q := 155) D289_154 ?_
                  refine im_ld (q := 156) (i := 3) D289_155 rfl rfl rfl ?_
                  refine im_iconst (q := 157) D289_156 ?_
                  refine im_iadd (q := 158) D289_157 ?_
                  refine im_callV (q := 161) (kd := 1) (y := 275) (n := 4) (ci := 12) (a := 6952) (vs := [.ref 6952, vI 3, vI x170, vI 1, vI (p3 + 1)]) (r := []) (L2 := [some (.ref 6952), some (vI 3), some (vI x170), some (vI 1), some (vI (p3 + 1))]) D289_158 (im_cal cn_289 cl_12_652) (Or.inl rfl) rfl sf_6952 rfl rfl rfl rfl hd ⟨rfl, rfl, rfl, rfl, rfl, trivial⟩ ?_
                  refine hP.mono ?_
                  rintro _ e240 M239 ⟨rfl, rfl, hP⟩
                  refine im_bkN ?_
                  refine im_goto (q := 164) (t := 275) D289_161 rfl ?_
                  exact im_vret (q := 276) D289_275 rfl hP
            · replace hP := hP.2 (Decidable.not_not.mp hc174)
              refine im_ld (q := 89) (i := 0) D289_88 rfl rfl rfl ?_
              refine im_gfR (q := 92) (b := 6968) D289_89 (im_fl cn_289 fl_12_57) sf_6952 rfl rfl tR_12_29 rf_6952_29 ?_
              refine im_ld (q := 94) (i := 5) D289_92 rfl rfl rfl ?_
              refine im_ld (q := 95) (i := 0) D289_94 rfl rfl rfl ?_
              refine im_callV (q := 98) (kd := 1) (y := 291) (n := 0) (ci := 12) (a := 6952) (vs := [.ref 6952]) (r := [vI x170, .ref 6968]) (L2 := [some (.ref 6952), none, none, none, none]) D289_95 (im_cal cn_289 cl_12_659) (Or.inl rfl) rfl sf_6952 rfl rfl rfl rfl hd ⟨rfl, trivial⟩ ?_
              refine hP.mono ?_
              rintro _ e316 M244 ⟨x245, rfl, rfl, hP⟩
              refine im_bkS ?_
              obtain ⟨hg246, hP⟩ := hP
              obtain ⟨hg247, hP⟩ := hP
              refine im_iast (q := 99) D289_98 sf_6968 hg246.1 hg246.2 (by decide) hg247 ?_
              refine im_ld (q := 101) (i := 4) D289_99 rfl rfl rfl ?_
              refine im_bipush (q := 103) D289_101 rfl ?_
              refine im_icmp (q := 106) (t := 117) D289_103 rfl hg167 (by decide) (fun hc248 => ?_) (fun hc248 => ?_)
              · replace hP := hP.1 hc248
                refine im_ld (q := 118) (i := 0) D289_117 rfl rfl rfl ?_
                refine im_callV (q := 121) (kd := 1) (y := 282) (n := 0) (ci := 12) (a := 6952) (vs := [.ref 6952]) (r := []) (L2 := [some (.ref 6952)]) D289_118 (im_cal cn_289 cl_12_649) (Or.inl rfl) rfl sf_6952 rfl rfl rfl rfl hd ⟨rfl, trivial⟩ ?_
                refine hP.mono ?_
                rintro _ e282 M250 ⟨rfl, rfl, hP⟩
                refine im_bkN ?_
                refine im_ld (q := 123) (i := 4) D289_121 rfl rfl rfl ?_
                refine im_bipush (q := 125) D289_123 rfl ?_
                obtain ⟨hP, hJ254⟩ := hP
                have kJ255 : (((¬ x166 = 32) ∧ (x166 < 24)) ∨ ((¬ x166 = 32) ∧ (24 ≤ x166) ∧ (27 < x166))) → im_T g d 289 203 [some (.ref 6952), none, none, some (vI p3), some (vI x166), some (vI x170)] [] e M250 K := by
                  intro  hx256
                  have hP := hJ254  hx256
                  refine im_ld (q := 205) (i := 4) D289_203 rfl rfl rfl ?_
                  refine im_bipush (q := 207) D289_205 rfl ?_
                  obtain ⟨hP, hJ261⟩ := hP
                  have kJ262 : (((¬ x166 = 23) ∧ (x166 = 22)) ∨ ((¬ x166 = 23) ∧ (¬ x166 = 22) ∧ (x166 = 28))) → im_T g d 289 238 [some (.ref 6952), none, none, some (vI p3), none, some (vI x170)] [] e M250 K := by
                    intro  hx263
                    have hP := hJ261  hx263
                    refine im_ld (q := 239) (i := 0) D289_238 rfl rfl rfl ?_
                    refine im_iconst (q := 240) D289_239 ?_
                    refine im_ld (q := 242) (i := 5) D289_240 rfl rfl rfl ?_
                    refine im_iconst (q := 243) D289_242 ?_
                    refine im_ld (q := 244) (i := 3) D289_243 rfl rfl rfl ?_
                    refine im_callV (q := 247) (kd := 1) (y := 275) (n := 4) (ci := 12) (a := 6952) (vs := [.ref 6952, vI 4, vI x170, vI 2, vI p3]) (r := []) (L2 := [some (.ref 6952), some (vI 4), some (vI x170), some (vI 2), some (vI p3)]) D289_244 (im_cal cn_289 cl_12_652) (Or.inl rfl) rfl sf_6952 rfl rfl rfl rfl hd ⟨rfl, rfl, rfl, rfl, rfl, trivial⟩ ?_
                    refine hP.mono ?_
                    rintro _ e267 M264 ⟨rfl, rfl, hP⟩
                    refine im_bkN ?_
                    refine im_ld (q := 248) (i := 0) D289_247 rfl rfl rfl ?_
                    refine im_iconst (q := 249) D289_248 ?_
                    refine im_ld (q := 251) (i := 5) D289_249 rfl rfl rfl ?_
                    refine im_iconst (q := 252) D289_251 ?_
                    refine im_ld (q := 253) (i := 3) D289_252 rfl rfl rfl ?_
                    refine im_callV (q := 256) (kd := 1) (y := 275) (n := 4) (ci := 12) (a := 6952) (vs := [.ref 6952, vI 4, vI x170, vI 1, vI p3]) (r := []) (L2 := [some (.ref 6952), some (vI 4), some (vI x170), some (vI 1), some (vI p3)]) D289_253 (im_cal cn_289 cl_12_652) (Or.inl rfl) rfl sf_6952 rfl rfl rfl rfl hd ⟨rfl, rfl, rfl, rfl, rfl, trivial⟩ ?_
                    refine hP.mono ?_
                    rintro _ e266 M265 ⟨rfl, rfl, hP⟩
                    refine im_bkN ?_
                    refine im_goto (q := 259) (t := 275) D289_256 rfl ?_
                    exact im_vret (q := 276) D289_275 rfl hP
                  refine im_icmp (q := 210) (t := 224) D289_207 rfl hg167 (by decide) (fun hc257 => ?_) (fun hc257 => ?_)
                  · replace hP := hP.1 hc257
                    refine im_ld (q := 226) (i := 4) D289_224 rfl rfl rfl ?_
                    refine im_bipush (q := 228) D289_226 rfl ?_
                    refine im_icmp (q := 231) (t := 238) D289_228 rfl hg167 (by decide) (fun hc258 => ?_) (fun hc258 => ?_)
                    · exact (kJ262  (Or.inl ⟨hc257, hc258⟩)).wk ⟨rfl, rfl, rfl, trivial⟩
                    · replace hP := hP hc258
                      refine im_ld (q := 233) (i := 4) D289_231 rfl rfl rfl ?_
                      refine im_bipush (q := 235) D289_233 rfl ?_
                      refine im_icmp (q := 238) (t := 259) D289_235 rfl hg167 (by decide) (fun hc259 => ?_) (fun hc259 => ?_)
                      · replace hP := hP hc259
                        refine im_ld (q := 261) (i := 4) D289_259 rfl rfl rfl ?_
                        refine im_bipush (q := 263) D289_261 rfl ?_
                        refine im_icmp (q := 266) (t := 275) D289_263 rfl hg167 (by decide) (fun hc260 => ?_) (fun hc260 => ?_)
                        · replace hP := hP.1 hc260
                          exact im_vret (q := 276) D289_275 rfl hP
                        · replace hP := hP.2 (Decidable.not_not.mp hc260)
                          refine im_ld (q := 267) (i := 0) D289_266 rfl rfl rfl ?_
                          refine im_iconst (q := 268) D289_267 ?_
                          refine im_ld (q := 270) (i := 5) D289_268 rfl rfl rfl ?_
                          refine im_iconst (q := 271) D289_270 ?_
                          refine im_ld (q := 272) (i := 3) D289_271 rfl rfl rfl ?_
                          refine im_callV (q := 275) (kd := 1) (y := 275) (n := 4) (ci := 12) (a := 6952) (vs := [.ref 6952, vI 4, vI x170, vI 1, vI p3]) (r := []) (L2 := [some (.ref 6952), some (vI 4), some (vI x170), some (vI 1), some (vI p3)]) D289_272 (im_cal cn_289 cl_12_652) (Or.inl rfl) rfl sf_6952 rfl rfl rfl rfl hd ⟨rfl, rfl, rfl, rfl, rfl, trivial⟩ ?_
                          refine hP.mono ?_
                          rintro _ e269 M268 ⟨rfl, rfl, hP⟩
                          refine im_bkN ?_
                          exact im_vret (q := 276) D289_275 rfl hP
                      · exact (kJ262  (Or.inr ⟨hc257, hc258, (Decidable.not_not.mp hc259)⟩)).wk ⟨rfl, rfl, rfl, trivial⟩
                  · replace hP := hP.2 (Decidable.not_not.mp hc257)
                    refine im_ld (q := 211) (i := 0) D289_210 rfl rfl rfl ?_
                    refine im_iconst (q := 212) D289_211 ?_
                    refine im_ld (q := 214) (i := 5) D289_212 rfl rfl rfl ?_
                    refine im_iconst (q := 215) D289_214 ?_
                    refine im_ld (q := 216) (i := 3) D289_215 rfl rfl rfl ?_
                    refine im_iconst (q := 217) D289_216 ?_
                    refine im_iadd (q := 218) D289_217 ?_
                    refine im_callV (q := 221) (kd := 1) (y := 275) (n := 4) (ci := 12) (a := 6952) (vs := [.ref 6952, vI 2, vI x170, vI 1, vI (p3 + 1)]) (r := []) (L2 := [some (.ref 6952), some (vI 2), some (vI x170), some (vI 1), some (vI (p3 + 1))]) D289_218 (im_cal cn_289 cl_12_652) (Or.inl rfl) rfl sf_6952 rfl rfl rfl rfl hd ⟨rfl, rfl, rfl, rfl, rfl, trivial⟩ ?_
                    refine hP.mono ?_
                    rintro _ e271 M270 ⟨rfl, rfl, hP⟩
                    refine im_bkN ?_
                    refine im_goto (q := 224) (t := 275) D289_221 rfl ?_
                    exact im_vret (q := 276) D289_275 rfl hP
                refine im_icmp (q := 128) (t := 164) D289_125 rfl hg167 (by decide) (fun hc251 => ?_) (fun hc251 => ?_)
                · replace hP := hP.1 hc251
                  refine im_ld (q := 166) (i := 4) D289_164 rfl rfl rfl ?_
                  refine im_bipush (q := 168) D289_166 rfl ?_
                  refine im_icmp (q := 171) (t := 203) D289_168 rfl hg167 (by decide) (fun hc252 => ?_) (fun hc252 => ?_)
                  · exact (kJ255  (Or.inl ⟨hc251, hc252⟩)).wk ⟨rfl, rfl, rfl, rfl, trivial⟩
                  · replace hP := hP (Int.not_lt.mp hc252)
                    refine im_ld (q := 173) (i := 4) D289_171 rfl rfl rfl ?_
                    refine im_bipush (q := 175) D289_173 rfl ?_
                    refine im_icmp (q := 178) (t := 203) D289_175 rfl hg167 (by decide) (fun hc253 => ?_) (fun hc253 => ?_)
                    · exact (kJ255  (Or.inr ⟨hc251, (Int.not_lt.mp hc252), hc253⟩)).wk ⟨rfl, rfl, rfl, rfl, trivial⟩
                    · replace hP := hP (Int.not_lt.mp hc253)
                      refine im_ld (q := 179) (i := 0) D289_178 rfl rfl rfl ?_
                      refine im_iconst (q := 180) D289_179 ?_
                      refine im_ld (q := 182) (i := 5) D289_180 rfl rfl rfl ?_
                      refine im_iconst (q := 183) D289_182 ?_
                      refine im_ld (q := 184) (i := 3) D289_183 rfl rfl rfl ?_
                      refine im_iconst (q := 185) D289_184 ?_
                      refine im_iadd (q := 186) D289_185 ?_
                      refine im_callV (q := 189) (kd := 1) (y := 275) (n := 4) (ci := 12) (a := 6952) (vs := [.ref 6952, vI 2, vI x170, vI 2, vI (p3 + 1)]) (r := []) (L2 := [some (.ref 6952), some (vI 2), some (vI x170), some (vI 2), some (vI (p3 + 1))]) D289_186 (im_cal cn_289 cl_12_652) (Or.inl rfl) rfl sf_6952 rfl rfl rfl rfl hd ⟨rfl, rfl, rfl, rfl, rfl, trivial⟩ ?_
                      refine hP.mono ?_
                      rintro _ e275 M272 ⟨rfl, rfl, hP⟩
                      refine im_bkN ?_
                      refine im_ld (q := 190) (i := 0) D289_189 rfl rfl rfl ?_
                      refine im_iconst (q := 191) D289_190 ?_
                      refine im_ld (q := 193) (i := 5) D289_191 rfl rfl rfl ?_
                      refine im_iconst (q := 194) D289_193 ?_
                      refine im_ld (q := 195) (i := 3) D289_194 rfl rfl rfl ?_
                      refine im_iconst (q := 196) D289_195 ?_
                      refine im_iadd (q := 197) D289_196 ?_
                      refine im_callV (q := 200) (kd := 1) (y := 275) (n := 4) (ci := 12) (a := 6952) (vs := [.ref 6952, vI 2, vI x170, vI 1, vI (p3 + 1)]) (r := []) (L2 := [some (.ref 6952), some (vI 2), some (vI x170), some (vI 1), some (vI (p3 + 1))]) D289_197 (im_cal cn_289 cl_12_652) (Or.inl rfl) rfl sf_6952 rfl rfl rfl rfl hd ⟨rfl, rfl, rfl, rfl, rfl, trivial⟩ ?_
                      refine hP.mono ?_
                      rintro _ e274 M273 ⟨rfl, rfl, hP⟩
                      refine im_bkN ?_
                      refine im_goto (q := 203) (t := 275) D289_200 rfl ?_
                      exact im_vret (q := 276) D289_275 rfl hP
                · replace hP := hP.2 (Decidable.not_not.mp hc251)
                  refine im_ld (q := 129) (i := 0) D289_128 rfl rfl rfl ?_
                  refine im_iconst (q := 130) D289_129 ?_
                  refine im_ld (q := 132) (i := 5) D289_130 rfl rfl rfl ?_
                  refine im_iconst (q := 133) D289_132 ?_
                  refine im_ld (q := 134) (i := 3) D289_133 rfl rfl rfl ?_
                  refine im_iconst (q := 135) D289_134 ?_
                  refine im_iadd (q := 136) D289_135 ?_
                  refine im_callV (q := 139) (kd := 1) (y := 275) (n := 4) (ci := 12) (a := 6952) (vs := [.ref 6952, vI 2, vI x170, vI 3, vI (p3 + 1)]) (r := []) (L2 := [some (.ref 6952), some (vI 2), some (vI x170), some (vI 3), some (vI (p3 + 1))]) D289_136 (im_cal cn_289 cl_12_652) (Or.inl rfl) rfl sf_6952 rfl rfl rfl rfl hd ⟨rfl, rfl, rfl, rfl, rfl, trivial⟩ ?_
                  refine hP.mono ?_
                  rintro _ e281 M276 ⟨rfl, rfl, hP⟩
                  refine im_bkN ?_
                  refine im_ld (q := 140) (i := 0) D289_139 rfl rfl rfl ?_
                  refine im_iconst (q := 141) D289_140 ?_
                  refine im_ld (q := 143) (i := 5) D289_141 rfl rfl rfl ?_
                  refine im_iconst (q := 144) D289_143 ?_
                  refine im_ld (q := 145) (i := 3) D289_144 rfl rfl rfl ?_
                  refine im_iconst (q := 146) D289_145 ?_
                  refine im_iadd (q := 147) D289_146 ?_
                  refine im_callV (q := 150) (kd := 1) (y := 275) (n := 4) (ci := 12) (a := 6952) (vs := [.ref 6952, vI 2, vI x170, vI 2, vI (p3 + 1)]) (r := []) (L2 := [some (.ref 6952), some (vI 2), some (vI x170), some (vI 2), some (vI (p3 + 1))]) D289_147 (im_cal cn_289 cl_12_652) (Or.inl rfl) rfl sf_6952 rfl rfl rfl rfl hd ⟨rfl, rfl, rfl, rfl, rfl, trivial⟩ ?_
                  refine hP.mono ?_
                  rintro _ e280 M277 ⟨rfl, rfl, hP⟩
                  refine im_bkN ?_
                  refine im_ld (q := 151) (i := 0) D289_150 rfl rfl rfl ?_
                  refine im_iconst (q := 152) D289_151 ?_
                  refine im_ld (q := 154) (i := 5) D289_152 rfl rfl rfl ?_
                  refine im_iconst (q := 155) D289_154 ?_
                  refine im_ld (q := 156) (i := 3) D289_155 rfl rfl rfl ?_
                  refine im_iconst (q := 157) D289_156 ?_
                  refine im_iadd (q := 158) D289_157 ?_
                  refine im_callV (q := 161) (kd := 1) (y := 275) (n := 4) (ci := 12) (a := 6952) (vs := [.ref 6952, vI 3, vI x170, vI 1, vI (p3 + 1)]) (r := []) (L2 := [some (.ref 6952), some (vI 3), some (vI x170), some (vI 1), some (vI (p3 + 1))]) D289_158 (im_cal cn_289 cl_12_652) (Or.inl rfl) rfl sf_6952 rfl rfl rfl rfl hd ⟨rfl, rfl, rfl, rfl, rfl, trivial⟩ ?_
                  refine hP.mono ?_
                  rintro _ e279 M278 ⟨rfl, rfl, hP⟩
                  refine im_bkN ?_
                  refine im_goto (q := 164) (t := 275) D289_161 rfl ?_
                  exact im_vret (q := 276) D289_275 rfl hP
              · replace hP := hP.2 (Decidable.not_not.mp hc248)
                refine im_ld (q := 107) (i := 0) D289_106 rfl rfl rfl ?_
                refine im_gfR (q := 110) (b := 6961) D289_107 (im_fl cn_289 fl_12_36) sf_6952 rfl rfl tR_12_22 rf_6952_22 ?_
                refine im_ld (q := 112) (i := 5) D289_110 rfl rfl rfl ?_
                refine im_ld (q := 113) (i := 0) D289_112 rfl rfl rfl ?_
                refine im_rng (j := 18) sf_6952 (by decide) (by decide) (fun hr249 => ?_)
                refine im_gfL (q := 116) D289_113 (im_fl cn_289 fl_12_597) sf_6952 rfl rfl tL_12_18 (im_rdn _ _ _ _ (by decide)) ?_
                refine im_last (q := 117) D289_116 sf_6961 hg246.1 hg246.2 (by decide) (im_rgc hr249 (im_rdn _ _ _ _ (by decide))) ?_
                refine im_ld (q := 118) (i := 0) D289_117 rfl rfl rfl ?_
                refine im_callV (q := 121) (kd := 1) (y := 282) (n := 0) (ci := 12) (a := 6952) (vs := [.ref 6952]) (r := []) (L2 := [some (.ref 6952)]) D289_118 (im_cal cn_289 cl_12_649) (Or.inl rfl) rfl sf_6952 rfl rfl rfl rfl hd ⟨rfl, trivial⟩ ?_
                refine hP.mono ?_
                rintro _ e315 M283 ⟨rfl, rfl, hP⟩
                refine im_bkN ?_
                refine im_ld (q := 123) (i := 4) D289_121 rfl rfl rfl ?_
                refine im_bipush (q := 125) D289_123 rfl ?_
                obtain ⟨hP, hJ287⟩ := hP
                have kJ288 : (((¬ x166 = 32) ∧ (x166 < 24)) ∨ ((¬ x166 = 32) ∧ (24 ≤ x166) ∧ (27 < x166))) → im_T g d 289 203 [some (.ref 6952), none, none, some (vI p3), some (vI x166), some (vI x170)] [] e M283 K := by
                  intro  hx289
                  have hP := hJ287  hx289
                  refine im_ld (q := 205) (i := 4) D289_203 rfl rfl rfl ?_
                  refine im_bipush (q := 207) D289_205 rfl ?_
                  obtain ⟨hP, hJ294⟩ := hP
                  have kJ295 : (((¬ x166 = 23) ∧ (x166 = 22)) ∨ ((¬ x166 = 23) ∧ (¬ x166 = 22) ∧ (x166 = 28))) → im_T g d 289 238 [some (.ref 6952), none, none, some (vI p3), none, some (vI x170)] [] e M283 K := by
                    intro  hx296
                    have hP := hJ294  hx296
                    refine im_ld (q := 239) (i := 0) D289_238 rfl rfl rfl ?_
                    refine im_iconst (q := 240) D289_239 ?_
                    refine im_ld (q := 242) (i := 5) D289_240 rfl rfl rfl ?_
                    refine im_iconst (q := 243) D289_242 ?_
                    refine im_ld (q := 244) (i := 3) D289_243 rfl rfl rfl ?_
                    refine im_callV (q := 247) (kd := 1) (y := 275) (n := 4) (ci := 12) (a := 6952) (vs := [.ref 6952, vI 4, vI x170, vI 2, vI p3]) (r := []) (L2 := [some (.ref 6952), some (vI 4), some (vI x170), some (vI 2), some (vI p3)]) D289_244 (im_cal cn_289 cl_12_652) (Or.inl rfl) rfl sf_6952 rfl rfl rfl rfl hd ⟨rfl, rfl, rfl, rfl, rfl, trivial⟩ ?_
                    refine hP.mono ?_
                    rintro _ e300 M297 ⟨rfl, rfl, hP⟩
                    refine im_bkN ?_
                    refine im_ld (q := 248) (i := 0) D289_247 rfl rfl rfl ?_
                    refine im_iconst (q := 249) D289_248 ?_
                    refine im_ld (q := 251) (i := 5) D289_249 rfl rfl rfl ?_
                    refine im_iconst (q := 252) D289_251 ?_
                    refine im_ld (q := 253) (i := 3) D289_252 rfl rfl rfl ?_
                    refine im_callV (q := 256) (kd := 1) (y := 275) (n := 4) (ci := 12) (a := 6952) (vs := [.ref 6952, vI 4, vI x170, vI 1, vI p3]) (r := []) (L2 := [some (.ref 6952), some (vI 4), some (vI x170), some (vI 1), some (vI p3)]) D289_253 (im_cal cn_289 cl_12_652) (Or.inl rfl) rfl sf_6952 rfl rfl rfl rfl hd ⟨rfl, rfl, rfl, rfl, rfl, trivial⟩ ?_
                    refine hP.mono ?_
                    rintro _ e299 M298 ⟨rfl, rfl, hP⟩
                    refine im_bkN ?_
                    refine im_goto (q := 259) (t := 275) D289_256 rfl ?_
                    exact im_vret (q := 276) D289_275 rfl hP
                  refine im_icmp (q := 210) (t := 224) D289_207 rfl hg167 (by decide) (fun hc290 => ?_) (fun hc290 => ?_)
                  · replace hP := hP.1 hc290
                    refine im_ld (q := 226) (i := 4) D289_224 rfl rfl rfl ?_
                    refine im_bipush (q := 228) D289_226 rfl ?_
                    refine im_icmp (q := 231) (t := 238) D289_228 rfl hg167 (by decide) (fun hc291 => ?_) (fun hc291 => ?_)
                    · exact (kJ295  (Or.inl ⟨hc290, hc291⟩)).wk ⟨rfl, rfl, rfl, trivial⟩
                    · replace hP := hP hc291
                      refine im_ld (q := 233) (i := 4) D289_231 rfl rfl rfl ?_
                      refine im_bipush (q := 235) D289_233 rfl ?_
                      refine im_icmp (q := 238) (t := 259) D289_235 rfl hg167 (by decide) (fun hc292 => ?_) (fun hc292 => ?_)
                      · replace hP := hP hc292
                        refine im_ld (q := 261) (i := 4) D289_259 rfl rfl rfl ?_
                        refine im_bipush (q := 263) D289_261 rfl ?_
                        refine im_icmp (q := 266) (t := 275) D289_263 rfl hg167 (by decide) (fun hc293 => ?_) (fun hc293 => ?_)
                        · replace hP := hP.1 hc293
                          exact im_vret (q := 276) D289_275 rfl hP
                        · replace hP := hP.2 (Decidable.not_not.mp hc293)
                          refine im_ld (q := 267) (i := 0) D289_266 rfl rfl rfl ?_
                          refine im_iconst (q := 268) D289_267 ?_
                          refine im_ld (q := 270) (i := 5) D289_268 rfl rfl rfl ?_
                          refine im_iconst (q := 271) D289_270 ?_
                          refine im_ld (q := 272) (i := 3) D289_271 rfl rfl rfl ?_
                          refine im_callV (q := 275) (kd := 1) (y := 275) (n := 4) (ci := 12) (a := 6952) (vs := [.ref 6952, vI 4, vI x170, vI 1, vI p3]) (r := []) (L2 := [some (.ref 6952), some (vI 4), some (vI x170), some (vI 1), some (vI p3)]) D289_272 (im_cal cn_289 cl_12_652) (Or.inl rfl) rfl sf_6952 rfl rfl rfl rfl hd ⟨rfl, rfl, rfl, rfl, rfl, trivial⟩ ?_
                          refine hP.mono ?_
                          rintro _ e302 M301 ⟨rfl, rfl, hP⟩
                          refine im_bkN ?_
                          exact im_vret (q := 276) D289_275 rfl hP
                      · exact (kJ295  (Or.inr ⟨hc290, hc291, (Decidable.not_not.mp hc292)⟩)).wk ⟨rfl, rfl, rfl, trivial⟩
                  · replace hP := hP.2 (Decidable.not_not.mp hc290)
                    refine im_ld (q := 211) (i := 0) D289_210 rfl rfl rfl ?_
                    refine im_iconst (q := 212) D289_211 ?_
                    refine im_ld (q := 214) (i := 5) D289_212 rfl rfl rfl ?_
                    refine im_iconst (q := 215) D289_214 ?_
                    refine im_ld (q := 216) (i := 3) D289_215 rfl rfl rfl ?_
                    refine im_iconst (q := 217) D289_216 ?_
                    refine im_iadd (q := 218) D289_217 ?_
                    refine im_callV (q := 221) (kd := 1) (y := 275) (n := 4) (ci := 12) (a := 6952) (vs := [.ref 6952, vI 2, vI x170, vI 1, vI (p3 + 1)]) (r := []) (L2 := [some (.ref 6952), some (vI 2), some (vI x170), some (vI 1), some (vI (p3 + 1))]) D289_218 (im_cal cn_289 cl_12_652) (Or.inl rfl) rfl sf_6952 rfl rfl rfl rfl hd ⟨rfl, rfl, rfl, rfl, rfl, trivial⟩ ?_
                    refine hP.mono ?_
                    rintro _ e304 M303 ⟨rfl, rfl, hP⟩
                    refine im_bkN ?_
                    refine im_goto (q := 224) (t := 275) D289_221 rfl ?_
                    exact im_vret (q := 276) D289_275 rfl hP
                refine im_icmp (q := 128) (t := 164) D289_125 rfl hg167 (by decide) (fun hc284 => ?_) (fun hc284 => ?_)
                · replace hP := hP.1 hc284
                  refine im_ld (q := 166) (i := 4) D289_164 rfl rfl rfl ?_
                  refine im_bipush (q := 168) D289_166 rfl ?_
                  refine im_icmp (q := 171) (t := 203) D289_168 rfl hg167 (by decide) (fun hc285 => ?_) (fun hc285 => ?_)
                  · exact (kJ288  (Or.inl ⟨hc284, hc285⟩)).wk ⟨rfl, rfl, rfl, rfl, trivial⟩
                  · replace hP := hP (Int.not_lt.mp hc285)
                    refine im_ld (q := 173) (i := 4) D289_171 rfl rfl rfl ?_
                    refine im_bipush (q := 175) D289_173 rfl ?_
                    refine im_icmp (q := 178) (t := 203) D289_175 rfl hg167 (by decide) (fun hc286 => ?_) (fun hc286 => ?_)
                    · exact (kJ288  (Or.inr ⟨hc284, (Int.not_lt.mp hc285), hc286⟩)).wk ⟨rfl, rfl, rfl, rfl, trivial⟩
                    · replace hP := hP (Int.not_lt.mp hc286)
                      refine im_ld (q := 179) (i := 0) D289_178 rfl rfl rfl ?_
                      refine im_iconst (q := 180) D289_179 ?_
                      refine im_ld (q := 182) (i := 5) D289_180 rfl rfl rfl ?_
                      refine im_iconst (q := 183) D289_182 ?_
                      refine im_ld (q := 184) (i := 3) D289_183 rfl rfl rfl ?_
                      refine im_iconst (q := 185) D289_184 ?_
                      refine im_iadd (q := 186) D289_185 ?_
                      refine im_callV (q := 189) (kd := 1) (y := 275) (n := 4) (ci := 12) (a := 6952) (vs := [.ref 6952, vI 2, vI x170, vI 2, vI (p3 + 1)]) (r := []) (L2 := [some (.ref 6952), some (vI 2), some (vI x170), some (vI 2), some (vI (p3 + 1))]) D289_186 (im_cal cn_289 cl_12_652) (Or.inl rfl) rfl sf_6952 rfl rfl rfl rfl hd ⟨rfl, rfl, rfl, rfl, rfl, trivial⟩ ?_
                      refine hP.mono ?_
                      rintro _ e308 M305 ⟨rfl, rfl, hP⟩
                      refine im_bkN ?_
                      refine im_ld (q := 190) (i := 0) D289_189 rfl rfl rfl ?_
                      refine im_iconst (q := 191) D289_190 ?_
                      refine im_ld (q := 193) (i := 5) D289_191 rfl rfl rfl ?_
                      refine im_iconst (q := 194) D289_193 ?_
                      refine im_ld (q := 195) (i := 3) D289_194 rfl rfl rfl ?_
                      refine im_iconst (q := 196) D289_195 ?_
                      refine im_iadd (q := 197) D289_196 ?_
                      refine im_callV (q := 200) (kd := 1) (y := 275) (n := 4) (ci := 12) (a := 6952) (vs := [.ref 6952, vI 2, vI x170, vI 1, vI (p3 + 1)]) (r := []) (L2 := [some (.ref 6952), some (vI 2), some (vI x170), some (vI 1), some (vI (p3 + 1))]) D289_197 (im_cal cn_289 cl_12_652) (Or.inl rfl) rfl sf_6952 rfl rfl rfl rfl hd ⟨rfl, rfl, rfl, rfl, rfl, trivial⟩ ?_
                      refine hP.mono ?_
                      rintro _ e307 M306 ⟨rfl, rfl, hP⟩
                      refine im_bkN ?_
                      refine im_goto (q := 203) (t := 275) D289_200 rfl ?_
                      exact im_vret (q := 276) D289_275 rfl hP
                · replace hP := hP.2 (Decidable.not_not.mp hc284)
                  refine im_ld (q := 129) (i := 0) D289_128 rfl rfl rfl ?_
                  refine im_iconst (q := 130) D289_129 ?_
                  refine im_ld (q := 132) (i := 5) D289_130 rfl rfl rfl ?_
                  refine im_iconst (q := 133) D289_132 ?_
                  refine im_ld (q := 134) (i := 3) D289_133 rfl rfl rfl ?_
                  refine im_iconst (q := 135) D289_134 ?_
                  refine im_iadd (q := 136) D289_135 ?_
                  refine im_callV (q := 139) (kd := 1) (y := 275) (n := 4) (ci := 12) (a := 6952) (vs := [.ref 6952, vI 2, vI x170, vI 3, vI (p3 + 1)]) (r := []) (L2 := [some (.ref 6952), some (vI 2), some (vI x170), some (vI 3), some (vI (p3 + 1))]) D289_136 (im_cal cn_289 cl_12_652) (Or.inl rfl) rfl sf_6952 rfl rfl rfl rfl hd ⟨rfl, rfl, rfl, rfl, rfl, trivial⟩ ?_
                  refine hP.mono ?_
                  rintro _ e314 M309 ⟨rfl, rfl, hP⟩
                  refine im_bkN ?_
                  refine im_ld (q := 140) (i := 0) D289_139 rfl rfl rfl ?_
                  refine im_iconst (q := 141) D289_140 ?_
                  refine im_ld (q := 143) (i := 5) D289_141 rfl rfl rfl ?_
                  refine im_iconst (q := 144) D289_143 ?_
                  refine im_ld (q := 145) (i := 3) D289_144 rfl rfl rfl ?_
                  refine im_iconst (q := 146) D289_145 ?_
                  refine im_iadd (q := 147) D289_146 ?_
                  refine im_callV (q := 150) (kd := 1) (y := 275) (n := 4) (ci := 12) (a := 6952) (vs := [.ref 6952, vI 2, vI x170, vI 2, vI (p3 + 1)]) (r := []) (L2 := [some (.ref 6952), some (vI 2), some (vI x170), some (vI 2), some (vI (p3 + 1))]) D289_147 (im_cal cn_289 cl_12_652) (Or.inl rfl) rfl sf_6952 rfl rfl rfl rfl hd ⟨rfl, rfl, rfl, rfl, rfl, trivial⟩ ?_
                  refine hP.mono ?_
                  rintro _ e313 M310 ⟨rfl, rfl, hP⟩
                  refine im_bkN ?_
                  refine im_ld (q := 151) (i := 0) D289_150 rfl rfl rfl ?_
                  refine im_iconst (q := 152) D289_151 ?_
                  refine im_ld (q := 154) (i := 5) D289_152 rfl rfl rfl ?_
                  refine im_iconst (q := 155) D289_154 ?_
                  refine im_ld (q := 156) (i := 3) D289_155 rfl rfl rfl ?_
                  refine im_iconst (q := 157) D289_156 ?_
                  refine im_iadd (q := 158) D289_157 ?_
                  refine im_callV (q := 161) (kd := 1) (y := 275) (n := 4) (ci := 12) (a := 6952) (vs := [.ref 6952, vI 3, vI x170, vI 1, vI (p3 + 1)]) (r := []) (L2 := [some (.ref 6952), some (vI 3), some (vI x170), some (vI 1), some (vI (p3 + 1))]) D289_158 (im_cal cn_289 cl_12_652) (Or.inl rfl) rfl sf_6952 rfl rfl rfl rfl hd ⟨rfl, rfl, rfl, rfl, rfl, trivial⟩ ?_
                  refine hP.mono ?_
                  rintro _ e312 M311 ⟨rfl, rfl, hP⟩
                  refine im_bkN ?_
                  refine im_goto (q := 164) (t := 275) D289_161 rfl ?_
                  exact im_vret (q := 276) D289_275 rfl hP
          · replace hP := hP.2 (Decidable.not_not.mp hc172)
            exact im_vret (q := 73) D289_72 rfl hP
        · replace hP := hP.2 (Decidable.not_not.mp hc168)
          refine im_ld (q := 53) (i := 0) D289_52 rfl rfl rfl ?_
          refine im_callV (q := 56) (kd := 1) (y := 285) (n := 0) (ci := 12) (a := 6952) (vs := [.ref 6952]) (r := []) (L2 := [some (.ref 6952)]) D289_53 (im_cal cn_289 cl_12_639) (Or.inl rfl) rfl sf_6952 rfl rfl rfl rfl hd ⟨rfl, trivial⟩ ?_
          refine hP.mono ?_
          rintro _ e320 M319 ⟨rfl, rfl, hP⟩
          refine im_bkN ?_
          exact im_vret (q := 57) D289_56 rfl hP
    · refine im_bipush (q := 23) D289_21 rfl ?_
      refine im_goto (q := 26) (t := 45) D289_23 rfl ?_
      exact (kJ10 (21) (Or.inr (Or.inl ⟨hc2, (Decidable.not_not.mp hc4), rfl⟩))).wk ⟨rfl, rfl, rfl, rfl, trivial⟩
  · refine im_bipush (q := 10) D289_8 rfl ?_
    refine im_goto (q := 13) (t := 45) D289_10 rfl ?_
    exact (kJ10 (20) (Or.inr (Or.inr ⟨(Decidable.not_not.mp hc2), rfl⟩))).wk ⟨rfl, rfl, rfl, rfl, trivial⟩

/-! blocks of the reference -/
theorem D384_0 {g : im_g} : im_D g 384 0 (.aload_n 0) 1 := im_D.of (by decide +kernel)
theorem D384_1 {g : im_g} : im_D g 384 1 (.getfield 33) 4 := im_D.of (by decide +kernel)
theorem D384_4 {g : im_g} : im_D g 384 4 (.iload_n 1) 5 := im_D.of (by decide +kernel)
theorem D384_5 {g : im_g} : im_D g 384 5 (.iaload) 6 := im_D.of (by decide +kernel)
theorem D384_6 {g : im_g} : im_D g 384 6 (.tableswitch 303 20 43 #[110, 117, 128, 303, 303, 303, 303, 303, 176, 260, 269, 224, 303, 303, 303, 303, 303, 303, 303, 303, 303, 303, 303, 278]) 7 := im_D.of (by decide +kernel)
theorem D384_116 {g : im_g} : im_D g 384 116 (.aload_n 0) 117 := im_D.of (by decide +kernel)
theorem D384_117 {g : im_g} : im_D g 384 117 (.getfield 57) 120 := im_D.of (by decide +kernel)
theorem D384_120 {g : im_g} : im_D g 384 120 (.iload_n 1) 121 := im_D.of (by decide +kernel)
theorem D384_121 {g : im_g} : im_D g 384 121 (.iaload) 122 := im_D.of (by decide +kernel)
theorem D384_122 {g : im_g} : im_D g 384 122 (.ireturn) 123 := im_D.of (by decide +kernel)
theorem D384_123 {g : im_g} : im_D g 384 123 (.aload_n 0) 124 := im_D.of (by decide +kernel)
theorem D384_124 {g : im_g} : im_D g 384 124 (.aload_n 0) 125 := im_D.of (by decide +kernel)
theorem D384_125 {g : im_g} : im_D g 384 125 (.getfield 36) 128 := im_D.of (by decide +kernel)
theorem D384_128 {g : im_g} : im_D g 384 128 (.iload_n 1) 129 := im_D.of (by decide +kernel)
theorem D384_129 {g : im_g} : im_D g 384 129 (.laload) 130 := im_D.of (by decide +kernel)
theorem D384_130 {g : im_g} : im_D g 384 130 (.invokevirtual 892) 133 := im_D.of (by decide +kernel)
theorem D384_133 {g : im_g} : im_D g 384 133 (.ireturn) 134 := im_D.of (by decide +kernel)
theorem D384_134 {g : im_g} : im_D g 384 134 (.aload_n 0) 135 := im_D.of (by decide +kernel)
theorem D384_135 {g : im_g} : im_D g 384 135 (.aload_n 0) 136 := im_D.of (by decide +kernel)
theorem D384_136 {g : im_g} : im_D g 384 136 (.getfield 36) 139 := im_D.of (by decide +kernel)
theorem D384_139 {g : im_g} : im_D g 384 139 (.iload_n 1) 140 := im_D.of (by decide +kernel)
theorem D384_140 {g : im_g} : im_D g 384 140 (.laload) 141 := im_D.of (by decide +kernel)
theorem D384_141 {g : im_g} : im_D g 384 141 (.aload_n 0) 142 := im_D.of (by decide +kernel)
theorem D384_142 {g : im_g} : im_D g 384 142 (.getfield 39) 145 := im_D.of (by decide +kernel)
theorem D384_145 {g : im_g} : im_D g 384 145 (.iload_n 1) 146 := im_D.of (by decide +kernel)
theorem D384_146 {g : im_g} : im_D g 384 146 (.laload) 147 := im_D.of (by decide +kernel)
theorem D384_147 {g : im_g} : im_D g 384 147 (.invokevirtual 895) 150 := im_D.of (by decide +kernel)
theorem D384_150 {g : im_g} : im_D g 384 150 (.ifCond .eq 27) 153 := im_D.of (by decide +kernel)
theorem D384_153 {g : im_g} : im_D g 384 153 (.aload_n 0) 154 := im_D.of (by decide +kernel)
theorem D384_154 {g : im_g} : im_D g 384 154 (.getfield 195) 157 := im_D.of (by decide +kernel)
theorem D384_157 {g : im_g} : im_D g 384 157 (.aload_n 0) 158 := im_D.of (by decide +kernel)
theorem D384_158 {g : im_g} : im_D g 384 158 (.aload_n 0) 159 := im_D.of (by decide +kernel)
theorem D384_159 {g : im_g} : im_D g 384 159 (.getfield 36) 162 := im_D.of (by decide +kernel)
theorem D384_162 {g : im_g} : im_D g 384 162 (.iload_n 1) 163 := im_D.of (by decide +kernel)
theorem D384_163 {g : im_g} : im_D g 384 163 (.laload) 164 := im_D.of (by decide +kernel)
theorem D384_164 {g : im_g} : im_D g 384 164 (.aload_n 0) 165 := im_D.of (by decide +kernel)
theorem D384_165 {g : im_g} : im_D g 384 165 (.getfield 39) 168 := im_D.of (by decide +kernel)
theorem D384_168 {g : im_g} : im_D g 384 168 (.iload_n 1) 169 := im_D.of (by decide +kernel)
theorem D384_169 {g : im_g} : im_D g 384 169 (.laload) 170 := im_D.of (by decide +kernel)
theorem D384_170 {g : im_g} : im_D g 384 170 (.invokevirtual 876) 173 := im_D.of (by decide +kernel)
theorem D384_173 {g : im_g} : im_D g 384 173 (.iaload) 174 := im_D.of (by decide +kernel)
theorem D384_174 {g : im_g} : im_D g 384 174 (.goto 7) 177 := im_D.of (by decide +kernel)
theorem D384_177 {g : im_g} : im_D g 384 177 (.aload_n 0) 178 := im_D.of (by decide +kernel)
theorem D384_178 {g : im_g} : im_D g 384 178 (.invokevirtual 493) 181 := im_D.of (by decide +kernel)
theorem D384_181 {g : im_g} : im_D g 384 181 (.ireturn) 182 := im_D.of (by decide +kernel)
theorem D384_182 {g : im_g} : im_D g 384 182 (.aload_n 0) 183 := im_D.of (by decide +kernel)
theorem D384_183 {g : im_g} : im_D g 384 183 (.aload_n 0) 184 := im_D.of (by decide +kernel)
theorem D384_184 {g : im_g} : im_D g 384 184 (.getfield 36) 187 := im_D.of (by decide +kernel)
theorem D384_187 {g : im_g} : im_D g 384 187 (.iload_n 1) 188 := im_D.of (by decide +kernel)
theorem D384_188 {g : im_g} : im_D g 384 188 (.laload) 189 := im_D.of (by decide +kernel)
theorem D384_189 {g : im_g} : im_D g 384 189 (.aload_n 0) 190 := im_D.of (by decide +kernel)
theorem D384_190 {g : im_g} : im_D g 384 190 (.getfield 39) 193 := im_D.of (by decide +kernel)
theorem D384_193 {g : im_g} : im_D g 384 193 (.iload_n 1) 194 := im_D.of (by decide +kernel)
theorem D384_194 {g : im_g} : im_D g 384 194 (.laload) 195 := im_D.of (by decide +kernel)
theorem D384_195 {g : im_g} : im_D g 384 195 (.invokevirtual 899) 198 := im_D.of (by decide +kernel)
theorem D384_198 {g : im_g} : im_D g 384 198 (.ifCond .eq 27) 201 := im_D.of (by decide +kernel)
theorem D384_201 {g : im_g} : im_D g 384 201 (.aload_n 0) 202 := im_D.of (by decide +kernel)
theorem D384_202 {g : im_g} : im_D g 384 202 (.getfield 204) 205 := im_D.of (by decide +kernel)
theorem D384_205 {g : im_g} : im_D g 384 205 (.aload_n 0) 206 := im_D.of (by decide +kernel)
theorem D384_206 {g : im_g} : im_D g 384 206 (.aload_n 0) 207 := im_D.of (by decide +kernel)
theorem D384_207 {g : im_g} : im_D g 384 207 (.getfield 36) 210 := im_D.of (by decide +kernel)
theorem D384_210 {g : im_g} : im_D g 384 210 (.iload_n 1) 211 := im_D.of (by decide +kernel)
theorem D384_211 {g : im_g} : im_D g 384 211 (.laload) 212 := im_D.of (by decide +kernel)
theorem D384_212 {g : im_g} : im_D g 384 212 (.aload_n 0) 213 := im_D.of (by decide +kernel)
theorem D384_213 {g : im_g} : im_D g 384 213 (.getfield 39) 216 := im_D.of (by decide +kernel)
theorem D384_216 {g : im_g} : im_D g 384 216 (.iload_n 1) 217 := im_D.of (by decide +kernel)
theorem D384_217 {g : im_g} : im_D g 384 217 (.laload) 218 := im_D.of (by decide +kernel)
theorem D384_218 {g : im_g} : im_D g 384 218 (.invokevirtual 880) 221 := im_D.of (by decide +kernel)
theorem D384_221 {g : im_g} : im_D g 384 221 (.iaload) 222 := im_D.of (by decide +kernel)
theorem D384_222 {g : im_g} : im_D g 384 222 (.goto 7) 225 := im_D.of (by decide +kernel)
theorem D384_225 {g : im_g} : im_D g 384 225 (.aload_n 0) 226 := im_D.of (by decide +kernel)
theorem D384_226 {g : im_g} : im_D g 384 226 (.invokevirtual 493) 229 := im_D.of (by decide +kernel)
theorem D384_229 {g : im_g} : im_D g 384 229 (.ireturn) 230 := im_D.of (by decide +kernel)
theorem D384_230 {g : im_g} : im_D g 384 230 (.aload_n 0) 231 := im_D.of (by decide +kernel)
theorem D384_231 {g : im_g} : im_D g 384 231 (.aload_n 0) 232 := im_D.of (by decide +kernel)
theorem D384_232 {g : im_g} : im_D g 384 232 (.getfield 36) 235 := im_D.of (by decide +kernel)
theorem D384_235 {g : im_g} : im_D g 384 235 (.iload_n 1) 236 := im_D.of (by decide +kernel)
theorem D384_236 {g : im_g} : im_D g 384 236 (.laload) 237 := im_D.of (by decide +kernel)
theorem D384_237 {g : im_g} : im_D g 384 237 (.invokevirtual 902) 240 := im_D.of (by decide +kernel)
theorem D384_240 {g : im_g} : im_D g 384 240 (.ifCond .eq 21) 243 := im_D.of (by decide +kernel)
theorem D384_243 {g : im_g} : im_D g 384 243 (.aload_n 0) 244 := im_D.of (by decide +kernel)
theorem D384_244 {g : im_g} : im_D g 384 244 (.getfield 210) 247 := im_D.of (by decide +kernel)
theorem D384_247 {g : im_g} : im_D g 384 247 (.aload_n 0) 248 := im_D.of (by decide +kernel)
theorem D384_248 {g : im_g} : im_D g 384 248 (.aload_n 0) 249 := im_D.of (by decide +kernel)
theorem D384_249 {g : im_g} : im_D g 384 249 (.getfield 36) 252 := im_D.of (by decide +kernel)
theorem D384_252 {g : im_g} : im_D g 384 252 (.iload_n 1) 253 := im_D.of (by decide +kernel)
theorem D384_253 {g : im_g} : im_D g 384 253 (.laload) 254 := im_D.of (by decide +kernel)
theorem D384_254 {g : im_g} : im_D g 384 254 (.invokevirtual 883) 257 := im_D.of (by decide +kernel)
theorem D384_257 {g : im_g} : im_D g 384 257 (.iaload) 258 := im_D.of (by decide +kernel)
theorem D384_258 {g : im_g} : im_D g 384 258 (.goto 7) 261 := im_D.of (by decide +kernel)
theorem D384_261 {g : im_g} : im_D g 384 261 (.aload_n 0) 262 := im_D.of (by decide +kernel)
theorem D384_262 {g : im_g} : im_D g 384 262 (.invokevirtual 493) 265 := im_D.of (by decide +kernel)
theorem D384_265 {g : im_g} : im_D g 384 265 (.ireturn) 266 := im_D.of (by decide +kernel)
theorem D384_266 {g : im_g} : im_D g 384 266 (.aload_n 0) 267 := im_D.of (by decide +kernel)
theorem D384_267 {g : im_g} : im_D g 384 267 (.aload_n 0) 268 := im_D.of (by decide +kernel)
theorem D384_268 {g : im_g} : im_D g 384 268 (.getfield 905) 271 := im_D.of (by decide +kernel)
theorem D384_271 {g : im_g} : im_D g 384 271 (.invokevirtual 908) 274 := im_D.of (by decide +kernel)
theorem D384_274 {g : im_g} : im_D g 384 274 (.ireturn) 275 := im_D.of (by decide +kernel)
theorem D384_275 {g : im_g} : im_D g 384 275 (.aload_n 0) 276 := im_D.of (by decide +kernel)
theorem D384_276 {g : im_g} : im_D g 384 276 (.aload_n 0) 277 := im_D.of (by decide +kernel)
theorem D384_277 {g : im_g} : im_D g 384 277 (.getfield 911) 280 := im_D.of (by decide +kernel)
theorem D384_280 {g : im_g} : im_D g 384 280 (.invokevirtual 908) 283 := im_D.of (by decide +kernel)
theorem D384_283 {g : im_g} : im_D g 384 283 (.ireturn) 284 := im_D.of (by decide +kernel)
theorem D384_284 {g : im_g} : im_D g 384 284 (.aload_n 0) 285 := im_D.of (by decide +kernel)
theorem D384_285 {g : im_g} : im_D g 384 285 (.aload_n 0) 286 := im_D.of (by decide +kernel)
theorem D384_286 {g : im_g} : im_D g 384 286 (.getfield 36) 289 := im_D.of (by decide +kernel)
theorem D384_289 {g : im_g} : im_D g 384 289 (.iload_n 1) 290 := im_D.of (by decide +kernel)
theorem D384_290 {g : im_g} : im_D g 384 290 (.laload) 291 := im_D.of (by decide +kernel)
theorem D384_291 {g : im_g} : im_D g 384 291 (.aload_n 0) 292 := im_D.of (by decide +kernel)
theorem D384_292 {g : im_g} : im_D g 384 292 (.getfield 39) 295 := im_D.of (by decide +kernel)
theorem D384_295 {g : im_g} : im_D g 384 295 (.iload_n 1) 296 := im_D.of (by decide +kernel)
theorem D384_296 {g : im_g} : im_D g 384 296 (.laload) 297 := im_D.of (by decide +kernel)
theorem D384_297 {g : im_g} : im_D g 384 297 (.invokevirtual 899) 300 := im_D.of (by decide +kernel)
theorem D384_300 {g : im_g} : im_D g 384 300 (.ifCond .eq 7) 303 := im_D.of (by decide +kernel)
theorem D384_303 {g : im_g} : im_D g 384 303 (.iconst 1) 304 := im_D.of (by decide +kernel)
theorem D384_304 {g : im_g} : im_D g 384 304 (.goto 4) 307 := im_D.of (by decide +kernel)
theorem D384_307 {g : im_g} : im_D g 384 307 (.iconst 0) 308 := im_D.of (by decide +kernel)
theorem D384_308 {g : im_g} : im_D g 384 308 (.ireturn) 309 := im_D.of (by decide +kernel)
theorem D384_309 {g : im_g} : im_D g 384 309 (.aload_n 0) 310 := im_D.of (by decide +kernel)
theorem D384_310 {g : im_g} : im_D g 384 310 (.getfield 33) 313 := im_D.of (by decide +kernel)
theorem D384_313 {g : im_g} : im_D g 384 313 (.iload_n 1) 314 := im_D.of (by decide +kernel)
theorem D384_314 {g : im_g} : im_D g 384 314 (.iaload) 315 := im_D.of (by decide +kernel)
theorem D384_315 {g : im_g} : im_D g 384 315 (.bipush 49) 317 := im_D.of (by decide +kernel)
theorem D384_317 {g : im_g} : im_D g 384 317 (.if_icmp .ne 7) 320 := im_D.of (by decide +kernel)
theorem D384_320 {g : im_g} : im_D g 384 320 (.iconst 1) 321 := im_D.of (by decide +kernel)
theorem D384_321 {g : im_g} : im_D g 384 321 (.goto 4) 324 := im_D.of (by decide +kernel)
theorem D384_324 {g : im_g} : im_D g 384 324 (.iconst 0) 325 := im_D.of (by decide +kernel)
theorem D384_325 {g : im_g} : im_D g 384 325 (.ireturn) 326 := im_D.of (by decide +kernel)
theorem D385_0 {g : im_g} : im_D g 385 0 (.iconst 0) 1 := im_D.of (by decide +kernel)
theorem D385_1 {g : im_g} : im_D g 385 1 (.istore_n 3) 2 := im_D.of (by decide +kernel)
theorem D385_2 {g : im_g} : im_D g 385 2 (.iload_n 3) 3 := im_D.of (by decide +kernel)
theorem D385_3 {g : im_g} : im_D g 385 3 (.aload_n 0) 4 := im_D.of (by decide +kernel)
theorem D385_4 {g : im_g} : im_D g 385 4 (.getfield 873) 7 := im_D.of (by decide +kernel)
theorem D385_7 {g : im_g} : im_D g 385 7 (.if_icmp .ge 27) 10 := im_D.of (by decide +kernel)
theorem D385_10 {g : im_g} : im_D g 385 10 (.aload_n 0) 11 := im_D.of (by decide +kernel)
theorem D385_11 {g : im_g} : im_D g 385 11 (.getfield 213) 14 := im_D.of (by decide +kernel)
theorem D385_14 {g : im_g} : im_D g 385 14 (.iload_n 3) 15 := im_D.of (by decide +kernel)
theorem D385_15 {g : im_g} : im_D g 385 15 (.laload) 16 := im_D.of (by decide +kernel)
theorem D385_16 {g : im_g} : im_D g 385 16 (.lload_n 1) 17 := im_D.of (by decide +kernel)
theorem D385_17 {g : im_g} : im_D g 385 17 (.lcmp) 18 := im_D.of (by decide +kernel)
theorem D385_18 {g : im_g} : im_D g 385 18 (.ifCond .ne 10) 21 := im_D.of (by decide +kernel)
theorem D385_21 {g : im_g} : im_D g 385 21 (.aload_n 0) 22 := im_D.of (by decide +kernel)
theorem D385_22 {g : im_g} : im_D g 385 22 (.getfield 216) 25 := im_D.of (by decide +kernel)
theorem D385_25 {g : im_g} : im_D g 385 25 (.iload_n 3) 26 := im_D.of (by decide +kernel)
theorem D385_26 {g : im_g} : im_D g 385 26 (.iaload) 27 := im_D.of (by decide +kernel)
theorem D385_27 {g : im_g} : im_D g 385 27 (.ireturn) 28 := im_D.of (by decide +kernel)
theorem D385_28 {g : im_g} : im_D g 385 28 (.iinc 3 1) 31 := im_D.of (by decide +kernel)
theorem D385_31 {g : im_g} : im_D g 385 31 (.goto (-29)) 34 := im_D.of (by decide +kernel)
theorem D385_34 {g : im_g} : im_D g 385 34 (.aload_n 0) 35 := im_D.of (by decide +kernel)
theorem D385_35 {g : im_g} : im_D g 385 35 (.invokevirtual 493) 38 := im_D.of (by decide +kernel)
theorem D385_38 {g : im_g} : im_D g 385 38 (.ireturn) 39 := im_D.of (by decide +kernel)
theorem D387_0 {g : im_g} : im_D g 387 0 (.aload_n 0) 1 := im_D.of (by decide +kernel)
theorem D387_1 {g : im_g} : im_D g 387 1 (.lload_n 1) 2 := im_D.of (by decide +kernel)
theorem D387_2 {g : im_g} : im_D g 387 2 (.lload_n 3) 3 := im_D.of (by decide +kernel)
theorem D387_3 {g : im_g} : im_D g 387 3 (.invokevirtual 880) 6 := im_D.of (by decide +kernel)
theorem D387_6 {g : im_g} : im_D g 387 6 (.istore 5) 8 := im_D.of (by decide +kernel)
theorem D387_8 {g : im_g} : im_D g 387 8 (.iload 5) 10 := im_D.of (by decide +kernel)
theorem D387_10 {g : im_g} : im_D g 387 10 (.aload_n 0) 11 := im_D.of (by decide +kernel)
theorem D387_11 {g : im_g} : im_D g 387 11 (.getfield 867) 14 := im_D.of (by decide +kernel)
theorem D387_14 {g : im_g} : im_D g 387 14 (.if_icmp .ge 31) 17 := im_D.of (by decide +kernel)
theorem D387_17 {g : im_g} : im_D g 387 17 (.aload_n 0) 18 := im_D.of (by decide +kernel)
theorem D387_18 {g : im_g} : im_D g 387 18 (.getfield 198) 21 := im_D.of (by decide +kernel)
theorem D387_21 {g : im_g} : im_D g 387 21 (.iload 5) 23 := im_D.of (by decide +kernel)
theorem D387_23 {g : im_g} : im_D g 387 23 (.laload) 24 := im_D.of (by decide +kernel)
theorem D387_24 {g : im_g} : im_D g 387 24 (.lload_n 1) 25 := im_D.of (by decide +kernel)
theorem D387_25 {g : im_g} : im_D g 387 25 (.lcmp) 26 := im_D.of (by decide +kernel)
theorem D387_26 {g : im_g} : im_D g 387 26 (.ifCond .ne 19) 29 := im_D.of (by decide +kernel)
theorem D387_29 {g : im_g} : im_D g 387 29 (.aload_n 0) 30 := im_D.of (by decide +kernel)
theorem D387_30 {g : im_g} : im_D g 387 30 (.getfield 201) 33 := im_D.of (by decide +kernel)
theorem D387_33 {g : im_g} : im_D g 387 33 (.iload 5) 35 := im_D.of (by decide +kernel)
theorem D387_35 {g : im_g} : im_D g 387 35 (.laload) 36 := im_D.of (by decide +kernel)
theorem D387_36 {g : im_g} : im_D g 387 36 (.lload_n 3) 37 := im_D.of (by decide +kernel)
theorem D387_37 {g : im_g} : im_D g 387 37 (.lcmp) 38 := im_D.of (by decide +kernel)
theorem D387_38 {g : im_g} : im_D g 387 38 (.ifCond .ne 7) 41 := im_D.of (by decide +kernel)
theorem D387_41 {g : im_g} : im_D g 387 41 (.iconst 1) 42 := im_D.of (by decide +kernel)
theorem D387_42 {g : im_g} : im_D g 387 42 (.goto 4) 45 := im_D.of (by decide +kernel)
theorem D387_45 {g : im_g} : im_D g 387 45 (.iconst 0) 46 := im_D.of (by decide +kernel)
theorem D387_46 {g : im_g} : im_D g 387 46 (.ireturn) 47 := im_D.of (by decide +kernel)
theorem D388_0 {g : im_g} : im_D g 388 0 (.iconst 0) 1 := im_D.of (by decide +kernel)
theorem D388_1 {g : im_g} : im_D g 388 1 (.istore 5) 3 := im_D.of (by decide +kernel)
theorem D388_3 {g : im_g} : im_D g 388 3 (.iload 5) 5 := im_D.of (by decide +kernel)
theorem D388_5 {g : im_g} : im_D g 388 5 (.aload_n 0) 6 := im_D.of (by decide +kernel)
theorem D388_6 {g : im_g} : im_D g 388 6 (.getfield 867) 9 := im_D.of (by decide +kernel)
theorem D388_9 {g : im_g} : im_D g 388 9 (.if_icmp .ge 45) 12 := im_D.of (by decide +kernel)
theorem D388_12 {g : im_g} : im_D g 388 12 (.aload_n 0) 13 := im_D.of (by decide +kernel)
theorem D388_13 {g : im_g} : im_D g 388 13 (.getfield 198) 16 := im_D.of (by decide +kernel)
theorem D388_16 {g : im_g} : im_D g 388 16 (.iload 5) 18 := im_D.of (by decide +kernel)
theorem D388_18 {g : im_g} : im_D g 388 18 (.laload) 19 := im_D.of (by decide +kernel)
theorem D388_19 {g : im_g} : im_D g 388 19 (.lload_n 1) 20 := im_D.of (by decide +kernel)
theorem D388_20 {g : im_g} : im_D g 388 20 (.lcmp) 21 := im_D.of (by decide +kernel)
theorem D388_21 {g : im_g} : im_D g 388 21 (.ifCond .lt 27) 24 := im_D.of (by decide +kernel)
theorem D388_24 {g : im_g} : im_D g 388 24 (.aload_n 0) 25 := im_D.of (by decide +kernel)
theorem D388_25 {g : im_g} : im_D g 388 25 (.getfield 198) 28 := im_D.of (by decide +kernel)
theorem D388_28 {g : im_g} : im_D g 388 28 (.iload 5) 30 := im_D.of (by decide +kernel)
theorem D388_30 {g : im_g} : im_D g 388 30 (.laload) 31 := im_D.of (by decide +kernel)
theorem D388_31 {g : im_g} : im_D g 388 31 (.lload_n 1) 32 := im_D.of (by decide +kernel)
theorem D388_32 {g : im_g} : im_D g 388 32 (.lcmp) 33 := im_D.of (by decide +kernel)
theorem D388_33 {g : im_g} : im_D g 388 33 (.ifCond .ne 21) 36 := im_D.of (by decide +kernel)
theorem D388_36 {g : im_g} : im_D g 388 36 (.aload_n 0) 37 := im_D.of (by decide +kernel)
theorem D388_37 {g : im_g} : im_D g 388 37 (.getfield 201) 40 := im_D.of (by decide +kernel)
theorem D388_40 {g : im_g} : im_D g 388 40 (.iload 5) 42 := im_D.of (by decide +kernel)
theorem D388_42 {g : im_g} : im_D g 388 42 (.laload) 43 := im_D.of (by decide +kernel)
theorem D388_43 {g : im_g} : im_D g 388 43 (.lload_n 3) 44 := im_D.of (by decide +kernel)
theorem D388_44 {g : im_g} : im_D g 388 44 (.lcmp) 45 := im_D.of (by decide +kernel)
theorem D388_45 {g : im_g} : im_D g 388 45 (.ifCond .ge 9) 48 := im_D.of (by decide +kernel)
theorem D388_48 {g : im_g} : im_D g 388 48 (.iinc 5 1) 51 := im_D.of (by decide +kernel)
theorem D388_51 {g : im_g} : im_D g 388 51 (.goto (-48)) 54 := im_D.of (by decide +kernel)
theorem D388_54 {g : im_g} : im_D g 388 54 (.iload 5) 56 := im_D.of (by decide +kernel)
theorem D388_56 {g : im_g} : im_D g 388 56 (.ireturn) 57 := im_D.of (by decide +kernel)
theorem D389_0 {g : im_g} : im_D g 389 0 (.aload_n 0) 1 := im_D.of (by decide +kernel)
theorem D389_1 {g : im_g} : im_D g 389 1 (.lload_n 1) 2 := im_D.of (by decide +kernel)
theorem D389_2 {g : im_g} : im_D g 389 2 (.invokevirtual 883) 5 := im_D.of (by decide +kernel)
theorem D389_5 {g : im_g} : im_D g 389 5 (.istore_n 3) 6 := im_D.of (by decide +kernel)
theorem D389_6 {g : im_g} : im_D g 389 6 (.iload_n 3) 7 := im_D.of (by decide +kernel)
theorem D389_7 {g : im_g} : im_D g 389 7 (.aload_n 0) 8 := im_D.of (by decide +kernel)
theorem D389_8 {g : im_g} : im_D g 389 8 (.getfield 870) 11 := im_D.of (by decide +kernel)
theorem D389_11 {g : im_g} : im_D g 389 11 (.if_icmp .ge 18) 14 := im_D.of (by decide +kernel)
theorem D389_14 {g : im_g} : im_D g 389 14 (.aload_n 0) 15 := im_D.of (by decide +kernel)
theorem D389_15 {g : im_g} : im_D g 389 15 (.getfield 207) 18 := im_D.of (by decide +kernel)
theorem D389_18 {g : im_g} : im_D g 389 18 (.iload_n 3) 19 := im_D.of (by decide +kernel)
theorem D389_19 {g : im_g} : im_D g 389 19 (.laload) 20 := im_D.of (by decide +kernel)
theorem D389_20 {g : im_g} : im_D g 389 20 (.lload_n 1) 21 := im_D.of (by decide +kernel)
theorem D389_21 {g : im_g} : im_D g 389 21 (.lcmp) 22 := im_D.of (by decide +kernel)
theorem D389_22 {g : im_g} : im_D g 389 22 (.ifCond .ne 7) 25 := im_D.of (by decide +kernel)
theorem D389_25 {g : im_g} : im_D g 389 25 (.iconst 1) 26 := im_D.of (by decide +kernel)
theorem D389_26 {g : im_g} : im_D g 389 26 (.goto 4) 29 := im_D.of (by decide +kernel)
theorem D389_29 {g : im_g} : im_D g 389 29 (.iconst 0) 30 := im_D.of (by decide +kernel)
theorem D389_30 {g : im_g} : im_D g 389 30 (.ireturn) 31 := im_D.of (by decide +kernel)
theorem D390_0 {g : im_g} : im_D g 390 0 (.iconst 0) 1 := im_D.of (by decide +kernel)
theorem D390_1 {g : im_g} : im_D g 390 1 (.istore_n 3) 2 := im_D.of (by decide +kernel)
theorem D390_2 {g : im_g} : im_D g 390 2 (.iload_n 3) 3 := im_D.of (by decide +kernel)
theorem D390_3 {g : im_g} : im_D g 390 3 (.aload_n 0) 4 := im_D.of (by decide +kernel)
theorem D390_4 {g : im_g} : im_D g 390 4 (.getfield 870) 7 := im_D.of (by decide +kernel)
theorem D390_7 {g : im_g} : im_D g 390 7 (.if_icmp .ge 20) 10 := im_D.of (by decide +kernel)
theorem D390_10 {g : im_g} : im_D g 390 10 (.aload_n 0) 11 := im_D.of (by decide +kernel)
theorem D390_11 {g : im_g} : im_D g 390 11 (.getfield 207) 14 := im_D.of (by decide +kernel)
theorem D390_14 {g : im_g} : im_D g 390 14 (.iload_n 3) 15 := im_D.of (by decide +kernel)
theorem D390_15 {g : im_g} : im_D g 390 15 (.laload) 16 := im_D.of (by decide +kernel)
theorem D390_16 {g : im_g} : im_D g 390 16 (.lload_n 1) 17 := im_D.of (by decide +kernel)
theorem D390_17 {g : im_g} : im_D g 390 17 (.lcmp) 18 := im_D.of (by decide +kernel)
theorem D390_18 {g : im_g} : im_D g 390 18 (.ifCond .ge 9) 21 := im_D.of (by decide +kernel)
theorem D390_21 {g : im_g} : im_D g 390 21 (.iinc 3 1) 24 := im_D.of (by decide +kernel)
theorem D390_24 {g : im_g} : im_D g 390 24 (.goto (-22)) 27 := im_D.of (by decide +kernel)
theorem D390_27 {g : im_g} : im_D g 390 27 (.iload_n 3) 28 := im_D.of (by decide +kernel)
theorem D390_28 {g : im_g} : im_D g 390 28 (.ireturn) 29 := im_D.of (by decide +kernel)
theorem D392_0 {g : im_g} : im_D g 392 0 (.aload_n 0) 1 := im_D.of (by decide +kernel)
theorem D392_1 {g : im_g} : im_D g 392 1 (.getfield 264) 4 := im_D.of (by decide +kernel)
theorem D392_4 {g : im_g} : im_D g 392 4 (.aload_n 0) 5 := im_D.of (by decide +kernel)
theorem D392_5 {g : im_g} : im_D g 392 5 (.getfield 889) 8 := im_D.of (by decide +kernel)
theorem D392_8 {g : im_g} : im_D g 392 8 (.iload_n 1) 9 := im_D.of (by decide +kernel)
theorem D392_9 {g : im_g} : im_D g 392 9 (.iastore) 10 := im_D.of (by decide +kernel)
theorem D392_10 {g : im_g} : im_D g 392 10 (.aload_n 0) 11 := im_D.of (by decide +kernel)
theorem D392_11 {g : im_g} : im_D g 392 11 (.dup) 12 := im_D.of (by decide +kernel)
theorem D392_12 {g : im_g} : im_D g 392 12 (.getfield 889) 15 := im_D.of (by decide +kernel)
theorem D392_15 {g : im_g} : im_D g 392 15 (.iconst 1) 16 := im_D.of (by decide +kernel)
theorem D392_16 {g : im_g} : im_D g 392 16 (.iadd) 17 := im_D.of (by decide +kernel)
theorem D392_17 {g : im_g} : im_D g 392 17 (.putfield 889) 20 := im_D.of (by decide +kernel)
theorem D392_20 {g : im_g} : im_D g 392 20 (.return_) 21 := im_D.of (by decide +kernel)
theorem D394_0 {g : im_g} : im_D g 394 0 (.iload_n 1) 1 := im_D.of (by decide +kernel)
theorem D394_1 {g : im_g} : im_D g 394 1 (.tableswitch 217 24 47 #[111, 119, 127, 134, 217, 217, 217, 217, 217, 217, 217, 217, 217, 217, 217, 217, 141, 145, 217, 217, 157, 172, 187, 202]) 2 := im_D.of (by decide +kernel)
theorem D394_112 {g : im_g} : im_D g 394 112 (.aload_n 0) 113 := im_D.of (by decide +kernel)
theorem D394_113 {g : im_g} : im_D g 394 113 (.iload_n 2) 114 := im_D.of (by decide +kernel)
theorem D394_114 {g : im_g} : im_D g 394 114 (.iload_n 3) 115 := im_D.of (by decide +kernel)
theorem D394_115 {g : im_g} : im_D g 394 115 (.iconst 1) 116 := im_D.of (by decide +kernel)
theorem D394_116 {g : im_g} : im_D g 394 116 (.invokevirtual 914) 119 := im_D.of (by decide +kernel)
theorem D394_119 {g : im_g} : im_D g 394 119 (.ireturn) 120 := im_D.of (by decide +kernel)
theorem D394_120 {g : im_g} : im_D g 394 120 (.aload_n 0) 121 := im_D.of (by decide +kernel)
theorem D394_121 {g : im_g} : im_D g 394 121 (.iload_n 2) 122 := im_D.of (by decide +kernel)
theorem D394_122 {g : im_g} : im_D g 394 122 (.iload_n 3) 123 := im_D.of (by decide +kernel)
theorem D394_123 {g : im_g} : im_D g 394 123 (.iconst (-1)) 124 := im_D.of (by decide +kernel)
theorem D394_124 {g : im_g} : im_D g 394 124 (.invokevirtual 914) 127 := im_D.of (by decide +kernel)
theorem D394_127 {g : im_g} : im_D g 394 127 (.ireturn) 128 := im_D.of (by decide +kernel)
theorem D394_128 {g : im_g} : im_D g 394 128 (.aload_n 0) 129 := im_D.of (by decide +kernel)
theorem D394_129 {g : im_g} : im_D g 394 129 (.iload_n 2) 130 := im_D.of (by decide +kernel)
theorem D394_130 {g : im_g} : im_D g 394 130 (.iload_n 3) 131 := im_D.of (by decide +kernel)
theorem D394_131 {g : im_g} : im_D g 394 131 (.invokevirtual 917) 134 := im_D.of (by decide +kernel)
theorem D394_134 {g : im_g} : im_D g 394 134 (.ireturn) 135 := im_D.of (by decide +kernel)
theorem D394_135 {g : im_g} : im_D g 394 135 (.aload_n 0) 136 := im_D.of (by decide +kernel)
theorem D394_136 {g : im_g} : im_D g 394 136 (.iload_n 2) 137 := im_D.of (by decide +kernel)
theorem D394_137 {g : im_g} : im_D g 394 137 (.iload_n 3) 138 := im_D.of (by decide +kernel)
theorem D394_138 {g : im_g} : im_D g 394 138 (.invokevirtual 920) 141 := im_D.of (by decide +kernel)
theorem D394_141 {g : im_g} : im_D g 394 141 (.ireturn) 142 := im_D.of (by decide +kernel)
theorem D394_142 {g : im_g} : im_D g 394 142 (.iload_n 2) 143 := im_D.of (by decide +kernel)
theorem D394_143 {g : im_g} : im_D g 394 143 (.iload_n 3) 144 := im_D.of (by decide +kernel)
theorem D394_144 {g : im_g} : im_D g 394 144 (.imul) 145 := im_D.of (by decide +kernel)
theorem D394_145 {g : im_g} : im_D g 394 145 (.ireturn) 146 := im_D.of (by decide +kernel)
theorem D394_146 {g : im_g} : im_D g 394 146 (.iload_n 2) 147 := im_D.of (by decide +kernel)
theorem D394_147 {g : im_g} : im_D g 394 147 (.iload_n 3) 148 := im_D.of (by decide +kernel)
theorem D394_148 {g : im_g} : im_D g 394 148 (.iadd) 149 := im_D.of (by decide +kernel)
theorem D394_149 {g : im_g} : im_D g 394 149 (.ifCond .le 7) 152 := im_D.of (by decide +kernel)
theorem D394_152 {g : im_g} : im_D g 394 152 (.iconst 1) 153 := im_D.of (by decide +kernel)
theorem D394_153 {g : im_g} : im_D g 394 153 (.goto 4) 156 := im_D.of (by decide +kernel)
theorem D394_156 {g : im_g} : im_D g 394 156 (.iconst 0) 157 := im_D.of (by decide +kernel)
theorem D394_157 {g : im_g} : im_D g 394 157 (.ireturn) 158 := im_D.of (by decide +kernel)
theorem D394_158 {g : im_g} : im_D g 394 158 (.aload_n 0) 159 := im_D.of (by decide +kernel)
theorem D394_159 {g : im_g} : im_D g 394 159 (.iload_n 2) 160 := im_D.of (by decide +kernel)
theorem D394_160 {g : im_g} : im_D g 394 160 (.iload_n 3) 161 := im_D.of (by decide +kernel)
theorem D394_161 {g : im_g} : im_D g 394 161 (.invokevirtual 674) 164 := im_D.of (by decide +kernel)
theorem D394_164 {g : im_g} : im_D g 394 164 (.ifCond .lt 7) 167 := im_D.of (by decide +kernel)
theorem D394_167 {g : im_g} : im_D g 394 167 (.iconst 1) 168 := im_D.of (by decide +kernel)
theorem D394_168 {g : im_g} : im_D g 394 168 (.goto 4) 171 := im_D.of (by decide +kernel)
theorem D394_171 {g : im_g} : im_D g 394 171 (.iconst 0) 172 := im_D.of (by decide +kernel)
theorem D394_172 {g : im_g} : im_D g 394 172 (.ireturn) 173 := im_D.of (by decide +kernel)
theorem D394_173 {g : im_g} : im_D g 394 173 (.aload_n 0) 174 := im_D.of (by decide +kernel)
theorem D394_174 {g : im_g} : im_D g 394 174 (.iload_n 2) 175 := im_D.of (by decide +kernel)
theorem D394_175 {g : im_g} : im_D g 394 175 (.iload_n 3) 176 := im_D.of (by decide +kernel)
theorem D394_176 {g : im_g} : im_D g 394 176 (.invokevirtual 674) 179 := im_D.of (by decide +kernel)
theorem D394_179 {g : im_g} : im_D g 394 179 (.ifCond .le 7) 182 := im_D.of (by decide +kernel)
theorem D394_182 {g : im_g} : im_D g 394 182 (.iconst 1) 183 := im_D.of (by decide +kernel)
theorem D394_183 {g : im_g} : im_D g 394 183 (.goto 4) 186 := im_D.of (by decide +kernel)
theorem D394_186 {g : im_g} : im_D g 394 186 (.iconst 0) 187 := im_D.of (by decide +kernel)
theorem D394_187 {g : im_g} : im_D g 394 187 (.ireturn) 188 := im_D.of (by decide +kernel)
theorem D394_188 {g : im_g} : im_D g 394 188 (.aload_n 0) 189 := im_D.of (by decide +kernel)
theorem D394_189 {g : im_g} : im_D g 394 189 (.iload_n 2) 190 := im_D.of (by decide +kernel)
theorem D394_190 {g : im_g} : im_D g 394 190 (.iload_n 3) 191 := im_D.of (by decide +kernel)
theorem D394_191 {g : im_g} : im_D g 394 191 (.invokevirtual 674) 194 := im_D.of (by decide +kernel)
theorem D394_194 {g : im_g} : im_D g 394 194 (.ifCond .gt 7) 197 := im_D.of (by decide +kernel)
theorem D394_197 {g : im_g} : im_D g 394 197 (.iconst 1) 198 := im_D.of (by decide +kernel)
theorem D394_198 {g : im_g} : im_D g 394 198 (.goto 4) 201 := im_D.of (by decide +kernel)
theorem D394_201 {g : im_g} : im_D g 394 201 (.iconst 0) 202 := im_D.of (by decide +kernel)
theorem D394_202 {g : im_g} : im_D g 394 202 (.ireturn) 203 := im_D.of (by decide +kernel)
theorem D394_203 {g : im_g} : im_D g 394 203 (.aload_n 0) 204 := im_D.of (by decide +kernel)
theorem D394_204 {g : im_g} : im_D g 394 204 (.iload_n 2) 205 := im_D.of (by decide +kernel)
theorem D394_205 {g : im_g} : im_D g 394 205 (.iload_n 3) 206 := im_D.of (by decide +kernel)
theorem D394_206 {g : im_g} : im_D g 394 206 (.invokevirtual 674) 209 := im_D.of (by decide +kernel)
theorem D394_209 {g : im_g} : im_D g 394 209 (.ifCond .ge 7) 212 := im_D.of (by decide +kernel)
theorem D394_212 {g : im_g} : im_D g 394 212 (.iconst 1) 213 := im_D.of (by decide +kernel)
theorem D394_213 {g : im_g} : im_D g 394 213 (.goto 4) 216 := im_D.of (by decide +kernel)
theorem D394_216 {g : im_g} : im_D g 394 216 (.iconst 0) 217 := im_D.of (by decide +kernel)
theorem D394_217 {g : im_g} : im_D g 394 217 (.ireturn) 218 := im_D.of (by decide +kernel)
theorem D394_218 {g : im_g} : im_D g 394 218 (.aload_n 0) 219 := im_D.of (by decide +kernel)
theorem D394_219 {g : im_g} : im_D g 394 219 (.iload_n 2) 220 := im_D.of (by decide +kernel)
theorem D394_220 {g : im_g} : im_D g 394 220 (.iload_n 3) 221 := im_D.of (by decide +kernel)
theorem D394_221 {g : im_g} : im_D g 394 221 (.invokevirtual 674) 224 := im_D.of (by decide +kernel)
theorem D394_224 {g : im_g} : im_D g 394 224 (.ifCond .ne 7) 227 := im_D.of (by decide +kernel)
theorem D394_227 {g : im_g} : im_D g 394 227 (.iconst 1) 228 := im_D.of (by decide +kernel)
theorem D394_228 {g : im_g} : im_D g 394 228 (.goto 4) 231 := im_D.of (by decide +kernel)
theorem D394_231 {g : im_g} : im_D g 394 231 (.iconst 0) 232 := im_D.of (by decide +kernel)
theorem D394_232 {g : im_g} : im_D g 394 232 (.ireturn) 233 := im_D.of (by decide +kernel)
theorem D403_0 {g : im_g} : im_D g 403 0 (.iload_n 1) 1 := im_D.of (by decide +kernel)
theorem D403_1 {g : im_g} : im_D g 403 1 (.bipush 64) 3 := im_D.of (by decide +kernel)
theorem D403_3 {g : im_g} : im_D g 403 3 (.irem) 4 := im_D.of (by decide +kernel)
theorem D403_4 {g : im_g} : im_D g 403 4 (.istore 4) 6 := im_D.of (by decide +kernel)
theorem D403_6 {g : im_g} : im_D g 403 6 (.aload_n 0) 7 := im_D.of (by decide +kernel)
theorem D403_7 {g : im_g} : im_D g 403 7 (.getfield 941) 10 := im_D.of (by decide +kernel)
theorem D403_10 {g : im_g} : im_D g 403 10 (.ifCond .eq 11) 13 := im_D.of (by decide +kernel)
theorem D403_13 {g : im_g} : im_D g 403 13 (.aload_n 0) 14 := im_D.of (by decide +kernel)
theorem D403_14 {g : im_g} : im_D g 403 14 (.iload_n 1) 15 := im_D.of (by decide +kernel)
theorem D403_15 {g : im_g} : im_D g 403 15 (.invokevirtual 944) 18 := im_D.of (by decide +kernel)
theorem D403_18 {g : im_g} : im_D g 403 18 (.ifCond .ne 4) 21 := im_D.of (by decide +kernel)
theorem D403_21 {g : im_g} : im_D g 403 21 (.return_) 22 := im_D.of (by decide +kernel)
theorem D403_22 {g : im_g} : im_D g 403 22 (.aload_n 0) 23 := im_D.of (by decide +kernel)
theorem D403_23 {g : im_g} : im_D g 403 23 (.getfield 267) 26 := im_D.of (by decide +kernel)
theorem D403_26 {g : im_g} : im_D g 403 26 (.iload 4) 28 := im_D.of (by decide +kernel)
theorem D403_28 {g : im_g} : im_D g 403 28 (.iconst 1) 29 := im_D.of (by decide +kernel)
theorem D403_29 {g : im_g} : im_D g 403 29 (.bastore) 30 := im_D.of (by decide +kernel)
theorem D403_30 {g : im_g} : im_D g 403 30 (.aload_n 0) 31 := im_D.of (by decide +kernel)
theorem D403_31 {g : im_g} : im_D g 403 31 (.getfield 270) 34 := im_D.of (by decide +kernel)
theorem D403_34 {g : im_g} : im_D g 403 34 (.iload 4) 36 := im_D.of (by decide +kernel)
theorem D403_36 {g : im_g} : im_D g 403 36 (.iload_n 1) 37 := im_D.of (by decide +kernel)
theorem D403_37 {g : im_g} : im_D g 403 37 (.iastore) 38 := im_D.of (by decide +kernel)
theorem D403_38 {g : im_g} : im_D g 403 38 (.aload_n 0) 39 := im_D.of (by decide +kernel)
theorem D403_39 {g : im_g} : im_D g 403 39 (.getfield 273) 42 := im_D.of (by decide +kernel)
theorem D403_42 {g : im_g} : im_D g 403 42 (.iload 4) 44 := im_D.of (by decide +kernel)
theorem D403_44 {g : im_g} : im_D g 403 44 (.iload_n 3) 45 := im_D.of (by decide +kernel)
theorem D403_45 {g : im_g} : im_D g 403 45 (.iastore) 46 := im_D.of (by decide +kernel)
theorem D403_46 {g : im_g} : im_D g 403 46 (.iconst 0) 47 := im_D.of (by decide +kernel)
theorem D403_47 {g : im_g} : im_D g 403 47 (.istore 5) 49 := im_D.of (by decide +kernel)
theorem D403_49 {g : im_g} : im_D g 403 49 (.iload 5) 51 := im_D.of (by decide +kernel)
theorem D403_51 {g : im_g} : im_D g 403 51 (.iload_n 3) 52 := im_D.of (by decide +kernel)
theorem D403_52 {g : im_g} : im_D g 403 52 (.if_icmp .ge 32) 55 := im_D.of (by decide +kernel)
theorem D403_55 {g : im_g} : im_D g 403 55 (.aload_n 0) 56 := im_D.of (by decide +kernel)
theorem D403_56 {g : im_g} : im_D g 403 56 (.getfield 276) 59 := im_D.of (by decide +kernel)
theorem D403_59 {g : im_g} : im_D g 403 59 (.sipush 304) 62 := im_D.of (by decide +kernel)
theorem D403_62 {g : im_g} : im_D g 403 62 (.iload 4) 64 := im_D.of (by decide +kernel)
theorem D403_64 {g : im_g} : im_D g 403 64 (.imul) 65 := im_D.of (by decide +kernel)
theorem D403_65 {g : im_g} : im_D g 403 65 (.iload 5) 67 := im_D.of (by decide +kernel)
theorem D403_67 {g : im_g} : im_D g 403 67 (.iadd) 68 := im_D.of (by decide +kernel)
theorem D403_68 {g : im_g} : im_D g 403 68 (.aload_n 0) 69 := im_D.of (by decide +kernel)
theorem D403_69 {g : im_g} : im_D g 403 69 (.getfield 17) 72 := im_D.of (by decide +kernel)
theorem D403_72 {g : im_g} : im_D g 403 72 (.iload_n 2) 73 := im_D.of (by decide +kernel)
theorem D403_73 {g : im_g} : im_D g 403 73 (.iload 5) 75 := im_D.of (by decide +kernel)
theorem D403_75 {g : im_g} : im_D g 403 75 (.iadd) 76 := im_D.of (by decide +kernel)
theorem D403_76 {g : im_g} : im_D g 403 76 (.iaload) 77 := im_D.of (by decide +kernel)
theorem D403_77 {g : im_g} : im_D g 403 77 (.iastore) 78 := im_D.of (by decide +kernel)
theorem D403_78 {g : im_g} : im_D g 403 78 (.iinc 5 1) 81 := im_D.of (by decide +kernel)
theorem D403_81 {g : im_g} : im_D g 403 81 (.goto (-32)) 84 := im_D.of (by decide +kernel)
theorem D403_84 {g : im_g} : im_D g 403 84 (.return_) 85 := im_D.of (by decide +kernel)
theorem D404_0 {g : im_g} : im_D g 404 0 (.iconst 1) 1 := im_D.of (by decide +kernel)
theorem D404_1 {g : im_g} : im_D g 404 1 (.istore_n 2) 2 := im_D.of (by decide +kernel)
theorem D404_2 {g : im_g} : im_D g 404 2 (.aload_n 0) 3 := im_D.of (by decide +kernel)
theorem D404_3 {g : im_g} : im_D g 404 3 (.getfield 279) 6 := im_D.of (by decide +kernel)
theorem D404_6 {g : im_g} : im_D g 404 6 (.iconst 0) 7 := im_D.of (by decide +kernel)
theorem D404_7 {g : im_g} : im_D g 404 7 (.iload_n 1) 8 := im_D.of (by decide +kernel)
theorem D404_8 {g : im_g} : im_D g 404 8 (.iastore) 9 := im_D.of (by decide +kernel)
theorem D404_9 {g : im_g} : im_D g 404 9 (.iconst 1) 10 := im_D.of (by decide +kernel)
theorem D404_10 {g : im_g} : im_D g 404 10 (.istore_n 3) 11 := im_D.of (by decide +kernel)
theorem D404_11 {g : im_g} : im_D g 404 11 (.iload_n 2) 12 := im_D.of (by decide +kernel)
theorem D404_12 {g : im_g} : im_D g 404 12 (.ifCond .le 144) 15 := im_D.of (by decide +kernel)
theorem D404_15 {g : im_g} : im_D g 404 15 (.iload_n 3) 16 := im_D.of (by decide +kernel)
theorem D404_16 {g : im_g} : im_D g 404 16 (.ifCond .eq 140) 19 := im_D.of (by decide +kernel)
theorem D404_19 {g : im_g} : im_D g 404 19 (.iinc 2 (-1)) 22 := im_D.of (by decide +kernel)
theorem D404_22 {g : im_g} : im_D g 404 22 (.aload_n 0) 23 := im_D.of (by decide +kernel)
theorem D404_23 {g : im_g} : im_D g 404 23 (.getfield 279) 26 := im_D.of (by decide +kernel)
theorem D404_26 {g : im_g} : im_D g 404 26 (.iload_n 2) 27 := im_D.of (by decide +kernel)
theorem D404_27 {g : im_g} : im_D g 404 27 (.iaload) 28 := im_D.of (by decide +kernel)
theorem D404_28 {g : im_g} : im_D g 404 28 (.istore 4) 30 := im_D.of (by decide +kernel)
theorem D404_30 {g : im_g} : im_D g 404 30 (.aload_n 0) 31 := im_D.of (by decide +kernel)
theorem D404_31 {g : im_g} : im_D g 404 31 (.getfield 33) 34 := im_D.of (by decide +kernel)
theorem D404_34 {g : im_g} : im_D g 404 34 (.iload 4) 36 := im_D.of (by decide +kernel)
theorem D404_36 {g : im_g} : im_D g 404 36 (.iaload) 37 := im_D.of (by decide +kernel)
theorem D404_37 {g : im_g} : im_D g 404 37 (.istore 5) 39 := im_D.of (by decide +kernel)
theorem D404_39 {g : im_g} : im_D g 404 39 (.iload 5) 41 := im_D.of (by decide +kernel)
theorem D404_41 {g : im_g} : im_D g 404 41 (.invokestatic 923) 44 := im_D.of (by decide +kernel)
theorem D404_44 {g : im_g} : im_D g 404 44 (.ifCond .eq 40) 47 := im_D.of (by decide +kernel)
theorem D404_47 {g : im_g} : im_D g 404 47 (.iload 5) 49 := im_D.of (by decide +kernel)
theorem D404_49 {g : im_g} : im_D g 404 49 (.bipush 20) 51 := im_D.of (by decide +kernel)
theorem D404_51 {g : im_g} : im_D g 404 51 (.if_icmp .eq 24) 54 := im_D.of (by decide +kernel)
theorem D404_54 {g : im_g} : im_D g 404 54 (.iload 5) 56 := im_D.of (by decide +kernel)
theorem D404_56 {g : im_g} : im_D g 404 56 (.bipush 21) 58 := im_D.of (by decide +kernel)
theorem D404_58 {g : im_g} : im_D g 404 58 (.if_icmp .eq 17) 61 := im_D.of (by decide +kernel)
theorem D404_61 {g : im_g} : im_D g 404 61 (.iload 5) 63 := im_D.of (by decide +kernel)
theorem D404_63 {g : im_g} : im_D g 404 63 (.bipush 49) 65 := im_D.of (by decide +kernel)
theorem D404_65 {g : im_g} : im_D g 404 65 (.if_icmp .eq 10) 68 := im_D.of (by decide +kernel)
theorem D404_68 {g : im_g} : im_D g 404 68 (.iload 5) 70 := im_D.of (by decide +kernel)
theorem D404_70 {g : im_g} : im_D g 404 70 (.bipush 50) 72 := im_D.of (by decide +kernel)
theorem D404_72 {g : im_g} : im_D g 404 72 (.if_icmp .ne 7) 75 := im_D.of (by decide +kernel)
theorem D404_75 {g : im_g} : im_D g 404 75 (.iconst 1) 76 := im_D.of (by decide +kernel)
theorem D404_76 {g : im_g} : im_D g 404 76 (.goto 4) 79 := im_D.of (by decide +kernel)
theorem D404_79 {g : im_g} : im_D g 404 79 (.iconst 0) 80 := im_D.of (by decide +kernel)
theorem D404_80 {g : im_g} : im_D g 404 80 (.istore_n 3) 81 := im_D.of (by decide +kernel)
theorem D404_81 {g : im_g} : im_D g 404 81 (.goto 72) 84 := im_D.of (by decide +kernel)
theorem D404_84 {g : im_g} : im_D g 404 84 (.aload_n 0) 85 := im_D.of (by decide +kernel)
theorem D404_85 {g : im_g} : im_D g 404 85 (.getfield 279) 88 := im_D.of (by decide +kernel)
theorem D404_88 {g : im_g} : im_D g 404 88 (.iload_n 2) 89 := im_D.of (by decide +kernel)
theorem D404_89 {g : im_g} : im_D g 404 89 (.aload_n 0) 90 := im_D.of (by decide +kernel)
theorem D404_90 {g : im_g} : im_D g 404 90 (.getfield 45) 93 := im_D.of (by decide +kernel)
theorem D404_93 {g : im_g} : im_D g 404 93 (.iload 4) 95 := im_D.of (by decide +kernel)
theorem D404_95 {g : im_g} : im_D g 404 95 (.iaload) 96 := im_D.of (by decide +kernel)
theorem D404_96 {g : im_g} : im_D g 404 96 (.iastore) 97 := im_D.of (by decide +kernel)
theorem D404_97 {g : im_g} : im_D g 404 97 (.iinc 2 1) 100 := im_D.of (by decide +kernel)
theorem D404_100 {g : im_g} : im_D g 404 100 (.iload 5) 102 := im_D.of (by decide +kernel)
theorem D404_102 {g : im_g} : im_D g 404 102 (.bipush 23) 104 := im_D.of (by decide +kernel)
theorem D404_104 {g : im_g} : im_D g 404 104 (.if_icmp .eq 26) 107 := im_D.of (by decide +kernel)
theorem D404_107 {g : im_g} : im_D g 404 107 (.iload 5) 109 := im_D.of (by decide +kernel)
theorem D404_109 {g : im_g} : im_D g 404 109 (.bipush 42) 111 := im_D.of (by decide +kernel)
theorem D404_111 {g : im_g} : im_D g 404 111 (.if_icmp .eq 19) 114 := im_D.of (by decide +kernel)
theorem D404_114 {g : im_g} : im_D g 404 114 (.aload_n 0) 115 := im_D.of (by decide +kernel)
theorem D404_115 {g : im_g} : im_D g 404 115 (.getfield 279) 118 := im_D.of (by decide +kernel)
theorem D404_118 {g : im_g} : im_D g 404 118 (.iload_n 2) 119 := im_D.of (by decide +kernel)
theorem D404_119 {g : im_g} : im_D g 404 119 (.aload_n 0) 120 := im_D.of (by decide +kernel)
theorem D404_120 {g : im_g} : im_D g 404 120 (.getfield 48) 123 := im_D.of (by decide +kernel)
theorem D404_123 {g : im_g} : im_D g 404 123 (.iload 4) 125 := im_D.of (by decide +kernel)
theorem D404_125 {g : im_g} : im_D g 404 125 (.iaload) 126 := im_D.of (by decide +kernel)
theorem D404_126 {g : im_g} : im_D g 404 126 (.iastore) 127 := im_D.of (by decide +kernel)
theorem D404_127 {g : im_g} : im_D g 404 127 (.iinc 2 1) 130 := im_D.of (by decide +kernel)
theorem D404_130 {g : im_g} : im_D g 404 130 (.iload 5) 132 := im_D.of (by decide +kernel)
theorem D404_132 {g : im_g} : im_D g 404 132 (.bipush 32) 134 := im_D.of (by decide +kernel)
theorem D404_134 {g : im_g} : im_D g 404 134 (.if_icmp .ne 19) 137 := im_D.of (by decide +kernel)
theorem D404_137 {g : im_g} : im_D g 404 137 (.aload_n 0) 138 := im_D.of (by decide +kernel)
theorem D404_138 {g : im_g} : im_D g 404 138 (.getfield 279) 141 := im_D.of (by decide +kernel)
theorem D404_141 {g : im_g} : im_D g 404 141 (.iload_n 2) 142 := im_D.of (by decide +kernel)
theorem D404_142 {g : im_g} : im_D g 404 142 (.aload_n 0) 143 := im_D.of (by decide +kernel)
theorem D404_143 {g : im_g} : im_D g 404 143 (.getfield 51) 146 := im_D.of (by decide +kernel)
theorem D404_146 {g : im_g} : im_D g 404 146 (.iload 4) 148 := im_D.of (by decide +kernel)
theorem D404_148 {g : im_g} : im_D g 404 148 (.iaload) 149 := im_D.of (by decide +kernel)
theorem D404_149 {g : im_g} : im_D g 404 149 (.iastore) 150 := im_D.of (by decide +kernel)
theorem D404_150 {g : im_g} : im_D g 404 150 (.iinc 2 1) 153 := im_D.of (by decide +kernel)
theorem D404_153 {g : im_g} : im_D g 404 153 (.goto (-142)) 156 := im_D.of (by decide +kernel)
theorem D404_156 {g : im_g} : im_D g 404 156 (.iload_n 3) 157 := im_D.of (by decide +kernel)
theorem D404_157 {g : im_g} : im_D g 404 157 (.ireturn) 158 := im_D.of (by decide +kernel)
theorem D405_0 {g : im_g} : im_D g 405 0 (.aload_n 0) 1 := im_D.of (by decide +kernel)
theorem D405_1 {g : im_g} : im_D g 405 1 (.getfield 981) 4 := im_D.of (by decide +kernel)
theorem D405_4 {g : im_g} : im_D g 405 4 (.bipush 60) 6 := im_D.of (by decide +kernel)
theorem D405_6 {g : im_g} : im_D g 405 6 (.if_icmp .ne 10) 9 := im_D.of (by decide +kernel)
theorem D405_9 {g : im_g} : im_D g 405 9 (.aload_n 0) 10 := im_D.of (by decide +kernel)
theorem D405_10 {g : im_g} : im_D g 405 10 (.bipush (-9)) 12 := im_D.of (by decide +kernel)
theorem D405_12 {g : im_g} : im_D g 405 12 (.invokevirtual 959) 15 := im_D.of (by decide +kernel)
theorem D405_15 {g : im_g} : im_D g 405 15 (.return_) 16 := im_D.of (by decide +kernel)
theorem D405_16 {g : im_g} : im_D g 405 16 (.aload_n 0) 17 := im_D.of (by decide +kernel)
theorem D405_17 {g : im_g} : im_D g 405 17 (.getfield 234) 20 := im_D.of (by decide +kernel)
theorem D405_20 {g : im_g} : im_D g 405 20 (.aload_n 0) 21 := im_D.of (by decide +kernel)
theorem D405_21 {g : im_g} : im_D g 405 21 (.getfield 981) 24 := im_D.of (by decide +kernel)
theorem D405_24 {g : im_g} : im_D g 405 24 (.iload_n 1) 25 := im_D.of (by decide +kernel)
theorem D405_25 {g : im_g} : im_D g 405 25 (.iastore) 26 := im_D.of (by decide +kernel)
theorem D405_26 {g : im_g} : im_D g 405 26 (.aload_n 0) 27 := im_D.of (by decide +kernel)
theorem D405_27 {g : im_g} : im_D g 405 27 (.getfield 237) 30 := im_D.of (by decide +kernel)
theorem D405_30 {g : im_g} : im_D g 405 30 (.aload_n 0) 31 := im_D.of (by decide +kernel)
theorem D405_31 {g : im_g} : im_D g 405 31 (.getfield 981) 34 := im_D.of (by decide +kernel)
theorem D405_34 {g : im_g} : im_D g 405 34 (.lload_n 2) 35 := im_D.of (by decide +kernel)
theorem D405_35 {g : im_g} : im_D g 405 35 (.lastore) 36 := im_D.of (by decide +kernel)
theorem D405_36 {g : im_g} : im_D g 405 36 (.aload_n 0) 37 := im_D.of (by decide +kernel)
theorem D405_37 {g : im_g} : im_D g 405 37 (.getfield 240) 40 := im_D.of (by decide +kernel)
theorem D405_40 {g : im_g} : im_D g 405 40 (.aload_n 0) 41 := im_D.of (by decide +kernel)
theorem D405_41 {g : im_g} : im_D g 405 41 (.getfield 981) 44 := im_D.of (by decide +kernel)
theorem D405_44 {g : im_g} : im_D g 405 44 (.lload 4) 46 := im_D.of (by decide +kernel)
theorem D405_46 {g : im_g} : im_D g 405 46 (.lastore) 47 := im_D.of (by decide +kernel)
theorem D405_47 {g : im_g} : im_D g 405 47 (.aload_n 0) 48 := im_D.of (by decide +kernel)
theorem D405_48 {g : im_g} : im_D g 405 48 (.getfield 243) 51 := im_D.of (by decide +kernel)
theorem D405_51 {g : im_g} : im_D g 405 51 (.aload_n 0) 52 := im_D.of (by decide +kernel)
theorem D405_52 {g : im_g} : im_D g 405 52 (.getfield 981) 55 := im_D.of (by decide +kernel)
theorem D405_55 {g : im_g} : im_D g 405 55 (.lload 6) 57 := im_D.of (by decide +kernel)
theorem D405_57 {g : im_g} : im_D g 405 57 (.lastore) 58 := im_D.of (by decide +kernel)
theorem D405_58 {g : im_g} : im_D g 405 58 (.aload_n 0) 59 := im_D.of (by decide +kernel)
theorem D405_59 {g : im_g} : im_D g 405 59 (.getfield 246) 62 := im_D.of (by decide +kernel)
theorem D405_62 {g : im_g} : im_D g 405 62 (.aload_n 0) 63 := im_D.of (by decide +kernel)
theorem D405_63 {g : im_g} : im_D g 405 63 (.getfield 981) 66 := im_D.of (by decide +kernel)
theorem D405_66 {g : im_g} : im_D g 405 66 (.iload 8) 68 := im_D.of (by decide +kernel)
theorem D405_68 {g : im_g} : im_D g 405 68 (.iastore) 69 := im_D.of (by decide +kernel)
theorem D405_69 {g : im_g} : im_D g 405 69 (.aload_n 0) 70 := im_D.of (by decide +kernel)
theorem D405_70 {g : im_g} : im_D g 405 70 (.dup) 71 := im_D.of (by decide +kernel)
theorem D405_71 {g : im_g} : im_D g 405 71 (.getfield 981) 74 := im_D.of (by decide +kernel)
theorem D405_74 {g : im_g} : im_D g 405 74 (.iconst 1) 75 := im_D.of (by decide +kernel)
theorem D405_75 {g : im_g} : im_D g 405 75 (.iadd) 76 := im_D.of (by decide +kernel)
theorem D405_76 {g : im_g} : im_D g 405 76 (.putfield 981) 79 := im_D.of (by decide +kernel)
theorem D405_79 {g : im_g} : im_D g 405 79 (.return_) 80 := im_D.of (by decide +kernel)
theorem D406_0 {g : im_g} : im_D g 406 0 (.aload_n 0) 1 := im_D.of (by decide +kernel)
theorem D406_1 {g : im_g} : im_D g 406 1 (.getfield 63) 4 := im_D.of (by decide +kernel)
theorem D406_4 {g : im_g} : im_D g 406 4 (.iload_n 1) 5 := im_D.of (by decide +kernel)
theorem D406_5 {g : im_g} : im_D g 406 5 (.baload) 6 := im_D.of (by decide +kernel)
theorem D406_6 {g : im_g} : im_D g 406 6 (.ifCond .ne 10) 9 := im_D.of (by decide +kernel)
theorem D406_9 {g : im_g} : im_D g 406 9 (.aload_n 0) 10 := im_D.of (by decide +kernel)
theorem D406_10 {g : im_g} : im_D g 406 10 (.getfield 60) 13 := im_D.of (by decide +kernel)
theorem D406_13 {g : im_g} : im_D g 406 13 (.iload_n 1) 14 := im_D.of (by decide +kernel)
theorem D406_14 {g : im_g} : im_D g 406 14 (.laload) 15 := im_D.of (by decide +kernel)
theorem D406_15 {g : im_g} : im_D g 406 15 (.lreturn) 16 := im_D.of (by decide +kernel)
theorem D406_16 {g : im_g} : im_D g 406 16 (.aload_n 0) 17 := im_D.of (by decide +kernel)
theorem D406_17 {g : im_g} : im_D g 406 17 (.getfield 449) 20 := im_D.of (by decide +kernel)
theorem D406_20 {g : im_g} : im_D g 406 20 (.istore_n 2) 21 := im_D.of (by decide +kernel)
theorem D406_21 {g : im_g} : im_D g 406 21 (.aload_n 0) 22 := im_D.of (by decide +kernel)
theorem D406_22 {g : im_g} : im_D g 406 22 (.aload_n 0) 23 := im_D.of (by decide +kernel)
theorem D406_23 {g : im_g} : im_D g 406 23 (.aload_n 0) 24 := im_D.of (by decide +kernel)
theorem D406_24 {g : im_g} : im_D g 406 24 (.getfield 36) 27 := im_D.of (by decide +kernel)
theorem D406_27 {g : im_g} : im_D g 406 27 (.iload_n 1) 28 := im_D.of (by decide +kernel)
theorem D406_28 {g : im_g} : im_D g 406 28 (.laload) 29 := im_D.of (by decide +kernel)
theorem D406_29 {g : im_g} : im_D g 406 29 (.invokevirtual 892) 32 := im_D.of (by decide +kernel)
theorem D406_32 {g : im_g} : im_D g 406 32 (.invokevirtual 668) 35 := im_D.of (by decide +kernel)
theorem D406_35 {g : im_g} : im_D g 406 35 (.lstore_n 3) 36 := im_D.of (by decide +kernel)
theorem D406_36 {g : im_g} : im_D g 406 36 (.aload_n 0) 37 := im_D.of (by decide +kernel)
theorem D406_37 {g : im_g} : im_D g 406 37 (.iload_n 2) 38 := im_D.of (by decide +kernel)
theorem D406_38 {g : im_g} : im_D g 406 38 (.putfield 449) 41 := im_D.of (by decide +kernel)
theorem D406_41 {g : im_g} : im_D g 406 41 (.lload_n 3) 42 := im_D.of (by decide +kernel)
theorem D406_42 {g : im_g} : im_D g 406 42 (.lreturn) 43 := im_D.of (by decide +kernel)
theorem D407_0 {g : im_g} : im_D g 407 0 (.aload_n 0) 1 := im_D.of (by decide +kernel)
theorem D407_1 {g : im_g} : im_D g 407 1 (.getfield 858) 4 := im_D.of (by decide +kernel)
theorem D407_4 {g : im_g} : im_D g 407 4 (.istore_n 1) 5 := im_D.of (by decide +kernel)
theorem D407_5 {g : im_g} : im_D g 407 5 (.aload_n 0) 6 := im_D.of (by decide +kernel)
theorem D407_6 {g : im_g} : im_D g 407 6 (.aload_n 0) 7 := im_D.of (by decide +kernel)
theorem D407_7 {g : im_g} : im_D g 407 7 (.getfield 45) 10 := im_D.of (by decide +kernel)
theorem D407_10 {g : im_g} : im_D g 407 10 (.iload_n 1) 11 := im_D.of (by decide +kernel)
theorem D407_11 {g : im_g} : im_D g 407 11 (.iaload) 12 := im_D.of (by decide +kernel)
theorem D407_12 {g : im_g} : im_D g 407 12 (.invokevirtual 984) 15 := im_D.of (by decide +kernel)
theorem D407_15 {g : im_g} : im_D g 407 15 (.istore_n 2) 16 := im_D.of (by decide +kernel)
theorem D407_16 {g : im_g} : im_D g 407 16 (.aload_n 0) 17 := im_D.of (by decide +kernel)
theorem D407_17 {g : im_g} : im_D g 407 17 (.getfield 855) 20 := im_D.of (by decide +kernel)
theorem D407_20 {g : im_g} : im_D g 407 20 (.ifCond .ge 4) 23 := im_D.of (by decide +kernel)
theorem D407_23 {g : im_g} : im_D g 407 23 (.return_) 24 := im_D.of (by decide +kernel)
theorem D407_24 {g : im_g} : im_D g 407 24 (.aload_n 0) 25 := im_D.of (by decide +kernel)
theorem D407_25 {g : im_g} : im_D g 407 25 (.aload_n 0) 26 := im_D.of (by decide +kernel)
theorem D407_26 {g : im_g} : im_D g 407 26 (.getfield 48) 29 := im_D.of (by decide +kernel)
theorem D407_29 {g : im_g} : im_D g 407 29 (.iload_n 1) 30 := im_D.of (by decide +kernel)
theorem D407_30 {g : im_g} : im_D g 407 30 (.iaload) 31 := im_D.of (by decide +kernel)
theorem D407_31 {g : im_g} : im_D g 407 31 (.putfield 858) 34 := im_D.of (by decide +kernel)
theorem D407_34 {g : im_g} : im_D g 407 34 (.aload_n 0) 35 := im_D.of (by decide +kernel)
theorem D407_35 {g : im_g} : im_D g 407 35 (.aload_n 0) 36 := im_D.of (by decide +kernel)
theorem D407_36 {g : im_g} : im_D g 407 36 (.getfield 36) 39 := im_D.of (by decide +kernel)
theorem D407_39 {g : im_g} : im_D g 407 39 (.iload_n 1) 40 := im_D.of (by decide +kernel)
theorem D407_40 {g : im_g} : im_D g 407 40 (.laload) 41 := im_D.of (by decide +kernel)
theorem D407_41 {g : im_g} : im_D g 407 41 (.invokevirtual 883) 44 := im_D.of (by decide +kernel)
theorem D407_44 {g : im_g} : im_D g 407 44 (.istore_n 3) 45 := im_D.of (by decide +kernel)
theorem D407_45 {g : im_g} : im_D g 407 45 (.aload_n 0) 46 := im_D.of (by decide +kernel)
theorem D407_46 {g : im_g} : im_D g 407 46 (.aload_n 0) 47 := im_D.of (by decide +kernel)
theorem D407_47 {g : im_g} : im_D g 407 47 (.getfield 36) 50 := im_D.of (by decide +kernel)
theorem D407_50 {g : im_g} : im_D g 407 50 (.iload_n 1) 51 := im_D.of (by decide +kernel)
theorem D407_51 {g : im_g} : im_D g 407 51 (.laload) 52 := im_D.of (by decide +kernel)
theorem D407_52 {g : im_g} : im_D g 407 52 (.invokevirtual 902) 55 := im_D.of (by decide +kernel)
theorem D407_55 {g : im_g} : im_D g 407 55 (.ifCond .eq 30) 58 := im_D.of (by decide +kernel)
theorem D407_58 {g : im_g} : im_D g 407 58 (.aload_n 0) 59 := im_D.of (by decide +kernel)
theorem D407_59 {g : im_g} : im_D g 407 59 (.iconst 4) 60 := im_D.of (by decide +kernel)
theorem D407_60 {g : im_g} : im_D g 407 60 (.aload_n 0) 61 := im_D.of (by decide +kernel)
theorem D407_61 {g : im_g} : im_D g 407 61 (.getfield 36) 64 := im_D.of (by decide +kernel)
theorem D407_64 {g : im_g} : im_D g 407 64 (.iload_n 1) 65 := im_D.of (by decide +kernel)
theorem D407_65 {g : im_g} : im_D g 407 65 (.laload) 66 := im_D.of (by decide +kernel)
theorem D407_66 {g : im_g} : im_D g 407 66 (.lconst 0) 67 := im_D.of (by decide +kernel)
theorem D407_67 {g : im_g} : im_D g 407 67 (.lconst 0) 68 := im_D.of (by decide +kernel)
theorem D407_68 {g : im_g} : im_D g 407 68 (.aload_n 0) 69 := im_D.of (by decide +kernel)
theorem D407_69 {g : im_g} : im_D g 407 69 (.getfield 210) 72 := im_D.of (by decide +kernel)
theorem D407_72 {g : im_g} : im_D g 407 72 (.iload_n 3) 73 := im_D.of (by decide +kernel)
theorem D407_73 {g : im_g} : im_D g 407 73 (.iaload) 74 := im_D.of (by decide +kernel)
theorem D407_74 {g : im_g} : im_D g 407 74 (.invokevirtual 987) 77 := im_D.of (by decide +kernel)
theorem D407_77 {g : im_g} : im_D g 407 77 (.aload_n 0) 78 := im_D.of (by decide +kernel)
theorem D407_78 {g : im_g} : im_D g 407 78 (.getfield 210) 81 := im_D.of (by decide +kernel)
theorem D407_81 {g : im_g} : im_D g 407 81 (.iload_n 3) 82 := im_D.of (by decide +kernel)
theorem D407_82 {g : im_g} : im_D g 407 82 (.iload_n 2) 83 := im_D.of (by decide +kernel)
theorem D407_83 {g : im_g} : im_D g 407 83 (.iastore) 84 := im_D.of (by decide +kernel)
theorem D407_84 {g : im_g} : im_D g 407 84 (.return_) 85 := im_D.of (by decide +kernel)
theorem D407_85 {g : im_g} : im_D g 407 85 (.aload_n 0) 86 := im_D.of (by decide +kernel)
theorem D407_86 {g : im_g} : im_D g 407 86 (.getfield 870) 89 := im_D.of (by decide +kernel)
theorem D407_89 {g : im_g} : im_D g 407 89 (.bipush 40) 91 := im_D.of (by decide +kernel)
theorem D407_91 {g : im_g} : im_D g 407 91 (.if_icmp .ne 10) 94 := im_D.of (by decide +kernel)
theorem D407_94 {g : im_g} : im_D g 407 94 (.aload_n 0) 95 := im_D.of (by decide +kernel)
theorem D407_95 {g : im_g} : im_D g 407 95 (.bipush (-9)) 97 := im_D.of (by decide +kernel)
theorem D407_97 {g : im_g} : im_D g 407 97 (.invokevirtual 959) 100 := im_D.of (by decide +kernel)
theorem D407_100 {g : im_g} : im_D g 407 100 (.return_) 101 := im_D.of (by decide +kernel)
theorem D407_101 {g : im_g} : im_D g 407 101 (.aload_n 0) 102 := im_D.of (by decide +kernel)
theorem D407_102 {g : im_g} : im_D g 407 102 (.getfield 870) 105 := im_D.of (by decide +kernel)
theorem D407_105 {g : im_g} : im_D g 407 105 (.istore 4) 107 := im_D.of (by decide +kernel)
theorem D407_107 {g : im_g} : im_D g 407 107 (.iload 4) 109 := im_D.of (by decide +kernel)
theorem D407_109 {g : im_g} : im_D g 407 109 (.iload_n 3) 110 := im_D.of (by decide +kernel)
theorem D407_110 {g : im_g} : im_D g 407 110 (.if_icmp .le 41) 113 := im_D.of (by decide +kernel)
theorem D407_113 {g : im_g} : im_D g 407 113 (.aload_n 0) 114 := im_D.of (by decide +kernel)
theorem D407_114 {g : im_g} : im_D g 407 114 (.getfield 207) 117 := im_D.of (by decide +kernel)
theorem D407_117 {g : im_g} : im_D g 407 117 (.iload 4) 119 := im_D.of (by decide +kernel)
theorem D407_119 {g : im_g} : im_D g 407 119 (.aload_n 0) 120 := im_D.of (by decide +kernel)
theorem D407_120 {g : im_g} : im_D g 407 120 (.getfield 207) 123 := im_D.of (by decide +kernel)
theorem D407_123 {g : im_g} : im_D g 407 123 (.iload 4) 125 := im_D.of (by decide +kernel)
theorem D407_125 {g : im_g} : im_D g 407 125 (.iconst 1) 126 := im_D.of (by decide +kernel)
theorem D407_126 {g : im_g} : im_D g 407 126 (.isub) 127 := im_D.of (by decide +kernel)
theorem D407_127 {g : im_g} : im_D g 407 127 (.laload) 128 := im_D.of (by decide +kernel)
theorem D407_128 {g : im_g} : im_D g 407 128 (.lastore) 129 := im_D.of (by decide +kernel)
theorem D407_129 {g : im_g} : im_D g 407 129 (.aload_n 0) 130 := im_D.of (by decide +kernel)
theorem D407_130 {g : im_g} : im_D g 407 130 (.getfield 210) 133 := im_D.of (by decide +kernel)
theorem D407_133 {g : im_g} : im_D g 407 133 (.iload 4) 135 := im_D.of (by decide +kernel)
theorem D407_135 {g : im_g} : im_D g 407 135 (.aload_n 0) 136 := im_D.of (by decide +kernel)
theorem D407_136 {g : im_g} : im_D g 407 136 (.getfield 210) 139 := im_D.of (by decide +kernel)
theorem D407_139 {g : im_g} : im_D g 407 139 (.iload 4) 141 := im_D.of (by decide +kernel)
theorem D407_141 {g : im_g} : im_D g 407 141 (.iconst 1) 142 := im_D.of (by decide +kernel)
theorem D407_142 {g : im_g} : im_D g 407 142 (.isub) 143 := im_D.of (by decide +kernel)
theorem D407_143 {g : im_g} : im_D g 407 143 (.iaload) 144 := im_D.of (by decide +kernel)
theorem D407_144 {g : im_g} : im_D g 407 144 (.iastore) 145 := im_D.of (by decide +kernel)
theorem D407_145 {g : im_g} : im_D g 407 145 (.iinc 4 (-1)) 148 := im_D.of (by decide +kernel)
theorem D407_148 {g : im_g} : im_D g 407 148 (.goto (-41)) 151 := im_D.of (by decide +kernel)
theorem D407_151 {g : im_g} : im_D g 407 151 (.aload_n 0) 152 := im_D.of (by decide +kernel)
theorem D407_152 {g : im_g} : im_D g 407 152 (.dup) 153 := im_D.of (by decide +kernel)
theorem D407_153 {g : im_g} : im_D g 407 153 (.getfield 870) 156 := im_D.of (by decide +kernel)
theorem D407_156 {g : im_g} : im_D g 407 156 (.iconst 1) 157 := im_D.of (by decide +kernel)
theorem D407_157 {g : im_g} : im_D g 407 157 (.iadd) 158 := im_D.of (by decide +kernel)
theorem D407_158 {g : im_g} : im_D g 407 158 (.putfield 870) 161 := im_D.of (by decide +kernel)
theorem D407_161 {g : im_g} : im_D g 407 161 (.aload_n 0) 162 := im_D.of (by decide +kernel)
theorem D407_162 {g : im_g} : im_D g 407 162 (.getfield 207) 165 := im_D.of (by decide +kernel)
theorem D407_165 {g : im_g} : im_D g 407 165 (.iload_n 3) 166 := im_D.of (by decide +kernel)
theorem D407_166 {g : im_g} : im_D g 407 166 (.aload_n 0) 167 := im_D.of (by decide +kernel)
theorem D407_167 {g : im_g} : im_D g 407 167 (.getfield 36) 170 := im_D.of (by decide +kernel)
theorem D407_170 {g : im_g} : im_D g 407 170 (.iload_n 1) 171 := im_D.of (by decide +kernel)
theorem D407_171 {g : im_g} : im_D g 407 171 (.laload) 172 := im_D.of (by decide +kernel)
theorem D407_172 {g : im_g} : im_D g 407 172 (.lastore) 173 := im_D.of (by decide +kernel)
theorem D407_173 {g : im_g} : im_D g 407 173 (.aload_n 0) 174 := im_D.of (by decide +kernel)
theorem D407_174 {g : im_g} : im_D g 407 174 (.getfield 210) 177 := im_D.of (by decide +kernel)
theorem D407_177 {g : im_g} : im_D g 407 177 (.iload_n 3) 178 := im_D.of (by decide +kernel)
theorem D407_178 {g : im_g} : im_D g 407 178 (.iload_n 2) 179 := im_D.of (by decide +kernel)
theorem D407_179 {g : im_g} : im_D g 407 179 (.iastore) 180 := im_D.of (by decide +kernel)
theorem D407_180 {g : im_g} : im_D g 407 180 (.return_) 181 := im_D.of (by decide +kernel)
set_option maxRecDepth 20000 in
set_option maxHeartbeats 4000000 in
theorem b_leaf_0 {g : im_g} {d : Nat} {e : im_E} {M : im_M} {K : im_K} {p1 : Int} (hd : 1 ≤ d) (hP : (0 ≤ p1 ∧ p1 < 5100) ∧ (((M 6960 p1) = 20 → K (.inl (some (vI (M 6968 p1)))) e M) ∧ ((M 6960 p1) = 21 → im_T g (d - 1) 385 0 [some (.ref 6952), some (vL (M 6961 p1)), none, none] [] e M (im_ri (fun x7 e_ M6 => e = e_ ∧ K (.inl (some (vI x7))) e M6))) ∧ ((M 6960 p1) = 22 → im_T g (d - 1) 376 0 [some (.ref 6952), some (vL (M 6961 p1)), none, some (vL (M 6962 p1)), none, none] [] e M (im_ri (fun x13 e_ M12 => e = e_ ∧ (im_i32 x13) ∧ ((x13 = 0 → im_T g (d - 1) 386 0 [some (.ref 6952), none] [] e M12 (im_ri (fun x19 e_ M18 => e = e_ ∧ K (.inl (some (vI x19))) e M18))) ∧ (¬ x13 = 0 → im_T g (d - 1) 375 0 [some (.ref 6952), some (vL (M12 6961 p1)), none, some (vL (M12 6962 p1)), none, none] [] e M12 (im_ri (fun x22 e_ M21 => e = e_ ∧ (0 ≤ x22 ∧ x22 < 41) ∧ K (.inl (some (vI (M21 7013 x22)))) e M21))))))) ∧ ((M 6960 p1) = 28 → im_T g (d - 1) 387 0 [some (.ref 6952), some (vL (M 6961 p1)), none, some (vL (M 6962 p1)), none, none] [] e M (im_ri (fun x31 e_ M30 => e = e_ ∧ (im_i32 x31) ∧ ((x31 = 0 → im_T g (d - 1) 386 0 [some (.ref 6952), none] [] e M30 (im_ri (fun x37 e_ M36 => e = e_ ∧ K (.inl (some (vI x37))) e M36))) ∧ (¬ x31 = 0 → im_T g (d - 1) 388 0 [some (.ref 6952), some (vL (M30 6961 p1)), none, some (vL (M30 6962 p1)), none, none] [] e M30 (im_ri (fun x40 e_ M39 => e = e_ ∧ (0 ≤ x40 ∧ x40 < 41) ∧ K (.inl (some (vI (M39 7016 x40)))) e M39))))))) ∧ ((M 6960 p1) = 31 → im_T g (d - 1) 389 0 [some (.ref 6952), some (vL (M 6961 p1)), none, none] [] e M (im_ri (fun x48 e_ M47 => e = e_ ∧ (im_i32 x48) ∧ ((x48 = 0 → im_T g (d - 1) 386 0 [some (.ref 6952), none] [] e M47 (im_ri (fun x53 e_ M52 => e = e_ ∧ K (.inl (some (vI x53))) e M52))) ∧ (¬ x48 = 0 → im_T g (d - 1) 390 0 [some (.ref 6952), some (vL (M47 6961 p1)), none, none] [] e M47 (im_ri (fun x56 e_ M55 => e = e_ ∧ (0 ≤ x56 ∧ x56 < 41) ∧ K (.inl (some (vI (M55 7018 x56)))) e M55))))))) ∧ ((M 6960 p1) = 29 → im_T g (d - 1) 391 0 [some (.ref 6952), some (vL (M 6952 99)), none, none, none, none, none] [] e M (im_ri (fun x64 e_ M63 => e = e_ ∧ K (.inl (some (vI x64))) e M63))) ∧ ((M 6960 p1) = 30 → im_T g (d - 1) 391 0 [some (.ref 6952), some (vL (M 6952 100)), none, none, none, none, none] [] e M (im_ri (fun x69 e_ M68 => e = e_ ∧ K (.inl (some (vI x69))) e M68))) ∧ ((M 6960 p1) = 43 → im_T g (d - 1) 387 0 [some (.ref 6952), some (vL (M 6961 p1)), none, some (vL (M 6962 p1)), none, none] [] e M (im_ri (fun x75 e_ M74 => e = e_ ∧ (im_i32 x75) ∧ ((∀ x78 : Int, (((x75 = 0) ∧ x78 = 0) ∨ ((¬ x75 = 0) ∧ x78 = 1)) → K (.inl (some (vI x78))) e M74))))) ∧ ((M 6960 p1) < 20 ∨ 43 < (M 6960 p1) ∨ (M 6960 p1) = 23 ∨ (M 6960 p1) = 24 ∨ (M 6960 p1) = 25 ∨ (M 6960 p1) = 26 ∨ (M 6960 p1) = 27 ∨ (M 6960 p1) = 32 ∨ (M 6960 p1) = 33 ∨ (M 6960 p1) = 34 ∨ (M 6960 p1) = 35 ∨ (M 6960 p1) = 36 ∨ (M 6960 p1) = 37 ∨ (M 6960 p1) = 38 ∨ (M 6960 p1) = 39 ∨ (M 6960 p1) = 40 ∨ (M 6960 p1) = 41 ∨ (M 6960 p1) = 42 → ((∀ x86 : Int, (((¬ (M 6960 p1) = 49) ∧ x86 = 0) ∨ (((M 6960 p1) = 49) ∧ x86 = 1)) → K (.inl (some (vI x86))) e M))))) : im_T g d 384 0 [some (.ref 6952), some (vI p1)] [] e M K := by
  refine im_ld (q := 1) (i := 0) D384_0 rfl rfl rfl ?_
  refine im_gfR (q := 4) (b := 6960) D384_1 (im_fl cn_384 fl_12_33) sf_6952 rfl rfl tR_12_21 rf_6952_21 ?_
  refine im_ld (q := 5) (i := 1) D384_4 rfl rfl rfl ?_
  obtain ⟨hg1, hP⟩ := hP
  refine im_rng (j := p1) sf_6960 hg1.1 hg1.2 (fun hr2 => ?_)
  refine im_iald (q := 6) D384_5 sf_6960 hg1.1 hg1.2 (by decide) rfl ?_
  by_cases hc4 : (M 6960 p1) = 20
  · refine im_tsw (q := 7) (t := 116) D384_6 hr2 (fun _ => by rcases hc4 with hc4 <;> (rw [hc4]; rfl)) (by rcases hc4 with hc4 <;> (rw [hc4]; rfl)) ?_
    replace hP := hP.1 hc4
    refine im_ld (q := 117) (i := 0) D384_116 rfl rfl rfl ?_
    refine im_gfR (q := 120) (b := 6968) D384_117 (im_fl cn_384 fl_12_57) sf_6952 rfl rfl tR_12_29 rf_6952_29 ?_
    refine im_ld (q := 121) (i := 1) D384_120 rfl rfl rfl ?_
    refine im_rng (j := p1) sf_6968 hg1.1 hg1.2 (fun hr3 => ?_)
    refine im_iald (q := 122) D384_121 sf_6968 hg1.1 hg1.2 (by decide) rfl ?_
    exact im_iret (q := 123) D384_122 rfl hP
  by_cases hc9 : (M 6960 p1) = 21
  · refine im_tsw (q := 7) (t := 123) D384_6 hr2 (fun _ => by rcases hc9 with hc9 <;> (rw [hc9]; rfl)) (by rcases hc9 with hc9 <;> (rw [hc9]; rfl)) ?_
    replace hP := hP.2.1 hc9
    refine im_ld (q := 124) (i := 0) D384_123 rfl rfl rfl ?_
    refine im_ld (q := 125) (i := 0) D384_124 rfl rfl rfl ?_
    refine im_gfR (q := 128) (b := 6961) D384_125 (im_fl cn_384 fl_12_36) sf_6952 rfl rfl tR_12_22 rf_6952_22 ?_
    refine im_ld (q := 129) (i := 1) D384_128 rfl rfl rfl ?_
    refine im_rng (j := p1) sf_6961 hg1.1 hg1.2 (fun hr5 => ?_)
    refine im_lald (q := 130) D384_129 sf_6961 hg1.1 hg1.2 (by decide) rfl ?_
    refine im_callV (q := 133) (kd := 1) (y := 385) (n := 1) (ci := 12) (a := 6952) (vs := [.ref 6952, vL (M 6961 p1)]) (r := []) (L2 := [some (.ref 6952), some (vL (M 6961 p1)), none, none]) D384_130 (im_cal cn_384 cl_12_892) (Or.inl rfl) rfl sf_6952 rfl rfl rfl rfl hd ⟨rfl, rfl, trivial⟩ ?_
    refine hP.mono ?_
    rintro _ e8 M6 ⟨x7, rfl, rfl, hP⟩
    refine im_bkS ?_
    exact im_iret (q := 134) D384_133 rfl hP
  by_cases hc27 : (M 6960 p1) = 22
  · refine im_tsw (q := 7) (t := 134) D384_6 hr2 (fun _ => by rcases hc27 with hc27 <;> (rw [hc27]; rfl)) (by rcases hc27 with hc27 <;> (rw [hc27]; rfl)) ?_
    replace hP := hP.2.2.1 hc27
    refine im_ld (q := 135) (i := 0) D384_134 rfl rfl rfl ?_
    refine im_ld (q := 136) (i := 0) D384_135 rfl rfl rfl ?_
    refine im_gfR (q := 139) (b := 6961) D384_136 (im_fl cn_384 fl_12_36) sf_6952 rfl rfl tR_12_22 rf_6952_22 ?_
    refine im_ld (q := 140) (i := 1) D384_139 rfl rfl rfl ?_
    refine im_rng (j := p1) sf_6961 hg1.1 hg1.2 (fun hr10 => ?_)
    refine im_lald (q := 141) D384_140 sf_6961 hg1.1 hg1.2 (by decide) rfl ?_
    refine im_ld (q := 142) (i := 0) D384_141 rfl rfl rfl ?_
    refine im_gfR (q := 145) (b := 6962) D384_142 (im_fl cn_384 fl_12_39) sf_6952 rfl rfl tR_12_23 rf_6952_23 ?_
    refine im_ld (q := 146) (i := 1) D384_145 rfl rfl rfl ?_
    refine im_rng (j := p1) sf_6962 hg1.1 hg1.2 (fun hr11 => ?_)
    refine im_lald (q := 147) D384_146 sf_6962 hg1.1 hg1.2 (by decide) rfl ?_
    refine im_callV (q := 150) (kd := 1) (y := 376) (n := 2) (ci := 12) (a := 6952) (vs := [.ref 6952, vL (M 6961 p1), vL (M 6962 p1)]) (r := []) (L2 := [some (.ref 6952), some (vL (M 6961 p1)), none, some (vL (M 6962 p1)), none, none]) D384_147 (im_cal cn_384 cl_12_895) (Or.inl rfl) rfl sf_6952 rfl rfl rfl rfl hd ⟨rfl, rfl, rfl, trivial⟩ ?_
    refine hP.mono ?_
    rintro _ e26 M12 ⟨x13, rfl, rfl, hP⟩
    refine im_bkS ?_
    obtain ⟨hg14, hP⟩ := hP
    refine im_ifc (q := 153) (t := 177) D384_150 rfl hg14 (fun hc15 => ?_) (fun hc15 => ?_)
    · replace hP := hP.1 hc15
      refine im_ld (q := 178) (i := 0) D384_177 rfl rfl rfl ?_
      refine im_callV (q := 181) (kd := 1) (y := 386) (n := 0) (ci := 12) (a := 6952) (vs := [.ref 6952]) (r := []) (L2 := [some (.ref 6952), none]) D384_178 (im_cal cn_384 cl_12_493) (Or.inl rfl) rfl sf_6952 rfl rfl rfl rfl hd ⟨rfl, trivial⟩ ?_
      refine hP.mono ?_
      rintro _ e20 M18 ⟨x19, rfl, rfl, hP⟩
      refine im_bkS ?_
      exact im_iret (q := 182) D384_181 rfl hP
    · replace hP := hP.2 hc15
      refine im_ld (q := 154) (i := 0) D384_153 rfl rfl rfl ?_
      refine im_gfR (q := 157) (b := 7013) D384_154 (im_fl cn_384 fl_12_195) sf_6952 rfl rfl tR_12_88 rf_6952_88 ?_
      refine im_ld (q := 158) (i := 0) D384_157 rfl rfl rfl ?_
      refine im_ld (q := 159) (i := 0) D384_158 rfl rfl rfl ?_
      refine im_gfR (q := 162) (b := 6961) D384_159 (im_fl cn_384 fl_12_36) sf_6952 rfl rfl tR_12_22 rf_6952_22 ?_
      refine im_ld (q := 163) (i := 1) D384_162 rfl rfl rfl ?_
      refine im_rng (j := p1) sf_6961 hg1.1 hg1.2 (fun hr16 => ?_)
      refine im_lald (q := 164) D384_163 sf_6961 hg1.1 hg1.2 (by decide) rfl ?_
      refine im_ld (q := 165) (i := 0) D384_164 rfl rfl rfl ?_
      refine im_gfR (q := 168) (b := 6962) D384_165 (im_fl cn_384 fl_12_39) sf_6952 rfl rfl tR_12_23 rf_6952_23 ?_
      refine im_ld (q := 169) (i := 1) D384_168 rfl rfl rfl ?_
      refine im_rng (j := p1) sf_6962 hg1.1 hg1.2 (fun hr17 => ?_)
      refine im_lald (q := 170) D384_169 sf_6962 hg1.1 hg1.2 (by decide) rfl ?_
      refine im_callV (q := 173) (kd := 1) (y := 375) (n := 2) (ci := 12) (a := 6952) (vs := [.ref 6952, vL (M12 6961 p1), vL (M12 6962 p1)]) (r := [.ref 7013]) (L2 := [some (.ref 6952), some (vL (M12 6961 p1)), none, some (vL (M12 6962 p1)), none, none]) D384_170 (im_cal cn_384 cl_12_876) (Or.inl rfl) rfl sf_6952 rfl rfl rfl rfl hd ⟨rfl, rfl, rfl, trivial⟩ ?_
      refine hP.mono ?_
      rintro _ e25 M21 ⟨x22, rfl, rfl, hP⟩
      refine im_bkS ?_
      obtain ⟨hg23, hP⟩ := hP
      refine im_rng (j := x22) sf_7013 hg23.1 hg23.2 (fun hr24 => ?_)
      refine im_iald (q := 174) D384_173 sf_7013 hg23.1 hg23.2 (by decide) rfl ?_
      refine im_goto (q := 177) (t := 181) D384_174 rfl ?_
      exact im_iret (q := 182) D384_181 rfl hP
  by_cases hc45 : (M 6960 p1) = 28
  · refine im_tsw (q := 7) (t := 182) D384_6 hr2 (fun _ => by rcases hc45 with hc45 <;> (rw [hc45]; rfl)) (by rcases hc45 with hc45 <;> (rw [hc45]; rfl)) ?_
    replace hP := hP.2.2.2.1 hc45
    refine im_ld (q := 183) (i := 0) D384_182 rfl rfl rfl ?_
    refine im_ld (q := 184) (i := 0) D384_183 rfl rfl rfl ?_
    refine im_gfR (q := 187) (b := 6961) D384_184 (im_fl cn_384 fl_12_36) sf_6952 rfl rfl tR_12_22 rf_6952_22 ?_
    refine im_ld (q := 188) (i := 1) D384_187 rfl rfl rfl ?_
    refine im_rng (j := p1) sf_6961 hg1.1 hg1.2 (fun hr28 => ?_)
    refine im_lald (q := 189) D384_188 sf_6961 hg1.1 hg1.2 (by decide) rfl ?_
    refine im_ld (q := 190) (i := 0) D384_189 rfl rfl rfl ?_
    refine im_gfR (q := 193) (b := 6962) D384_190 (im_fl cn_384 fl_12_39) sf_6952 rfl rfl tR_12_23 rf_6952_23 ?_
    refine im_ld (q := 194) (i := 1) D384_193 rfl rfl rfl ?_
    refine im_rng (j := p1) sf_6962 hg1.1 hg1.2 (fun hr29 => ?_)
    refine im_lald (q := 195) D384_194 sf_6962 hg1.1 hg1.2 (by decide) rfl ?_
    refine im_callV (q := 198) (kd := 1) (y := 387) (n := 2) (ci := 12) (a := 6952) (vs := [.ref 6952, vL (M 6961 p1), vL (M 6962 p1)]) (r := []) (L2 := [some (.ref 6952), some (vL (M 6961 p1)), none, some (vL (M 6962 p1)), none, none]) D384_195 (im_cal cn_384 cl_12_899) (Or.inl rfl) rfl sf_6952 rfl rfl rfl rfl hd ⟨rfl, rfl, rfl, trivial⟩ ?_
    refine hP.mono ?_
    rintro _ e44 M30 ⟨x31, rfl, rfl, hP⟩
    refine im_bkS ?_
    obtain ⟨hg32, hP⟩ := hP
    refine im_ifc (q := 201) (t := 225) D384_198 rfl hg32 (fun hc33 => ?_) (fun hc33 => ?_)
    · replace hP := hP.1 hc33
      refine im_ld (q := 226) (i := 0) D384_225 rfl rfl rfl ?_
      refine im_callV (q := 229) (kd := 1) (y := 386) (n := 0) (ci := 12) (a := 6952) (vs := [.ref 6952]) (r := []) (L2 := [some (.ref 6952), none]) D384_226 (im_cal cn_384 cl_12_493) (Or.inl rfl) rfl sf_6952 rfl rfl rfl rfl hd ⟨rfl, trivial⟩ ?_
      refine hP.mono ?_
      rintro _ e38 M36 ⟨x37, rfl, rfl, hP⟩
      refine im_bkS ?_
      exact im_iret (q := 230) D384_229 rfl hP
    · replace hP := hP.2 hc33
      refine im_ld (q := 202) (i := 0) D384_201 rfl rfl rfl ?_
      refine im_gfR (q := 205) (b := 7016) D384_202 (im_fl cn_384 fl_12_204) sf_6952 rfl rfl tR_12_92 rf_6952_92 ?_
      refine im_ld (q := 206) (i := 0) D384_205 rfl rfl rfl ?_
      refine im_ld (q := 207) (i := 0) D384_206 rfl rfl rfl ?_
      refine im_gfR (q := 210) (b := 6961) D384_207 (im_fl cn_384 fl_12_36) sf_6952 rfl rfl tR_12_22 rf_6952_22 ?_
      refine im_ld (q := 211) (i := 1) D384_210 rfl rfl rfl ?_
      refine im_rng (j := p1) sf_6961 hg1.1 hg1.2 (fun hr34 => ?_)
      refine im_lald (q := 212) D384_211 sf_6961 hg1.1 hg1.2 (by decide) rfl ?_
      refine im_ld (q := 213) (i := 0) D384_212 rfl rfl rfl ?_
      refine im_gfR (q := 216) (b := 6962) D384_213 (im_fl cn_384 fl_12_39) sf_6952 rfl rfl tR_12_23 rf_6952_23 ?_
      refine im_ld (q := 217) (i := 1) D384_216 rfl rfl rfl ?_
      refine im_rng (j := p1) sf_6962 hg1.1 hg1.2 (fun hr35 => ?_)
      refine im_lald (q := 218) D384_217 sf_6962 hg1.1 hg1.2 (by decide) rfl ?_
      refine im_callV (q := 221) (kd := 1) (y := 388) (n := 2) (ci := 12) (a := 6952) (vs := [.ref 6952, vL (M30 6961 p1), vL (M30 6962 p1)]) (r := [.ref 7016]) (L2 := [some (.ref 6952), some (vL (M30 6961 p1)), none, some (vL (M30 6962 p1)), none, none]) D384_218 (im_cal cn_384 cl_12_880) (Or.inl rfl) rfl sf_6952 rfl rfl rfl rfl hd ⟨rfl, rfl, rfl, trivial⟩ ?_
      refine hP.mono ?_
      rintro _ e43 M39 ⟨x40, rfl, rfl, hP⟩
      refine im_bkS ?_
      obtain ⟨hg41, hP⟩ := hP
      refine im_rng (j := x40) sf_7016 hg41.1 hg41.2 (fun hr42 => ?_)
      refine im_iald (q := 222) D384_221 sf_7016 hg41.1 hg41.2 (by decide) rfl ?_
      refine im_goto (q := 225) (t := 229) D384_222 rfl ?_
      exact im_iret (q := 230) D384_229 rfl hP
  by_cases hc61 : (M 6960 p1) = 31
  · refine im_tsw (q := 7) (t := 230) D384_6 hr2 (fun _ => by rcases hc61 with hc61 <;> (rw [hc61]; rfl)) (by rcases hc61 with hc61 <;> (rw [hc61]; rfl)) ?_
    replace hP := hP.2.2.2.2.1 hc61
    refine im_ld (q := 231) (i := 0) D384_230 rfl rfl rfl ?_
    refine im_ld (q := 232) (i := 0) D384_231 rfl rfl rfl ?_
    refine im_gfR (q := 235) (b := 6961) D384_232 (im_fl cn_384 fl_12_36) sf_6952 rfl rfl tR_12_22 rf_6952_22 ?_
    refine im_ld (q := 236) (i := 1) D384_235 rfl rfl rfl ?_
    refine im_rng (j := p1) sf_6961 hg1.1 hg1.2 (fun hr46 => ?_)
    refine im_lald (q := 237) D384_236 sf_6961 hg1.1 hg1.2 (by decide) rfl ?_
    refine im_callV (q := 240) (kd := 1) (y := 389) (n := 1) (ci := 12) (a := 6952) (vs := [.ref 6952, vL (M 6961 p1)]) (r := []) (L2 := [some (.ref 6952), some (vL (M 6961 p1)), none, none]) D384_237 (im_cal cn_384 cl_12_902) (Or.inl rfl) rfl sf_6952 rfl rfl rfl rfl hd ⟨rfl, rfl, trivial⟩ ?_
    refine hP.mono ?_
    rintro _ e60 M47 ⟨x48, rfl, rfl, hP⟩
    refine im_bkS ?_
    obtain ⟨hg49, hP⟩ := hP
    refine im_ifc (q := 243) (t := 261) D384_240 rfl hg49 (fun hc50 => ?_) (fun hc50 => ?_)
    · replace hP := hP.1 hc50
      refine im_ld (q := 262) (i := 0) D384_261 rfl rfl rfl ?_
      refine im_callV (q := 265) (kd := 1) (y := 386) (n := 0) (ci := 12) (a := 6952) (vs := [.ref 6952]) (r := []) (L2 := [some (.ref 6952), none]) D384_262 (im_cal cn_384 cl_12_493) (Or.inl rfl) rfl sf_6952 rfl rfl rfl rfl hd ⟨rfl, trivial⟩ ?_
      refine hP.mono ?_
      rintro _ e54 M52 ⟨x53, rfl, rfl, hP⟩
      refine im_bkS ?_
      exact im_iret (q := 266) D384_265 rfl hP
    · replace hP := hP.2 hc50
      refine im_ld (q := 244) (i := 0) D384_243 rfl rfl rfl ?_
      refine im_gfR (q := 247) (b := 7018) D384_244 (im_fl cn_384 fl_12_210) sf_6952 rfl rfl tR_12_95 rf_6952_95 ?_
      refine im_ld (q := 248) (i := 0) D384_247 rfl rfl rfl ?_
      refine im_ld (q := 249) (i := 0) D384_248 rfl rfl rfl ?_
      refine im_gfR (q := 252) (b := 6961) D384_249 (im_fl cn_384 fl_12_36) sf_6952 rfl rfl tR_12_22 rf_6952_22 ?_
      refine im_ld (q := 253) (i := 1) D384_252 rfl rfl rfl ?_
      refine im_rng (j := p1) sf_6961 hg1.1 hg1.2 (fun hr51 => ?_)
      refine im_lald (q := 254) D384_253 sf_6961 hg1.1 hg1.2 (by decide) rfl ?_
      refine im_callV (q := 257) (kd := 1) (y := 390) (n := 1) (ci := 12) (a := 6952) (vs := [.ref 6952, vL (M47 6961 p1)]) (r := [.ref 7018]) (L2 := [some (.ref 6952), some (vL (M47 6961 p1)), none, none]) D384_254 (im_cal cn_384 cl_12_883) (Or.inl rfl) rfl sf_6952 rfl rfl rfl rfl hd ⟨rfl, rfl, trivial⟩ ?_
      refine hP.mono ?_
      rintro _ e59 M55 ⟨x56, rfl, rfl, hP⟩
      refine im_bkS ?_
      obtain ⟨hg57, hP⟩ := hP
      refine im_rng (j := x56) sf_7018 hg57.1 hg57.2 (fun hr58 => ?_)
      refine im_iald (q := 258) D384_257 sf_7018 hg57.1 hg57.2 (by decide) rfl ?_
      refine im_goto (q := 261) (t := 265) D384_258 rfl ?_
      exact im_iret (q := 266) D384_265 rfl hP
  by_cases hc66 : (M 6960 p1) = 29
  · refine im_tsw (q := 7) (t := 266) D384_6 hr2 (fun _ => by rcases hc66 with hc66 <;> (rw [hc66]; rfl)) (by rcases hc66 with hc66 <;> (rw [hc66]; rfl)) ?_
    replace hP := hP.2.2.2.2.2.1 hc66
    refine im_ld (q := 267) (i := 0) D384_266 rfl rfl rfl ?_
    refine im_ld (q := 268) (i := 0) D384_267 rfl rfl rfl ?_
    refine im_rng (j := 99) sf_6952 (by decide) (by decide) (fun hr62 => ?_)
    refine im_gfL (q := 271) D384_268 (im_fl cn_384 fl_12_905) sf_6952 rfl rfl tL_12_99 rfl ?_
    refine im_callV (q := 274) (kd := 1) (y := 391) (n := 1) (ci := 12) (a := 6952) (vs := [.ref 6952, vL (M 6952 99)]) (r := []) (L2 := [some (.ref 6952), some (vL (M 6952 99)), none, none, none, none, none]) D384_271 (im_cal cn_384 cl_12_908) (Or.inl rfl) rfl sf_6952 rfl rfl rfl rfl hd ⟨rfl, rfl, trivial⟩ ?_
    refine hP.mono ?_
    rintro _ e65 M63 ⟨x64, rfl, rfl, hP⟩
    refine im_bkS ?_
    exact im_iret (q := 275) D384_274 rfl hP
  by_cases hc71 : (M 6960 p1) = 30
  · refine im_tsw (q := 7) (t := 275) D384_6 hr2 (fun _ => by rcases hc71 with hc71 <;> (rw [hc71]; rfl)) (by rcases hc71 with hc71 <;> (rw [hc71]; rfl)) ?_
    replace hP := hP.2.2.2.2.2.2.1 hc71
    refine im_ld (q := 276) (i := 0) D384_275 rfl rfl rfl ?_
    refine im_ld (q := 277) (i := 0) D384_276 rfl rfl rfl ?_
    refine im_rng (j := 100) sf_6952 (by decide) (by decide) (fun hr67 => ?_)
    refine im_gfL (q := 280) D384_277 (im_fl cn_384 fl_12_911) sf_6952 rfl rfl tL_12_100 rfl ?_
    refine im_callV (q := 283) (kd := 1) (y := 391) (n := 1) (ci := 12) (a := 6952) (vs := [.ref 6952, vL (M 6952 100)]) (r := []) (L2 := [some (.ref 6952), some (vL (M 6952 100)), none, none, none, none, none]) D384_280 (im_cal cn_384 cl_12_908) (Or.inl rfl) rfl sf_6952 rfl rfl rfl rfl hd ⟨rfl, rfl, trivial⟩ ?_
    refine hP.mono ?_
    rintro _ e70 M68 ⟨x69, rfl, rfl, hP⟩
    refine im_bkS ?_
    exact im_iret (q := 284) D384_283 rfl hP
  by_cases hc83 : (M 6960 p1) = 43
  · refine im_tsw (q := 7) (t := 284) D384_6 hr2 (fun _ => by rcases hc83 with hc83 <;> (rw [hc83]; rfl)) (by rcases hc83 with hc83 <;> (rw [hc83]; rfl)) ?_
    replace hP := hP.2.2.2.2.2.2.2.1 hc83
    refine im_ld (q := 285) (i := 0) D384_284 rfl rfl rfl ?_
    refine im_ld (q := 286) (i := 0) D384_285 rfl rfl rfl ?_
    refine im_gfR (q := 289) (b := 6961) D384_286 (im_fl cn_384 fl_12_36) sf_6952 rfl rfl tR_12_22 rf_6952_22 ?_
    refine im_ld (q := 290) (i := 1) D384_289 rfl rfl rfl ?_
    refine im_rng (j := p1) sf_6961 hg1.1 hg1.2 (fun hr72 => ?_)
    refine im_lald (q := 291) D384_290 sf_6961 hg1.1 hg1.2 (by decide) rfl ?_
    refine im_ld (q := 292) (i := 0) D384_291 rfl rfl rfl ?_
    refine im_gfR (q := 295) (b := 6962) D384_292 (im_fl cn_384 fl_12_39) sf_6952 rfl rfl tR_12_23 rf_6952_23 ?_
    refine im_ld (q := 296) (i := 1) D384_295 rfl rfl rfl ?_
    refine im_rng (j := p1) sf_6962 hg1.1 hg1.2 (fun hr73 => ?_)
    refine im_lald (q := 297) D384_296 sf_6962 hg1.1 hg1.2 (by decide) rfl ?_
    refine im_callV (q := 300) (kd := 1) (y := 387) (n := 2) (ci := 12) (a := 6952) (vs := [.ref 6952, vL (M 6961 p1), vL (M 6962 p1)]) (r := []) (L2 := [some (.ref 6952), some (vL (M 6961 p1)), none, some (vL (M 6962 p1)), none, none]) D384_297 (im_cal cn_384 cl_12_899) (Or.inl rfl) rfl sf_6952 rfl rfl rfl rfl hd ⟨rfl, rfl, rfl, trivial⟩ ?_
    refine hP.mono ?_
    rintro _ e82 M74 ⟨x75, rfl, rfl, hP⟩
    refine im_bkS ?_
    obtain ⟨hg76, hP⟩ := hP
    have hJ79 := hP
    have kJ80 : ∀ x78 : Int, (((x75 = 0) ∧ x78 = 0) ∨ ((¬ x75 = 0) ∧ x78 = 1)) → im_T g d 384 308 [none, none] [vI x78] e M74 K := by
      intro x78 hx81
      have hP := hJ79 x78 hx81
      exact im_iret (q := 309) D384_308 rfl hP
    refine im_ifc (q := 303) (t := 307) D384_300 rfl hg76 (fun hc77 => ?_) (fun hc77 => ?_)
    · refine im_iconst (q := 308) D384_307 ?_
      exact (kJ80 (0) (Or.inl ⟨hc77, rfl⟩)).wk trivial
    · refine im_iconst (q := 304) D384_303 ?_
      refine im_goto (q := 307) (t := 308) D384_304 rfl ?_
      exact (kJ80 (1) (Or.inr ⟨hc77, rfl⟩)).wk trivial
  have hd90 : (M 6960 p1) < 20 ∨ 43 < (M 6960 p1) ∨ (M 6960 p1) = 23 ∨ (M 6960 p1) = 24 ∨ (M 6960 p1) = 25 ∨ (M 6960 p1) = 26 ∨ (M 6960 p1) = 27 ∨ (M 6960 p1) = 32 ∨ (M 6960 p1) = 33 ∨ (M 6960 p1) = 34 ∨ (M 6960 p1) = 35 ∨ (M 6960 p1) = 36 ∨ (M 6960 p1) = 37 ∨ (M 6960 p1) = 38 ∨ (M 6960 p1) = 39 ∨ (M 6960 p1) = 40 ∨ (M 6960 p1) = 41 ∨ (M 6960 p1) = 42 := by omega
  refine im_tsw (q := 7) (t := 309) D384_6 hr2 ?_ ?_ ?_
  · intro z9
    have z8 : (M 6960 p1) = 23 ∨ (M 6960 p1) = 24 ∨ (M 6960 p1) = 25 ∨ (M 6960 p1) = 26 ∨ (M 6960 p1) = 27 ∨ (M 6960 p1) = 32 ∨ (M 6960 p1) = 33 ∨ (M 6960 p1) = 34 ∨ (M 6960 p1) = 35 ∨ (M 6960 p1) = 36 ∨ (M 6960 p1) = 37 ∨ (M 6960 p1) = 38 ∨ (M 6960 p1) = 39 ∨ (M 6960 p1) = 40 ∨ (M 6960 p1) = 41 ∨ (M 6960 p1) = 42 := by omega
    rcases z8 with z8 | z8 | z8 | z8 | z8 | z8 | z8 | z8 | z8 | z8 | z8 | z8 | z8 | z8 | z8 | z8 <;> (rw [z8]; rfl)
  · rcases hd90 with z8 | z8 | z8 | z8 | z8 | z8 | z8 | z8 | z8 | z8 | z8 | z8 | z8 | z8 | z8 | z8 | z8 | z8
    · rw [if_pos (Or.inl z8)]; rfl
    · rw [if_pos (Or.inr z8)]; rfl
    · rw [z8]; rfl
    · rw [z8]; rfl
    · rw [z8]; rfl
    · rw [z8]; rfl
    · rw [z8]; rfl
    · rw [z8]; rfl
    · rw [z8]; rfl
    · rw [z8]; rfl
    · rw [z8]; rfl
    · rw [z8]; rfl
    · rw [z8]; rfl
    · rw [z8]; rfl
    · rw [z8]; rfl
    · rw [z8]; rfl
    · rw [z8]; rfl
    · rw [z8]; rfl
  replace hP := hP.2.2.2.2.2.2.2.2 hd90
  refine im_ld (q := 310) (i := 0) D384_309 rfl rfl rfl ?_
  refine im_gfR (q := 313) (b := 6960) D384_310 (im_fl cn_384 fl_12_33) sf_6952 rfl rfl tR_12_21 rf_6952_21 ?_
  refine im_ld (q := 314) (i := 1) D384_313 rfl rfl rfl ?_
  refine im_iald (q := 315) D384_314 sf_6960 hg1.1 hg1.2 (by decide) rfl ?_
  refine im_bipush (q := 317) D384_315 rfl ?_
  have hJ87 := hP
  have kJ88 : ∀ x86 : Int, (((¬ (M 6960 p1) = 49) ∧ x86 = 0) ∨ (((M 6960 p1) = 49) ∧ x86 = 1)) → im_T g d 384 325 [none, none] [vI x86] e M K := by
    intro x86 hx89
    have hP := hJ87 x86 hx89
    exact im_iret (q := 326) D384_325 rfl hP
  refine im_icmp (q := 320) (t := 324) D384_317 rfl hr2 (by decide) (fun hc85 => ?_) (fun hc85 => ?_)
  · refine im_iconst (q := 325) D384_324 ?_
    exact (kJ88 (0) (Or.inl ⟨hc85, rfl⟩)).wk trivial
  · refine im_iconst (q := 321) D384_320 ?_
    refine im_goto (q := 324) (t := 325) D384_321 rfl ?_
    exact (kJ88 (1) (Or.inr ⟨(Decidable.not_not.mp hc85), rfl⟩)).wk trivial
set_option maxRecDepth 20000 in
set_option maxHeartbeats 4000000 in
theorem b_givenOf_0 {g : im_g} {d : Nat} {e : im_E} {M : im_M} {K : im_K} {p1 : Int} (hP : im_T g d 385 2 [some (.ref 6952), some (vL p1), none, some (vI 0)] [] e M K) : im_T g d 385 0 [some (.ref 6952), some (vL p1), none, none] [] e M K := by
  refine im_iconst (q := 1) D385_0 ?_
  refine im_st1 (q := 2) (i := 3) (L' := [some (.ref 6952), some (vL p1), none, some (vI 0)]) D385_1 (Or.inl ⟨_, rfl, rfl⟩) (Nat.le_of_ble_eq_true rfl) rfl ?_
  exact hP.wk ⟨rfl, rfl, rfl, trivial⟩
set_option maxRecDepth 20000 in
set_option maxHeartbeats 4000000 in
theorem b_givenOf_2 {g : im_g} {d : Nat} {e : im_E} {M : im_M} {K : im_K} {p1 p3 : Int} (hd : 1 ≤ d) (hP : (im_i32 p3) ∧ (((M 6952 96) ≤ p3 → im_T g (d - 1) 386 0 [some (.ref 6952), none] [] e M (im_ri (fun x10 e_ M9 => e = e_ ∧ K (.inl (some (vI x10))) e M9))) ∧ (p3 < (M 6952 96) → (0 ≤ p3 ∧ p3 < 20) ∧ (im_i64 p1) ∧ ((¬ (M 7019 p3) = p1 → im_T g d 385 2 [some (.ref 6952), some (vL p1), none, some (vI (p3 + 1))] [] e M K) ∧ ((M 7019 p3) = p1 → K (.inl (some (vI (M 7020 p3)))) e M))))) : im_T g d 385 2 [some (.ref 6952), some (vL p1), none, some (vI p3)] [] e M K := by
  refine im_ld (q := 3) (i := 3) D385_2 rfl rfl rfl ?_
  refine im_ld (q := 4) (i := 0) D385_3 rfl rfl rfl ?_
  refine im_rng (j := 96) sf_6952 (by decide) (by decide) (fun hr1 => ?_)
  refine im_gfI (q := 7) D385_4 (im_fl cn_385 fl_12_873) sf_6952 rfl rfl tI_12_96 rfl ?_
  obtain ⟨hg2, hP⟩ := hP
  refine im_icmp (q := 10) (t := 34) D385_7 rfl hg2 hr1 (fun hc3 => ?_) (fun hc3 => ?_)
  · replace hP := hP.1 hc3
    refine im_ld (q := 35) (i := 0) D385_34 rfl rfl rfl ?_
    refine im_callV (q := 38) (kd := 1) (y := 386) (n := 0) (ci := 12) (a := 6952) (vs := [.ref 6952]) (r := []) (L2 := [some (.ref 6952), none]) D385_35 (im_cal cn_385 cl_12_493) (Or.inl rfl) rfl sf_6952 rfl rfl rfl rfl hd ⟨rfl, trivial⟩ ?_
    refine hP.mono ?_
    rintro _ e11 M9 ⟨x10, rfl, rfl, hP⟩
    refine im_bkS ?_
    exact im_iret (q := 39) D385_38 rfl hP
  · replace hP := hP.2 (Int.not_le.mp hc3)
    refine im_ld (q := 11) (i := 0) D385_10 rfl rfl rfl ?_
    refine im_gfR (q := 14) (b := 7019) D385_11 (im_fl cn_385 fl_12_213) sf_6952 rfl rfl tR_12_97 rf_6952_97 ?_
    refine im_ld (q := 15) (i := 3) D385_14 rfl rfl rfl ?_
    obtain ⟨hg4, hP⟩ := hP
    refine im_rng (j := p3) sf_7019 hg4.1 hg4.2 (fun hr5 => ?_)
    refine im_lald (q := 16) D385_15 sf_7019 hg4.1 hg4.2 (by decide) rfl ?_
    refine im_ld (q := 17) (i := 1) D385_16 rfl rfl rfl ?_
    obtain ⟨hg6, hP⟩ := hP
    refine im_lif (q := 18) (q2 := 21) (t := 28) D385_17 D385_18 rfl hr5 hg6 (fun hc7 => ?_) (fun hc7 => ?_)
    · replace hP := hP.1 hc7
      refine im_iinc (q := 31) (i := 3) (L' := [some (.ref 6952), some (vL p1), none, some (vI (p3 + 1))]) D385_28 rfl (Nat.le_of_ble_eq_true rfl) rfl ?_
      refine im_goto (q := 34) (t := 2) D385_31 rfl ?_
      exact hP.wk ⟨rfl, rfl, rfl, trivial⟩
    · replace hP := hP.2 (Decidable.not_not.mp hc7)
      refine im_ld (q := 22) (i := 0) D385_21 rfl rfl rfl ?_
      refine im_gfR (q := 25) (b := 7020) D385_22 (im_fl cn_385 fl_12_216) sf_6952 rfl rfl tR_12_98 rf_6952_98 ?_
      refine im_ld (q := 26) (i := 3) D385_25 rfl rfl rfl ?_
      refine im_rng (j := p3) sf_7020 hg4.1 hg4.2 (fun hr8 => ?_)
      refine im_iald (q := 27) D385_26 sf_7020 hg4.1 hg4.2 (by decide) rfl ?_
      exact im_iret (q := 28) D385_27 rfl hP
set_option maxRecDepth 20000 in
set_option maxHeartbeats 4000000 in
theorem b_hasChoice_0 {g : im_g} {d : Nat} {e : im_E} {M : im_M} {K : im_K} {p1 p3 : Int} (hd : 1 ≤ d) (hP : im_T g (d - 1) 388 0 [some (.ref 6952), some (vL p1), none, some (vL p3), none, none] [] e M (im_ri (fun x2 e_ M1 => e = e_ ∧ (im_i32 x2) ∧ ((((x2 < (M1 6952 89) → (0 ≤ x2 ∧ x2 < 41) ∧ (im_i64 p1) ∧ (((M1 7014 x2) = p1 → (im_i64 p3) ∧ (((M1 7015 x2) = p3 → K (.inl (some (vI 1))) e M1))))))) ∧ (((((M1 6952 89) ≤ x2)) ∨ ((x2 < (M1 6952 89)) ∧ (¬ (M1 7014 x2) = p1)) ∨ ((x2 < (M1 6952 89)) ∧ ((M1 7014 x2) = p1) ∧ (¬ (M1 7015 x2) = p3))) → K (.inl (some (vI 0))) e M1))))) : im_T g d 387 0 [some (.ref 6952), some (vL p1), none, some (vL p3), none, none] [] e M K := by
  refine im_ld (q := 1) (i := 0) D387_0 rfl rfl rfl ?_
  refine im_ld (q := 2) (i := 1) D387_1 rfl rfl rfl ?_
  refine im_ld (q := 3) (i := 3) D387_2 rfl rfl rfl ?_
  refine im_callV (q := 6) (kd := 1) (y := 388) (n := 2) (ci := 12) (a := 6952) (vs := [.ref 6952, vL p1, vL p3]) (r := []) (L2 := [some (.ref 6952), some (vL p1), none, some (vL p3), none, none]) D387_3 (im_cal cn_387 cl_12_880) (Or.inl rfl) rfl sf_6952 rfl rfl rfl rfl hd ⟨rfl, rfl, rfl, trivial⟩ ?_
  refine hP.mono ?_
  rintro _ e16 M1 ⟨x2, rfl, rfl, hP⟩
  refine im_bkS ?_
  refine im_st1 (q := 8) (i := 5) (L' := [some (.ref 6952), some (vL p1), none, some (vL p3), none, some (vI x2)]) D387_6 (Or.inr rfl) (Nat.le_of_ble_eq_true rfl) rfl ?_
  refine im_ld (q := 10) (i := 5) D387_8 rfl rfl rfl ?_
  refine im_ld (q := 11) (i := 0) D387_10 rfl rfl rfl ?_
  refine im_rng (j := 89) sf_6952 (by decide) (by decide) (fun hr3 => ?_)
  refine im_gfI (q := 14) D387_11 (im_fl cn_387 fl_12_867) sf_6952 rfl rfl tI_12_89 rfl ?_
  obtain ⟨hg4, hP⟩ := hP
  obtain ⟨hP, hJ13⟩ := hP
  have kJ14 : ((((M1 6952 89) ≤ x2)) ∨ ((x2 < (M1 6952 89)) ∧ (¬ (M1 7014 x2) = p1)) ∨ ((x2 < (M1 6952 89)) ∧ ((M1 7014 x2) = p1) ∧ (¬ (M1 7015 x2) = p3))) → im_T g d 387 45 [none, none, none, none, none, none] [] e M1 K := by
    intro  hx15
    have hP := hJ13  hx15
    refine im_iconst (q := 46) D387_45 ?_
    exact im_zret (q := 47) D387_46 rfl (by decide) hP
  refine im_icmp (q := 17) (t := 45) D387_14 rfl hg4 hr3 (fun hc5 => ?_) (fun hc5 => ?_)
  · exact (kJ14  (Or.inl hc5)).wk trivial
  · replace hP := hP (Int.not_le.mp hc5)
    refine im_ld (q := 18) (i := 0) D387_17 rfl rfl rfl ?_
    refine im_gfR (q := 21) (b := 7014) D387_18 (im_fl cn_387 fl_12_198) sf_6952 rfl rfl tR_12_90 rf_6952_90 ?_
    refine im_ld (q := 23) (i := 5) D387_21 rfl rfl rfl ?_
    obtain ⟨hg6, hP⟩ := hP
    refine im_rng (j := x2) sf_7014 hg6.1 hg6.2 (fun hr7 => ?_)
    refine im_lald (q := 24) D387_23 sf_7014 hg6.1 hg6.2 (by decide) rfl ?_
    refine im_ld (q := 25) (i := 1) D387_24 rfl rfl rfl ?_
    obtain ⟨hg8, hP⟩ := hP
    refine im_lif (q := 26) (q2 := 29) (t := 45) D387_25 D387_26 rfl hr7 hg8 (fun hc9 => ?_) (fun hc9 => ?_)
    · exact (kJ14  (Or.inr (Or.inl ⟨(Int.not_le.mp hc5), hc9⟩))).wk trivial
    · replace hP := hP (Decidable.not_not.mp hc9)
      refine im_ld (q := 30) (i := 0) D387_29 rfl rfl rfl ?_
      refine im_gfR (q := 33) (b := 7015) D387_30 (im_fl cn_387 fl_12_201) sf_6952 rfl rfl tR_12_91 rf_6952_91 ?_
      refine im_ld (q := 35) (i := 5) D387_33 rfl rfl rfl ?_
      refine im_rng (j := x2) sf_7015 hg6.1 hg6.2 (fun hr10 => ?_)
      refine im_lald (q := 36) D387_35 sf_7015 hg6.1 hg6.2 (by decide) rfl ?_
      refine im_ld (q := 37) (i := 3) D387_36 rfl rfl rfl ?_
      obtain ⟨hg11, hP⟩ := hP
      refine im_lif (q := 38) (q2 := 41) (t := 45) D387_37 D387_38 rfl hr10 hg11 (fun hc12 => ?_) (fun hc12 => ?_)
      · exact (kJ14  (Or.inr (Or.inr ⟨(Int.not_le.mp hc5), (Decidable.not_not.mp hc9), hc12⟩))).wk trivial
      · replace hP := hP (Decidable.not_not.mp hc12)
        refine im_iconst (q := 42) D387_41 ?_
        refine im_goto (q := 45) (t := 46) D387_42 rfl ?_
        exact im_zret (q := 47) D387_46 rfl (by decide) hP
set_option maxRecDepth 20000 in
set_option maxHeartbeats 4000000 in
theorem b_choiceAt_0 {g : im_g} {d : Nat} {e : im_E} {M : im_M} {K : im_K} {p1 p3 : Int} (hP : im_T g d 388 3 [some (.ref 6952), some (vL p1), none, some (vL p3), none, some (vI 0)] [] e M K) : im_T g d 388 0 [some (.ref 6952), some (vL p1), none, some (vL p3), none, none] [] e M K := by
  refine im_iconst (q := 1) D388_0 ?_
  refine im_st1 (q := 3) (i := 5) (L' := [some (.ref 6952), some (vL p1), none, some (vL p3), none, some (vI 0)]) D388_1 (Or.inr rfl) (Nat.le_of_ble_eq_true rfl) rfl ?_
  exact hP.wk ⟨rfl, rfl, rfl, rfl, trivial⟩
set_option maxRecDepth 20000 in
set_option maxHeartbeats 4000000 in
theorem b_choiceAt_3 {g : im_g} {d : Nat} {e : im_E} {M : im_M} {K : im_K} {p1 p3 p5 : Int} (hP : (im_i32 p5) ∧ ((((p5 < (M 6952 89) → (0 ≤ p5 ∧ p5 < 41) ∧ (im_i64 p1) ∧ ((p1 ≤ (M 7014 p5) → (((M 7014 p5) = p1 → (im_i64 p3)))))))) ∧ ((((p5 < (M 6952 89)) ∧ ((M 7014 p5) < p1)) ∨ ((p5 < (M 6952 89)) ∧ (p1 ≤ (M 7014 p5)) ∧ ((M 7014 p5) = p1) ∧ ((M 7015 p5) < p3))) → im_T g d 388 3 [some (.ref 6952), some (vL p1), none, some (vL p3), none, some (vI (p5 + 1))] [] e M K) ∧ (((((M 6952 89) ≤ p5)) ∨ ((p5 < (M 6952 89)) ∧ (p1 ≤ (M 7014 p5)) ∧ (¬ (M 7014 p5) = p1)) ∨ ((p5 < (M 6952 89)) ∧ (p1 ≤ (M 7014 p5)) ∧ ((M 7014 p5) = p1) ∧ (p3 ≤ (M 7015 p5)))) → K (.inl (some (vI p5))) e M))) : im_T g d 388 3 [some (.ref 6952), some (vL p1), none, some (vL p3), none, some (vI p5)] [] e M K := by
  refine im_ld (q := 5) (i := 5) D388_3 rfl rfl rfl ?_
  refine im_ld (q := 6) (i := 0) D388_5 rfl rfl rfl ?_
  refine im_rng (j := 89) sf_6952 (by decide) (by decide) (fun hr1 => ?_)
  refine im_gfI (q := 9) D388_6 (im_fl cn_388 fl_12_867) sf_6952 rfl rfl tI_12_89 rfl ?_
  obtain ⟨hg2, hP⟩ := hP
  obtain ⟨hP, hJ13, hJ16⟩ := hP
  have kJ14 : (((p5 < (M 6952 89)) ∧ ((M 7014 p5) < p1)) ∨ ((p5 < (M 6952 89)) ∧ (p1 ≤ (M 7014 p5)) ∧ ((M 7014 p5) = p1) ∧ ((M 7015 p5) < p3))) → im_T g d 388 48 [some (.ref 6952), some (vL p1), none, some (vL p3), none, some (vI p5)] [] e M K := by
    intro  hx15
    have hP := hJ13  hx15
    refine im_iinc (q := 51) (i := 5) (L' := [some (.ref 6952), some (vL p1), none, some (vL p3), none, some (vI (p5 + 1))]) D388_48 rfl (Nat.le_of_ble_eq_true rfl) rfl ?_
    refine im_goto (q := 54) (t := 3) D388_51 rfl ?_
    exact hP.wk ⟨rfl, rfl, rfl, rfl, trivial⟩
  have kJ17 : ((((M 6952 89) ≤ p5)) ∨ ((p5 < (M 6952 89)) ∧ (p1 ≤ (M 7014 p5)) ∧ (¬ (M 7014 p5) = p1)) ∨ ((p5 < (M 6952 89)) ∧ (p1 ≤ (M 7014 p5)) ∧ ((M 7014 p5) = p1) ∧ (p3 ≤ (M 7015 p5)))) → im_T g d 388 54 [none, none, none, none, none, some (vI p5)] [] e M K := by
    intro  hx18
    have hP := hJ16  hx18
    refine im_ld (q := 56) (i := 5) D388_54 rfl rfl rfl ?_
    exact im_iret (q := 57) D388_56 rfl hP
  refine im_icmp (q := 12) (t := 54) D388_9 rfl hg2 hr1 (fun hc3 => ?_) (fun hc3 => ?_)
  · exact (kJ17  (Or.inl hc3)).wk ⟨rfl, trivial⟩
  · replace hP := hP (Int.not_le.mp hc3)
    refine im_ld (q := 13) (i := 0) D388_12 rfl rfl rfl ?_
    refine im_gfR (q := 16) (b := 7014) D388_13 (im_fl cn_388 fl_12_198) sf_6952 rfl rfl tR_12_90 rf_6952_90 ?_
    refine im_ld (q := 18) (i := 5) D388_16 rfl rfl rfl ?_
    obtain ⟨hg4, hP⟩ := hP
    refine im_rng (j := p5) sf_7014 hg4.1 hg4.2 (fun hr5 => ?_)
    refine im_lald (q := 19) D388_18 sf_7014 hg4.1 hg4.2 (by decide) rfl ?_
    refine im_ld (q := 20) (i := 1) D388_19 rfl rfl rfl ?_
    obtain ⟨hg6, hP⟩ := hP
    refine im_lif (q := 21) (q2 := 24) (t := 48) D388_20 D388_21 rfl hr5 hg6 (fun hc7 => ?_) (fun hc7 => ?_)
    · exact (kJ14  (Or.inl ⟨(Int.not_le.mp hc3), hc7⟩)).wk ⟨rfl, rfl, rfl, rfl, trivial⟩
    · replace hP := hP (Int.not_lt.mp hc7)
      refine im_ld (q := 25) (i := 0) D388_24 rfl rfl rfl ?_
      refine im_gfR (q := 28) (b := 7014) D388_25 (im_fl cn_388 fl_12_198) sf_6952 rfl rfl tR_12_90 rf_6952_90 ?_
      refine im_ld (q := 30) (i := 5) D388_28 rfl rfl rfl ?_
      refine im_lald (q := 31) D388_30 sf_7014 hg4.1 hg4.2 (by decide) rfl ?_
      refine im_ld (q := 32) (i := 1) D388_31 rfl rfl rfl ?_
      refine im_lif (q := 33) (q2 := 36) (t := 54) D388_32 D388_33 rfl hr5 hg6 (fun hc9 => ?_) (fun hc9 => ?_)
      · exact (kJ17  (Or.inr (Or.inl ⟨(Int.not_le.mp hc3), (Int.not_lt.mp hc7), hc9⟩))).wk ⟨rfl, trivial⟩
      · replace hP := hP (Decidable.not_not.mp hc9)
        refine im_ld (q := 37) (i := 0) D388_36 rfl rfl rfl ?_
        refine im_gfR (q := 40) (b := 7015) D388_37 (im_fl cn_388 fl_12_201) sf_6952 rfl rfl tR_12_91 rf_6952_91 ?_
        refine im_ld (q := 42) (i := 5) D388_40 rfl rfl rfl ?_
        refine im_rng (j := p5) sf_7015 hg4.1 hg4.2 (fun hr10 => ?_)
        refine im_lald (q := 43) D388_42 sf_7015 hg4.1 hg4.2 (by decide) rfl ?_
        refine im_ld (q := 44) (i := 3) D388_43 rfl rfl rfl ?_
        have hg11 := hP
        refine im_lif (q := 45) (q2 := 48) (t := 54) D388_44 D388_45 rfl hr10 hg11 (fun hc12 => ?_) (fun hc12 => ?_)
        · exact (kJ17  (Or.inr (Or.inr ⟨(Int.not_le.mp hc3), (Int.not_lt.mp hc7), (Decidable.not_not.mp hc9), hc12⟩))).wk ⟨rfl, trivial⟩
        · exact (kJ14  (Or.inr ⟨(Int.not_le.mp hc3), (Int.not_lt.mp hc7), (Decidable.not_not.mp hc9), (Int.not_le.mp hc12)⟩)).wk ⟨rfl, rfl, rfl, rfl, trivial⟩
set_option maxRecDepth 20000 in
set_option maxHeartbeats 4000000 in
theorem b_hasLet_0 {g : im_g} {d : Nat} {e : im_E} {M : im_M} {K : im_K} {p1 : Int} (hd : 1 ≤ d) (hP : im_T g (d - 1) 390 0 [some (.ref 6952), some (vL p1), none, none] [] e M (im_ri (fun x2 e_ M1 => e = e_ ∧ (im_i32 x2) ∧ ((((x2 < (M1 6952 93) → (0 ≤ x2 ∧ x2 < 41) ∧ (im_i64 p1) ∧ (((M1 7017 x2) = p1 → K (.inl (some (vI 1))) e M1))))) ∧ (((((M1 6952 93) ≤ x2)) ∨ ((x2 < (M1 6952 93)) ∧ (¬ (M1 7017 x2) = p1))) → K (.inl (some (vI 0))) e M1))))) : im_T g d 389 0 [some (.ref 6952), some (vL p1), none, none] [] e M K := by
  refine im_ld (q := 1) (i := 0) D389_0 rfl rfl rfl ?_
  refine im_ld (q := 2) (i := 1) D389_1 rfl rfl rfl ?_
  refine im_callV (q := 5) (kd := 1) (y := 390) (n := 1) (ci := 12) (a := 6952) (vs := [.ref 6952, vL p1]) (r := []) (L2 := [some (.ref 6952), some (vL p1), none, none]) D389_2 (im_cal cn_389 cl_12_883) (Or.inl rfl) rfl sf_6952 rfl rfl rfl rfl hd ⟨rfl, rfl, trivial⟩ ?_
  refine hP.mono ?_
  rintro _ e13 M1 ⟨x2, rfl, rfl, hP⟩
  refine im_bkS ?_
  refine im_st1 (q := 6) (i := 3) (L' := [some (.ref 6952), some (vL p1), none, some (vI x2)]) D389_5 (Or.inl ⟨_, rfl, rfl⟩) (Nat.le_of_ble_eq_true rfl) rfl ?_
  refine im_ld (q := 7) (i := 3) D389_6 rfl rfl rfl ?_
  refine im_ld (q := 8) (i := 0) D389_7 rfl rfl rfl ?_
  refine im_rng (j := 93) sf_6952 (by decide) (by decide) (fun hr3 => ?_)
  refine im_gfI (q := 11) D389_8 (im_fl cn_389 fl_12_870) sf_6952 rfl rfl tI_12_93 rfl ?_
  obtain ⟨hg4, hP⟩ := hP
  obtain ⟨hP, hJ10⟩ := hP
  have kJ11 : ((((M1 6952 93) ≤ x2)) ∨ ((x2 < (M1 6952 93)) ∧ (¬ (M1 7017 x2) = p1))) → im_T g d 389 29 [none, none, none, none] [] e M1 K := by
    intro  hx12
    have hP := hJ10  hx12
    refine im_iconst (q := 30) D389_29 ?_
    exact im_zret (q := 31) D389_30 rfl (by decide) hP
  refine im_icmp (q := 14) (t := 29) D389_11 rfl hg4 hr3 (fun hc5 => ?_) (fun hc5 => ?_)
  · exact (kJ11  (Or.inl hc5)).wk trivial
  · replace hP := hP (Int.not_le.mp hc5)
    refine im_ld (q := 15) (i := 0) D389_14 rfl rfl rfl ?_
    refine im_gfR (q := 18) (b := 7017) D389_15 (im_fl cn_389 fl_12_207) sf_6952 rfl rfl tR_12_94 rf_6952_94 ?_
    refine im_ld (q := 19) (i := 3) D389_18 rfl rfl rfl ?_
    obtain ⟨hg6, hP⟩ := hP
    refine im_rng (j := x2) sf_7017 hg6.1 hg6.2 (fun hr7 => ?_)
    refine im_lald (q := 20) D389_19 sf_7017 hg6.1 hg6.2 (by decide) rfl ?_
    refine im_ld (q := 21) (i := 1) D389_20 rfl rfl rfl ?_
    obtain ⟨hg8, hP⟩ := hP
    refine im_lif (q := 22) (q2 := 25) (t := 29) D389_21 D389_22 rfl hr7 hg8 (fun hc9 => ?_) (fun hc9 => ?_)
    · exact (kJ11  (Or.inr ⟨(Int.not_le.mp hc5), hc9⟩)).wk trivial
    · replace hP := hP (Decidable.not_not.mp hc9)
      refine im_iconst (q := 26) D389_25 ?_
      refine im_goto (q := 29) (t := 30) D389_26 rfl ?_
      exact im_zret (q := 31) D389_30 rfl (by decide) hP
set_option maxRecDepth 20000 in
set_option maxHeartbeats 4000000 in
theorem b_letAt_0 {g : im_g} {d : Nat} {e : im_E} {M : im_M} {K : im_K} {p1 : Int} (hP : im_T g d 390 2 [some (.ref 6952), some (vL p1), none, some (vI 0)] [] e M K) : im_T g d 390 0 [some (.ref 6952), some (vL p1), none, none] [] e M K := by
  refine im_iconst (q := 1) D390_0 ?_
  refine im_st1 (q := 2) (i := 3) (L' := [some (.ref 6952), some (vL p1), none, some (vI 0)]) D390_1 (Or.inl ⟨_, rfl, rfl⟩) (Nat.le_of_ble_eq_true rfl) rfl ?_
  exact hP.wk ⟨rfl, rfl, rfl, trivial⟩
set_option maxRecDepth 20000 in
set_option maxHeartbeats 4000000 in
theorem b_letAt_2 {g : im_g} {d : Nat} {e : im_E} {M : im_M} {K : im_K} {p1 p3 : Int} (hP : (im_i32 p3) ∧ ((((p3 < (M 6952 93) → (0 ≤ p3 ∧ p3 < 41) ∧ (im_i64 p1) ∧ (((M 7017 p3) < p1 → im_T g d 390 2 [some (.ref 6952), some (vL p1), none, some (vI (p3 + 1))] [] e M K))))) ∧ (((((M 6952 93) ≤ p3)) ∨ ((p3 < (M 6952 93)) ∧ (p1 ≤ (M 7017 p3)))) → K (.inl (some (vI p3))) e M))) : im_T g d 390 2 [some (.ref 6952), some (vL p1), none, some (vI p3)] [] e M K := by
  refine im_ld (q := 3) (i := 3) D390_2 rfl rfl rfl ?_
  refine im_ld (q := 4) (i := 0) D390_3 rfl rfl rfl ?_
  refine im_rng (j := 93) sf_6952 (by decide) (by decide) (fun hr1 => ?_)
  refine im_gfI (q := 7) D390_4 (im_fl cn_390 fl_12_870) sf_6952 rfl rfl tI_12_93 rfl ?_
  obtain ⟨hg2, hP⟩ := hP
  obtain ⟨hP, hJ8⟩ := hP
  have kJ9 : ((((M 6952 93) ≤ p3)) ∨ ((p3 < (M 6952 93)) ∧ (p1 ≤ (M 7017 p3)))) → im_T g d 390 27 [none, none, none, some (vI p3)] [] e M K := by
    intro  hx10
    have hP := hJ8  hx10
    refine im_ld (q := 28) (i := 3) D390_27 rfl rfl rfl ?_
    exact im_iret (q := 29) D390_28 rfl hP
  refine im_icmp (q := 10) (t := 27) D390_7 rfl hg2 hr1 (fun hc3 => ?_) (fun hc3 => ?_)
  · exact (kJ9  (Or.inl hc3)).wk ⟨rfl, trivial⟩
  · replace hP := hP (Int.not_le.mp hc3)
    refine im_ld (q := 11) (i := 0) D390_10 rfl rfl rfl ?_
    refine im_gfR (q := 14) (b := 7017) D390_11 (im_fl cn_390 fl_12_207) sf_6952 rfl rfl tR_12_94 rf_6952_94 ?_
    refine im_ld (q := 15) (i := 3) D390_14 rfl rfl rfl ?_
    obtain ⟨hg4, hP⟩ := hP
    refine im_rng (j := p3) sf_7017 hg4.1 hg4.2 (fun hr5 => ?_)
    refine im_lald (q := 16) D390_15 sf_7017 hg4.1 hg4.2 (by decide) rfl ?_
    refine im_ld (q := 17) (i := 1) D390_16 rfl rfl rfl ?_
    obtain ⟨hg6, hP⟩ := hP
    refine im_lif (q := 18) (q2 := 21) (t := 27) D390_17 D390_18 rfl hr5 hg6 (fun hc7 => ?_) (fun hc7 => ?_)
    · exact (kJ9  (Or.inr ⟨(Int.not_le.mp hc3), hc7⟩)).wk ⟨rfl, trivial⟩
    · replace hP := hP (Int.not_le.mp hc7)
      refine im_iinc (q := 24) (i := 3) (L' := [some (.ref 6952), some (vL p1), none, some (vI (p3 + 1))]) D390_21 rfl (Nat.le_of_ble_eq_true rfl) rfl ?_
      refine im_goto (q := 27) (t := 2) D390_24 rfl ?_
      exact hP.wk ⟨rfl, rfl, rfl, trivial⟩
set_option maxRecDepth 20000 in
set_option maxHeartbeats 4000000 in
theorem b_result_0 {g : im_g} {d : Nat} {e : im_E} {M : im_M} {K : im_K} {p1 : Int} (hP : (0 ≤ (M 6952 124) ∧ (M 6952 124) < 400) ∧ (im_i32 p1) ∧ (im_i32 ((M 6952 124) + 1)) ∧ K (.inl none) e (im_u (im_u M 7036 (M 6952 124) p1) 6952 124 ((M 6952 124) + 1))) : im_T g d 392 0 [some (.ref 6952), some (vI p1)] [] e M K := by
  refine im_ld (q := 1) (i := 0) D392_0 rfl rfl rfl ?_
  refine im_gfR (q := 4) (b := 7036) D392_1 (im_fl cn_392 fl_12_264) sf_6952 rfl rfl tR_12_123 rf_6952_123 ?_
  refine im_ld (q := 5) (i := 0) D392_4 rfl rfl rfl ?_
  refine im_rng (j := 124) sf_6952 (by decide) (by decide) (fun hr1 => ?_)
  refine im_gfI (q := 8) D392_5 (im_fl cn_392 fl_12_889) sf_6952 rfl rfl tI_12_124 rfl ?_
  refine im_ld (q := 9) (i := 1) D392_8 rfl rfl rfl ?_
  obtain ⟨hg2, hP⟩ := hP
  obtain ⟨hg3, hP⟩ := hP
  refine im_iast (q := 10) D392_9 sf_7036 hg2.1 hg2.2 (by decide) hg3 ?_
  refine im_ld (q := 11) (i := 0) D392_10 rfl rfl rfl ?_
  refine im_dup (q := 12) D392_11 rfl ?_
  refine im_gfI (q := 15) D392_12 (im_fl cn_392 fl_12_889) sf_6952 rfl rfl tI_12_124 (im_rdn _ _ _ _ (by decide)) ?_
  refine im_iconst (q := 16) D392_15 ?_
  refine im_iadd (q := 17) D392_16 ?_
  obtain ⟨hg5, hP⟩ := hP
  refine im_pfI (q := 20) D392_17 (im_fl cn_392 fl_12_889) sf_6952 rfl rfl ti_12_124 hg5 ?_
  exact im_vret (q := 21) D392_20 rfl hP
set_option maxRecDepth 20000 in
set_option maxHeartbeats 4000000 in
theorem b_joined_0 {g : im_g} {d : Nat} {e : im_E} {M : im_M} {K : im_K} {p1 p2 p3 : Int} (hd : 1 ≤ d) (hP : (im_i32 p1) ∧ ((p1 = 24 → im_T g (d - 1) 372 0 [some (.ref 6952), some (vI p2), some (vI p3), some (vI 1), none, none, none, none, none, none, none, none, none] [] e M (im_ri (fun x3 e_ M2 => e = e_ ∧ K (.inl (some (vI x3))) e M2))) ∧ (p1 = 25 → im_T g (d - 1) 372 0 [some (.ref 6952), some (vI p2), some (vI p3), some (vI (-1)), none, none, none, none, none, none, none, none, none] [] e M (im_ri (fun x7 e_ M6 => e = e_ ∧ K (.inl (some (vI x7))) e M6))) ∧ (p1 = 26 → im_T g (d - 1) 395 0 [some (.ref 6952), some (vI p2), some (vI p3), none, none, none, none, none, none, none, none] [] e M (im_ri (fun x11 e_ M10 => e = e_ ∧ K (.inl (some (vI x11))) e M10))) ∧ (p1 = 27 → im_T g (d - 1) 398 0 [some (.ref 6952), some (vI p2), some (vI p3), none, none, none, none, none, none, none] [] e M (im_ri (fun x15 e_ M14 => e = e_ ∧ K (.inl (some (vI x15))) e M14))) ∧ (p1 = 40 → K (.inl (some (vI (p2 * p3)))) e M) ∧ (p1 = 41 → (im_i32 (p2 + p3)) ∧ ((∀ x21 : Int, ((((p2 + p3) ≤ 0) ∧ x21 = 0) ∨ ((0 < (p2 + p3)) ∧ x21 = 1)) → K (.inl (some (vI x21))) e M))) ∧ (p1 = 44 → im_T g (d - 1) 302 0 [some (.ref 6952), some (vI p2), some (vI p3)] [] e M (im_ri (fun x27 e_ M26 => e = e_ ∧ (im_i32 x27) ∧ ((∀ x30 : Int, (((x27 < 0) ∧ x30 = 0) ∨ ((0 ≤ x27) ∧ x30 = 1)) → K (.inl (some (vI x30))) e M26))))) ∧ (p1 = 45 → im_T g (d - 1) 302 0 [some (.ref 6952), some (vI p2), some (vI p3)] [] e M (im_ri (fun x37 e_ M36 => e = e_ ∧ (im_i32 x37) ∧ ((∀ x40 : Int, (((x37 ≤ 0) ∧ x40 = 0) ∨ ((0 < x37) ∧ x40 = 1)) → K (.inl (some (vI x40))) e M36))))) ∧ (p1 = 46 → im_T g (d - 1) 302 0 [some (.ref 6952), some (vI p2), some (vI p3)] [] e M (im_ri (fun x47 e_ M46 => e = e_ ∧ (im_i32 x47) ∧ ((∀ x50 : Int, (((0 < x47) ∧ x50 = 0) ∨ ((x47 ≤ 0) ∧ x50 = 1)) → K (.inl (some (vI x50))) e M46))))) ∧ (p1 = 47 → im_T g (d - 1) 302 0 [some (.ref 6952), some (vI p2), some (vI p3)] [] e M (im_ri (fun x57 e_ M56 => e = e_ ∧ (im_i32 x57) ∧ ((∀ x60 : Int, (((0 ≤ x57) ∧ x60 = 0) ∨ ((x57 < 0) ∧ x60 = 1)) → K (.inl (some (vI x60))) e M56))))) ∧ (p1 < 24 ∨ 47 < p1 ∨ p1 = 28 ∨ p1 = 29 ∨ p1 = 30 ∨ p1 = 31 ∨ p1 = 32 ∨ p1 = 33 ∨ p1 = 34 ∨ p1 = 35 ∨ p1 = 36 ∨ p1 = 37 ∨ p1 = 38 ∨ p1 = 39 ∨ p1 = 42 ∨ p1 = 43 → im_T g (d - 1) 302 0 [some (.ref 6952), some (vI p2), some (vI p3)] [] e M (im_ri (fun x67 e_ M66 => e = e_ ∧ (im_i32 x67) ∧ ((∀ x70 : Int, (((¬ x67 = 0) ∧ x70 = 0) ∨ ((x67 = 0) ∧ x70 = 1)) → K (.inl (some (vI x70))) e M66))))))) : im_T g d 394 0 [some (.ref 6952), some (vI p1), some (vI p2), some (vI p3)] [] e M K := by
  refine im_ld (q := 1) (i := 1) D394_0 rfl rfl rfl ?_
  obtain ⟨hg1, hP⟩ := hP
  by_cases hc5 : p1 = 24
  · refine im_tsw (q := 2) (t := 112) D394_1 hg1 (fun _ => by rcases hc5 with hc5 <;> (rw [hc5]; rfl)) (by rcases hc5 with hc5 <;> (rw [hc5]; rfl)) ?_
    replace hP := hP.1 hc5
    refine im_ld (q := 113) (i := 0) D394_112 rfl rfl rfl ?_
    refine im_ld (q := 114) (i := 2) D394_113 rfl rfl rfl ?_
    refine im_ld (q := 115) (i := 3) D394_114 rfl rfl rfl ?_
    refine im_iconst (q := 116) D394_115 ?_
    refine im_callV (q := 119) (kd := 1) (y := 372) (n := 3) (ci := 12) (a := 6952) (vs := [.ref 6952, vI p2, vI p3, vI 1]) (r := []) (L2 := [some (.ref 6952), some (vI p2), some (vI p3), some (vI 1), none, none, none, none, none, none, none, none, none]) D394_116 (im_cal cn_394 cl_12_914) (Or.inl rfl) rfl sf_6952 rfl rfl rfl rfl hd ⟨rfl, rfl, rfl, rfl, trivial⟩ ?_
    refine hP.mono ?_
    rintro _ e4 M2 ⟨x3, rfl, rfl, hP⟩
    refine im_bkS ?_
    exact im_iret (q := 120) D394_119 rfl hP
  by_cases hc9 : p1 = 25
  · refine im_tsw (q := 2) (t := 120) D394_1 hg1 (fun _ => by rcases hc9 with hc9 <;> (rw [hc9]; rfl)) (by rcases hc9 with hc9 <;> (rw [hc9]; rfl)) ?_
    replace hP := hP.2.1 hc9
    refine im_ld (q := 121) (i := 0) D394_120 rfl rfl rfl ?_
    refine im_ld (q := 122) (i := 2) D394_121 rfl rfl rfl ?_
    refine im_ld (q := 123) (i := 3) D394_122 rfl rfl rfl ?_
    refine im_iconst (q := 124) D394_123 ?_
    refine im_callV (q := 127) (kd := 1) (y := 372) (n := 3) (ci := 12) (a := 6952) (vs := [.ref 6952, vI p2, vI p3, vI (-1)]) (r := []) (L2 := [some (.ref 6952), some (vI p2), some (vI p3), some (vI (-1)), none, none, none, none, none, none, none, none, none]) D394_124 (im_cal cn_394 cl_12_914) (Or.inl rfl) rfl sf_6952 rfl rfl rfl rfl hd ⟨rfl, rfl, rfl, rfl, trivial⟩ ?_
    refine hP.mono ?_
    rintro _ e8 M6 ⟨x7, rfl, rfl, hP⟩
    refine im_bkS ?_
    exact im_iret (q := 128) D394_127 rfl hP
  by_cases hc13 : p1 = 26
  · refine im_tsw (q := 2) (t := 128) D394_1 hg1 (fun _ => by rcases hc13 with hc13 <;> (rw [hc13]; rfl)) (by rcases hc13 with hc13 <;> (rw [hc13]; rfl)) ?_
    replace hP := hP.2.2.1 hc13
    refine im_ld (q := 129) (i := 0) D394_128 rfl rfl rfl ?_
    refine im_ld (q := 130) (i := 2) D394_129 rfl rfl rfl ?_
    refine im_ld (q := 131) (i := 3) D394_130 rfl rfl rfl ?_
    refine im_callV (q := 134) (kd := 1) (y := 395) (n := 2) (ci := 12) (a := 6952) (vs := [.ref 6952, vI p2, vI p3]) (r := []) (L2 := [some (.ref 6952), some (vI p2), some (vI p3), none, none, none, none, none, none, none, none]) D394_131 (im_cal cn_394 cl_12_917) (Or.inl rfl) rfl sf_6952 rfl rfl rfl rfl hd ⟨rfl, rfl, rfl, trivial⟩ ?_
    refine hP.mono ?_
    rintro _ e12 M10 ⟨x11, rfl, rfl, hP⟩
    refine im_bkS ?_
    exact im_iret (q := 135) D394_134 rfl hP
  by_cases hc17 : p1 = 27
  · refine im_tsw (q := 2) (t := 135) D394_1 hg1 (fun _ => by rcases hc17 with hc17 <;> (rw [hc17]; rfl)) (by rcases hc17 with hc17 <;> (rw [hc17]; rfl)) ?_
    replace hP := hP.2.2.2.1 hc17
    refine im_ld (q := 136) (i := 0) D394_135 rfl rfl rfl ?_
    refine im_ld (q := 137) (i := 2) D394_136 rfl rfl rfl ?_
    refine im_ld (q := 138) (i := 3) D394_137 rfl rfl rfl ?_
    refine im_callV (q := 141) (kd := 1) (y := 398) (n := 2) (ci := 12) (a := 6952) (vs := [.ref 6952, vI p2, vI p3]) (r := []) (L2 := [some (.ref 6952), some (vI p2), some (vI p3), none, none, none, none, none, none, none]) D394_138 (im_cal cn_394 cl_12_920) (Or.inl rfl) rfl sf_6952 rfl rfl rfl rfl hd ⟨rfl, rfl, rfl, trivial⟩ ?_
    refine hP.mono ?_
    rintro _ e16 M14 ⟨x15, rfl, rfl, hP⟩
    refine im_bkS ?_
    exact im_iret (q := 142) D394_141 rfl hP
  by_cases hc18 : p1 = 40
  · refine im_tsw (q := 2) (t := 142) D394_1 hg1 (fun _ => by rcases hc18 with hc18 <;> (rw [hc18]; rfl)) (by rcases hc18 with hc18 <;> (rw [hc18]; rfl)) ?_
    replace hP := hP.2.2.2.2.1 hc18
    refine im_ld (q := 143) (i := 2) D394_142 rfl rfl rfl ?_
    refine im_ld (q := 144) (i := 3) D394_143 rfl rfl rfl ?_
    refine im_imul (q := 145) D394_144 ?_
    exact im_iret (q := 146) D394_145 rfl hP
  by_cases hc25 : p1 = 41
  · refine im_tsw (q := 2) (t := 146) D394_1 hg1 (fun _ => by rcases hc25 with hc25 <;> (rw [hc25]; rfl)) (by rcases hc25 with hc25 <;> (rw [hc25]; rfl)) ?_
    replace hP := hP.2.2.2.2.2.1 hc25
    refine im_ld (q := 147) (i := 2) D394_146 rfl rfl rfl ?_
    refine im_ld (q := 148) (i := 3) D394_147 rfl rfl rfl ?_
    refine im_iadd (q := 149) D394_148 ?_
    obtain ⟨hg19, hP⟩ := hP
    have hJ22 := hP
    have kJ23 : ∀ x21 : Int, ((((p2 + p3) ≤ 0) ∧ x21 = 0) ∨ ((0 < (p2 + p3)) ∧ x21 = 1)) → im_T g d 394 157 [none, none, none, none] [vI x21] e M K := by
      intro x21 hx24
      have hP := hJ22 x21 hx24
      exact im_iret (q := 158) D394_157 rfl hP
    refine im_ifc (q := 152) (t := 156) D394_149 rfl hg19 (fun hc20 => ?_) (fun hc20 => ?_)
    · refine im_iconst (q := 157) D394_156 ?_
      exact (kJ23 (0) (Or.inl ⟨hc20, rfl⟩)).wk trivial
    · refine im_iconst (q := 153) D394_152 ?_
      refine im_goto (q := 156) (t := 157) D394_153 rfl ?_
      exact (kJ23 (1) (Or.inr ⟨(Int.not_le.mp hc20), rfl⟩)).wk trivial
  by_cases hc35 : p1 = 44
  · refine im_tsw (q := 2) (t := 158) D394_1 hg1 (fun _ => by rcases hc35 with hc35 <;> (rw [hc35]; rfl)) (by rcases hc35 with hc35 <;> (rw [hc35]; rfl)) ?_
    replace hP := hP.2.2.2.2.2.2.1 hc35
    refine im_ld (q := 159) (i := 0) D394_158 rfl rfl rfl ?_
    refine im_ld (q := 160) (i := 2) D394_159 rfl rfl rfl ?_
    refine im_ld (q := 161) (i := 3) D394_160 rfl rfl rfl ?_
    refine im_callV (q := 164) (kd := 1) (y := 302) (n := 2) (ci := 12) (a := 6952) (vs := [.ref 6952, vI p2, vI p3]) (r := []) (L2 := [some (.ref 6952), some (vI p2), some (vI p3)]) D394_161 (im_cal cn_394 cl_12_674) (Or.inl rfl) rfl sf_6952 rfl rfl rfl rfl hd ⟨rfl, rfl, rfl, trivial⟩ ?_
    refine hP.mono ?_
    rintro _ e34 M26 ⟨x27, rfl, rfl, hP⟩
    refine im_bkS ?_
    obtain ⟨hg28, hP⟩ := hP
    have hJ31 := hP
    have kJ32 : ∀ x30 : Int, (((x27 < 0) ∧ x30 = 0) ∨ ((0 ≤ x27) ∧ x30 = 1)) → im_T g d 394 172 [none, none, none, none] [vI x30] e M26 K := by
      intro x30 hx33
      have hP := hJ31 x30 hx33
      exact im_iret (q := 173) D394_172 rfl hP
    refine im_ifc (q := 167) (t := 171) D394_164 rfl hg28 (fun hc29 => ?_) (fun hc29 => ?_)
    · refine im_iconst (q := 172) D394_171 ?_
      exact (kJ32 (0) (Or.inl ⟨hc29, rfl⟩)).wk trivial
    · refine im_iconst (q := 168) D394_167 ?_
      refine im_goto (q := 171) (t := 172) D394_168 rfl ?_
      exact (kJ32 (1) (Or.inr ⟨(Int.not_lt.mp hc29), rfl⟩)).wk trivial
  by_cases hc45 : p1 = 45
  · refine im_tsw (q := 2) (t := 173) D394_1 hg1 (fun _ => by rcases hc45 with hc45 <;> (rw [hc45]; rfl)) (by rcases hc45 with hc45 <;> (rw [hc45]; rfl)) ?_
    replace hP := hP.2.2.2.2.2.2.2.1 hc45
    refine im_ld (q := 174) (i := 0) D394_173 rfl rfl rfl ?_
    refine im_ld (q := 175) (i := 2) D394_174 rfl rfl rfl ?_
    refine im_ld (q := 176) (i := 3) D394_175 rfl rfl rfl ?_
    refine im_callV (q := 179) (kd := 1) (y := 302) (n := 2) (ci := 12) (a := 6952) (vs := [.ref 6952, vI p2, vI p3]) (r := []) (L2 := [some (.ref 6952), some (vI p2), some (vI p3)]) D394_176 (im_cal cn_394 cl_12_674) (Or.inl rfl) rfl sf_6952 rfl rfl rfl rfl hd ⟨rfl, rfl, rfl, trivial⟩ ?_
    refine hP.mono ?_
    rintro _ e44 M36 ⟨x37, rfl, rfl, hP⟩
    refine im_bkS ?_
    obtain ⟨hg38, hP⟩ := hP
    have hJ41 := hP
    have kJ42 : ∀ x40 : Int, (((x37 ≤ 0) ∧ x40 = 0) ∨ ((0 < x37) ∧ x40 = 1)) → im_T g d 394 187 [none, none, none, none] [vI x40] e M36 K := by
      intro x40 hx43
      have hP := hJ41 x40 hx43
      exact im_iret (q := 188) D394_187 rfl hP
    refine im_ifc (q := 182) (t := 186) D394_179 rfl hg38 (fun hc39 => ?_) (fun hc39 => ?_)
    · refine im_iconst (q := 187) D394_186 ?_
      exact (kJ42 (0) (Or.inl ⟨hc39, rfl⟩)).wk trivial
    · refine im_iconst (q := 183) D394_182 ?_
      refine im_goto (q := 186) (t := 187) D394_183 rfl ?_
      exact (kJ42 (1) (Or.inr ⟨(Int.not_le.mp hc39), rfl⟩)).wk trivial
  by_cases hc55 : p1 = 46
  · refine im_tsw (q := 2) (t := 188) D394_1 hg1 (fun _ => by rcases hc55 with hc55 <;> (rw [hc55]; rfl)) (by rcases hc55 with hc55 <;> (rw [hc55]; rfl)) ?_
    replace hP := hP.2.2.2.2.2.2.2.2.1 hc55
    refine im_ld (q := 189) (i := 0) D394_188 rfl rfl rfl ?_
    refine im_ld (q := 190) (i := 2) D394_189 rfl rfl rfl ?_
    refine im_ld (q := 191) (i := 3) D394_190 rfl rfl rfl ?_
    refine im_callV (q := 194) (kd := 1) (y := 302) (n := 2) (ci := 12) (a := 6952) (vs := [.ref 6952, vI p2, vI p3]) (r := []) (L2 := [some (.ref 6952), some (vI p2), some (vI p3)]) D394_191 (im_cal cn_394 cl_12_674) (Or.inl rfl) rfl sf_6952 rfl rfl rfl rfl hd ⟨rfl, rfl, rfl, trivial⟩ ?_
    refine hP.mono ?_
    rintro _ e54 M46 ⟨x47, rfl, rfl, hP⟩
    refine im_bkS ?_
    obtain ⟨hg48, hP⟩ := hP
    have hJ51 := hP
    have kJ52 : ∀ x50 : Int, (((0 < x47) ∧ x50 = 0) ∨ ((x47 ≤ 0) ∧ x50 = 1)) → im_T g d 394 202 [none, none, none, none] [vI x50] e M46 K := by
      intro x50 hx53
      have hP := hJ51 x50 hx53
      exact im_iret (q := 203) D394_202 rfl hP
    refine im_ifc (q := 197) (t := 201) D394_194 rfl hg48 (fun hc49 => ?_) (fun hc49 => ?_)
    · refine im_iconst (q := 202) D394_201 ?_
      exact (kJ52 (0) (Or.inl ⟨hc49, rfl⟩)).wk trivial
    · refine im_iconst (q := 198) D394_197 ?_
      refine im_goto (q := 201) (t := 202) D394_198 rfl ?_
      exact (kJ52 (1) (Or.inr ⟨(Int.not_lt.mp hc49), rfl⟩)).wk trivial
  by_cases hc65 : p1 = 47
  · refine im_tsw (q := 2) (t := 203) D394_1 hg1 (fun _ => by rcases hc65 with hc65 <;> (rw [hc65]; rfl)) (by rcases hc65 with hc65 <;> (rw [hc65]; rfl)) ?_
    replace hP := hP.2.2.2.2.2.2.2.2.2.1 hc65
    refine im_ld (q := 204) (i := 0) D394_203 rfl rfl rfl ?_
    refine im_ld (q := 205) (i := 2) D394_204 rfl rfl rfl ?_
    refine im_ld (q := 206) (i := 3) D394_205 rfl rfl rfl ?_
    refine im_callV (q := 209) (kd := 1) (y := 302) (n := 2) (ci := 12) (a := 6952) (vs := [.ref 6952, vI p2, vI p3]) (r := []) (L2 := [some (.ref 6952), some (vI p2), some (vI p3)]) D394_206 (im_cal cn_394 cl_12_674) (Or.inl rfl) rfl sf_6952 rfl rfl rfl rfl hd ⟨rfl, rfl, rfl, trivial⟩ ?_
    refine hP.mono ?_
    rintro _ e64 M56 ⟨x57, rfl, rfl, hP⟩
    refine im_bkS ?_
    obtain ⟨hg58, hP⟩ := hP
    have hJ61 := hP
    have kJ62 : ∀ x60 : Int, (((0 ≤ x57) ∧ x60 = 0) ∨ ((x57 < 0) ∧ x60 = 1)) → im_T g d 394 217 [none, none, none, none] [vI x60] e M56 K := by
      intro x60 hx63
      have hP := hJ61 x60 hx63
      exact im_iret (q := 218) D394_217 rfl hP
    refine im_ifc (q := 212) (t := 216) D394_209 rfl hg58 (fun hc59 => ?_) (fun hc59 => ?_)
    · refine im_iconst (q := 217) D394_216 ?_
      exact (kJ62 (0) (Or.inl ⟨hc59, rfl⟩)).wk trivial
    · refine im_iconst (q := 213) D394_212 ?_
      refine im_goto (q := 216) (t := 217) D394_213 rfl ?_
      exact (kJ62 (1) (Or.inr ⟨(Int.not_le.mp hc59), rfl⟩)).wk trivial
  have hd75 : p1 < 24 ∨ 47 < p1 ∨ p1 = 28 ∨ p1 = 29 ∨ p1 = 30 ∨ p1 = 31 ∨ p1 = 32 ∨ p1 = 33 ∨ p1 = 34 ∨ p1 = 35 ∨ p1 = 36 ∨ p1 = 37 ∨ p1 = 38 ∨ p1 = 39 ∨ p1 = 42 ∨ p1 = 43 := by omega
  refine im_tsw (q := 2) (t := 218) D394_1 hg1 ?_ ?_ ?_
  · intro z9
    have z8 : p1 = 28 ∨ p1 = 29 ∨ p1 = 30 ∨ p1 = 31 ∨ p1 = 32 ∨ p1 = 33 ∨ p1 = 34 ∨ p1 = 35 ∨ p1 = 36 ∨ p1 = 37 ∨ p1 = 38 ∨ p1 = 39 ∨ p1 = 42 ∨ p1 = 43 := by omega
    rcases z8 with z8 | z8 | z8 | z8 | z8 | z8 | z8 | z8 | z8 | z8 | z8 | z8 | z8 | z8 <;> (rw [z8]; rfl)
  · rcases hd75 with z8 | z8 | z8 | z8 | z8 | z8 | z8 | z8 | z8 | z8 | z8 | z8 | z8 | z8 | z8 | z8
    · rw [if_pos (Or.inl z8)]; rfl
    · rw [if_pos (Or.inr z8)]; rfl
    · rw [z8]; rfl
    · rw [z8]; rfl
    · rw [z8]; rfl
    · rw [z8]; rfl
    · rw [z8]; rfl
    · rw [z8]; rfl
    · rw [z8]; rfl
    · rw [z8]; rfl
    · rw [z8]; rfl
    · rw [z8]; rfl
    · rw [z8]; rfl
    · rw [z8]; rfl
    · rw [z8]; rfl
    · rw [z8]; rfl
  replace hP := hP.2.2.2.2.2.2.2.2.2.2 hd75
  refine im_ld (q := 219) (i := 0) D394_218 rfl rfl rfl ?_
  refine im_ld (q := 220) (i := 2) D394_219 rfl rfl rfl ?_
  refine im_ld (q := 221) (i := 3) D394_220 rfl rfl rfl ?_
  refine im_callV (q := 224) (kd := 1) (y := 302) (n := 2) (ci := 12) (a := 6952) (vs := [.ref 6952, vI p2, vI p3]) (r := []) (L2 := [some (.ref 6952), some (vI p2), some (vI p3)]) D394_221 (im_cal cn_394 cl_12_674) (Or.inl rfl) rfl sf_6952 rfl rfl rfl rfl hd ⟨rfl, rfl, rfl, trivial⟩ ?_
  refine hP.mono ?_
  rintro _ e74 M66 ⟨x67, rfl, rfl, hP⟩
  refine im_bkS ?_
  obtain ⟨hg68, hP⟩ := hP
  have hJ71 := hP
  have kJ72 : ∀ x70 : Int, (((¬ x67 = 0) ∧ x70 = 0) ∨ ((x67 = 0) ∧ x70 = 1)) → im_T g d 394 232 [none, none, none, none] [vI x70] e M66 K := by
    intro x70 hx73
    have hP := hJ71 x70 hx73
    exact im_iret (q := 233) D394_232 rfl hP
  refine im_ifc (q := 227) (t := 231) D394_224 rfl hg68 (fun hc69 => ?_) (fun hc69 => ?_)
  · refine im_iconst (q := 232) D394_231 ?_
    exact (kJ72 (0) (Or.inl ⟨hc69, rfl⟩)).wk trivial
  · refine im_iconst (q := 228) D394_227 ?_
    refine im_goto (q := 231) (t := 232) D394_228 rfl ?_
    exact (kJ72 (1) (Or.inr ⟨(Decidable.not_not.mp hc69), rfl⟩)).wk trivial
set_option maxRecDepth 20000 in
set_option maxHeartbeats 4000000 in
theorem b_know_0 {g : im_g} {d : Nat} {e : im_E} {M : im_M} {K : im_K} {p1 p2 p3 : Int} (hd : 1 ≤ d) (hP : (im_i32 p1) ∧ (((M 6952 102) = 0 → K (.inl none) e M) ∧ (¬ (M 6952 102) = 0 → im_T g (d - 1) 404 0 [some (.ref 6952), some (vI p1), none, none, none, none] [] e M (im_ri (fun x5 e_ M4 => e = e_ ∧ (im_i32 x5) ∧ ((¬ x5 = 0 → (0 ≤ (p1.tmod 64) ∧ (p1.tmod 64) < 64) ∧ (im_i32 p3) ∧ im_T g d 403 49 [some (.ref 6952), none, some (vI p2), some (vI p3), some (vI (p1.tmod 64)), some (vI 0)] [] e (im_u (im_u (im_u M4 7037 (p1.tmod 64) 1) 7038 (p1.tmod 64) p1) 7039 (p1.tmod 64) p3) K) ∧ (x5 = 0 → K (.inl none) e M4))))))) : im_T g d 403 0 [some (.ref 6952), some (vI p1), some (vI p2), some (vI p3), none, none] [] e M K := by
  refine im_ld (q := 1) (i := 1) D403_0 rfl rfl rfl ?_
  refine im_bipush (q := 3) D403_1 rfl ?_
  obtain ⟨hg1, hP⟩ := hP
  refine im_irem (q := 4) D403_3 hg1 (by decide) (by decide) ?_
  refine im_st1 (q := 6) (i := 4) (L' := [some (.ref 6952), some (vI p1), some (vI p2), some (vI p3), some (vI (p1.tmod 64)), none]) D403_4 (Or.inr rfl) (Nat.le_of_ble_eq_true rfl) rfl ?_
  refine im_ld (q := 7) (i := 0) D403_6 rfl rfl rfl ?_
  refine im_rng (j := 102) sf_6952 (by decide) (by decide) (fun hr2 => ?_)
  refine im_gfI (q := 10) D403_7 (im_fl cn_403 fl_12_941) sf_6952 rfl rfl tI_12_102 rfl ?_
  refine im_ifc (q := 13) (t := 21) D403_10 rfl (im_z32 hr2) (fun hc3 => ?_) (fun hc3 => ?_)
  · replace hP := hP.1 hc3
    exact im_vret (q := 22) D403_21 rfl hP
  · replace hP := hP.2 hc3
    refine im_ld (q := 14) (i := 0) D403_13 rfl rfl rfl ?_
    refine im_ld (q := 15) (i := 1) D403_14 rfl rfl rfl ?_
    refine im_callV (q := 18) (kd := 1) (y := 404) (n := 1) (ci := 12) (a := 6952) (vs := [.ref 6952, vI p1]) (r := []) (L2 := [some (.ref 6952), some (vI p1), none, none, none, none]) D403_15 (im_cal cn_403 cl_12_944) (Or.inl rfl) rfl sf_6952 rfl rfl rfl rfl hd ⟨rfl, rfl, trivial⟩ ?_
    refine hP.mono ?_
    rintro _ e10 M4 ⟨x5, rfl, rfl, hP⟩
    refine im_bkS ?_
    obtain ⟨hg6, hP⟩ := hP
    refine im_ifc (q := 21) (t := 22) D403_18 rfl hg6 (fun hc7 => ?_) (fun hc7 => ?_)
    · replace hP := hP.1 hc7
      refine im_ld (q := 23) (i := 0) D403_22 rfl rfl rfl ?_
      refine im_gfR (q := 26) (b := 7037) D403_23 (im_fl cn_403 fl_12_267) sf_6952 rfl rfl tR_12_125 rf_6952_125 ?_
      refine im_ld (q := 28) (i := 4) D403_26 rfl rfl rfl ?_
      refine im_iconst (q := 29) D403_28 ?_
      obtain ⟨hg8, hP⟩ := hP
      refine im_zast (q := 30) D403_29 sf_7037 hg8.1 hg8.2 (by decide) (by decide) ?_
      refine im_ld (q := 31) (i := 0) D403_30 rfl rfl rfl ?_
      refine im_gfR (q := 34) (b := 7038) D403_31 (im_fl cn_403 fl_12_270) sf_6952 rfl rfl tR_12_126 rf_6952_126 ?_
      refine im_ld (q := 36) (i := 4) D403_34 rfl rfl rfl ?_
      refine im_ld (q := 37) (i := 1) D403_36 rfl rfl rfl ?_
      refine im_iast (q := 38) D403_37 sf_7038 hg8.1 hg8.2 (by decide) hg1 ?_
      refine im_ld (q := 39) (i := 0) D403_38 rfl rfl rfl ?_
      refine im_gfR (q := 42) (b := 7039) D403_39 (im_fl cn_403 fl_12_273) sf_6952 rfl rfl tR_12_127 rf_6952_127 ?_
      refine im_ld (q := 44) (i := 4) D403_42 rfl rfl rfl ?_
      refine im_ld (q := 45) (i := 3) D403_44 rfl rfl rfl ?_
      obtain ⟨hg9, hP⟩ := hP
      refine im_iast (q := 46) D403_45 sf_7039 hg8.1 hg8.2 (by decide) hg9 ?_
      refine im_iconst (q := 47) D403_46 ?_
      refine im_st1 (q := 49) (i := 5) (L' := [some (.ref 6952), some (vI p1), some (vI p2), some (vI p3), some (vI (p1.tmod 64)), some (vI 0)]) D403_47 (Or.inr rfl) (Nat.le_of_ble_eq_true rfl) rfl ?_
      exact hP.wk ⟨rfl, rfl, rfl, rfl, rfl, trivial⟩
    · replace hP := hP.2 (Decidable.not_not.mp hc7)
      exact im_vret (q := 22) D403_21 rfl hP
set_option maxRecDepth 20000 in
set_option maxHeartbeats 4000000 in
theorem b_know_49 {g : im_g} {d : Nat} {e : im_E} {M : im_M} {K : im_K} {p2 p3 p4 p5 : Int} (hP : (im_i32 p5) ∧ (im_i32 p3) ∧ ((p3 ≤ p5 → K (.inl none) e M) ∧ (p5 < p3 → (0 ≤ (p2 + p5) ∧ (p2 + p5) < 1100000) ∧ (0 ≤ ((304 * p4) + p5) ∧ ((304 * p4) + p5) < 19456) ∧ im_T g d 403 49 [some (.ref 6952), none, some (vI p2), some (vI p3), some (vI p4), some (vI (p5 + 1))] [] e (im_u M 7040 ((304 * p4) + p5) (M 6955 (p2 + p5))) K))) : im_T g d 403 49 [some (.ref 6952), none, some (vI p2), some (vI p3), some (vI p4), some (vI p5)] [] e M K := by
  refine im_ld (q := 51) (i := 5) D403_49 rfl rfl rfl ?_
  refine im_ld (q := 52) (i := 3) D403_51 rfl rfl rfl ?_
  obtain ⟨hg1, hP⟩ := hP
  obtain ⟨hg2, hP⟩ := hP
  refine im_icmp (q := 55) (t := 84) D403_52 rfl hg1 hg2 (fun hc3 => ?_) (fun hc3 => ?_)
  · replace hP := hP.1 hc3
    exact im_vret (q := 85) D403_84 rfl hP
  · replace hP := hP.2 (Int.not_le.mp hc3)
    refine im_ld (q := 56) (i := 0) D403_55 rfl rfl rfl ?_
    refine im_gfR (q := 59) (b := 7040) D403_56 (im_fl cn_403 fl_12_276) sf_6952 rfl rfl tR_12_128 rf_6952_128 ?_
    refine im_sipush (q := 62) D403_59 rfl ?_
    refine im_ld (q := 64) (i := 4) D403_62 rfl rfl rfl ?_
    refine im_imul (q := 65) D403_64 ?_
    refine im_ld (q := 67) (i := 5) D403_65 rfl rfl rfl ?_
    refine im_iadd (q := 68) D403_67 ?_
    refine im_ld (q := 69) (i := 0) D403_68 rfl rfl rfl ?_
    refine im_gfR (q := 72) (b := 6955) D403_69 (im_fl cn_403 fl_12_17) sf_6952 rfl rfl tR_12_5 rf_6952_5 ?_
    refine im_ld (q := 73) (i := 2) D403_72 rfl rfl rfl ?_
    refine im_ld (q := 75) (i := 5) D403_73 rfl rfl rfl ?_
    refine im_iadd (q := 76) D403_75 ?_
    obtain ⟨hg4, hP⟩ := hP
    refine im_rng (j := (p2 + p5)) sf_6955 hg4.1 hg4.2 (fun hr5 => ?_)
    refine im_iald (q := 77) D403_76 sf_6955 hg4.1 hg4.2 (by decide) rfl ?_
    obtain ⟨hg6, hP⟩ := hP
    refine im_iast (q := 78) D403_77 sf_7040 hg6.1 hg6.2 (by decide) hr5 ?_
    refine im_iinc (q := 81) (i := 5) (L' := [some (.ref 6952), none, some (vI p2), some (vI p3), some (vI p4), some (vI (p5 + 1))]) D403_78 rfl (Nat.le_of_ble_eq_true rfl) rfl ?_
    refine im_goto (q := 84) (t := 49) D403_81 rfl ?_
    exact hP.wk ⟨rfl, rfl, rfl, rfl, rfl, trivial⟩
set_option maxRecDepth 20000 in
set_option maxHeartbeats 4000000 in
theorem b_isSteady_0 {g : im_g} {d : Nat} {e : im_E} {M : im_M} {K : im_K} {p1 : Int} (hP : (im_i32 p1) ∧ im_T g d 404 11 [some (.ref 6952), none, some (vI 1), some (vI 1), none, none] [] e (im_u M 7041 0 p1) K) : im_T g d 404 0 [some (.ref 6952), some (vI p1), none, none, none, none] [] e M K := by
  refine im_iconst (q := 1) D404_0 ?_
  refine im_st1 (q := 2) (i := 2) (L' := [some (.ref 6952), some (vI p1), some (vI 1), none, none, none]) D404_1 (Or.inl ⟨_, rfl, rfl⟩) (Nat.le_of_ble_eq_true rfl) rfl ?_
  refine im_ld (q := 3) (i := 0) D404_2 rfl rfl rfl ?_
  refine im_gfR (q := 6) (b := 7041) D404_3 (im_fl cn_404 fl_12_279) sf_6952 rfl rfl tR_12_129 rf_6952_129 ?_
  refine im_iconst (q := 7) D404_6 ?_
  refine im_ld (q := 8) (i := 1) D404_7 rfl rfl rfl ?_
  obtain ⟨hg1, hP⟩ := hP
  refine im_iast (q := 9) D404_8 sf_7041 (by decide) (by decide) (by decide) hg1 ?_
  refine im_iconst (q := 10) D404_9 ?_
  refine im_st1 (q := 11) (i := 3) (L' := [some (.ref 6952), some (vI p1), some (vI 1), some (vI 1), none, none]) D404_10 (Or.inl ⟨_, rfl, rfl⟩) (Nat.le_of_ble_eq_true rfl) rfl ?_
  exact hP.wk ⟨rfl, rfl, rfl, trivial⟩
set_option maxRecDepth 20000 in
set_option maxHeartbeats 4000000 in
theorem b_isSteady_11 {g : im_g} {d : Nat} {e : im_E} {M : im_M} {K : im_K} {p2 p3 : Int} (hd : 1 ≤ d) (hP : (im_i32 p2) ∧ ((((0 < p2 → (im_i32 p3) ∧ ((¬ p3 = 0 → (0 ≤ (p2 + (-1)) ∧ (p2 + (-1)) < 6000) ∧ (0 ≤ (M 7041 (p2 + (-1))) ∧ (M 7041 (p2 + (-1))) < 5100) ∧ im_T g (d - 1) 383 0 [some (vI (M 6960 (M 7041 (p2 + (-1))))), none] [] e M (im_ri (fun x14 e_ M13 => e = e_ ∧ (im_i32 x14) ∧ ((((x14 = 0 → ((((¬ (M 6960 (M 7041 (p2 + (-1)))) = 23 → ((¬ (M 6960 (M 7041 (p2 + (-1)))) = 42 → (0 ≤ ((p2 + (-1)) + 1) ∧ ((p2 + (-1)) + 1) < 6000) ∧ ((¬ (M 6960 (M 7041 (p2 + (-1)))) = 32 → im_T g d 404 11 [some (.ref 6952), none, some (vI (((p2 + (-1)) + 1) + 1)), some (vI p3), none, none] [] e (im_u (im_u M13 7041 (p2 + (-1)) (M13 6964 (M 7041 (p2 + (-1))))) 7041 ((p2 + (-1)) + 1) (M13 6965 (M 7041 (p2 + (-1))))) K) ∧ ((M 6960 (M 7041 (p2 + (-1)))) = 32 → (0 ≤ (((p2 + (-1)) + 1) + 1) ∧ (((p2 + (-1)) + 1) + 1) < 6000) ∧ im_T g d 404 11 [some (.ref 6952), none, some (vI ((((p2 + (-1)) + 1) + 1) + 1)), some (vI p3), none, none] [] e (im_u (im_u (im_u M13 7041 (p2 + (-1)) (M13 6964 (M 7041 (p2 + (-1))))) 7041 ((p2 + (-1)) + 1) (M13 6965 (M 7041 (p2 + (-1))))) 7041 (((p2 + (-1)) + 1) + 1) (M13 6966 (M 7041 (p2 + (-1))))) K))))))) ∧ (((((M 6960 (M 7041 (p2 + (-1)))) = 23)) ∨ ((¬ (M 6960 (M 7041 (p2 + (-1)))) = 23) ∧ ((M 6960 (M 7041 (p2 + (-1)))) = 42))) → ((¬ (M 6960 (M 7041 (p2 + (-1)))) = 32 → im_T g d 404 11 [some (.ref 6952), none, some (vI ((p2 + (-1)) + 1)), some (vI p3), none, none] [] e (im_u M13 7041 (p2 + (-1)) (M13 6964 (M 7041 (p2 + (-1))))) K) ∧ ((M 6960 (M 7041 (p2 + (-1)))) = 32 → (0 ≤ ((p2 + (-1)) + 1) ∧ ((p2 + (-1)) + 1) < 6000) ∧ im_T g d 404 11 [some (.ref 6952), none, some (vI (((p2 + (-1)) + 1) + 1)), some (vI p3), none, none] [] e (im_u (im_u M13 7041 (p2 + (-1)) (M13 6964 (M 7041 (p2 + (-1))))) 7041 ((p2 + (-1)) + 1) (M13 6966 (M 7041 (p2 + (-1))))) K))))) ∧ (¬ x14 = 0 → ((¬ (M 6960 (M 7041 (p2 + (-1)))) = 20 → ((¬ (M 6960 (M 7041 (p2 + (-1)))) = 21 → ((¬ (M 6960 (M 7041 (p2 + (-1)))) = 49 → ((¬ (M 6960 (M 7041 (p2 + (-1)))) = 50 → im_T g d 404 11 [some (.ref 6952), none, some (vI (p2 + (-1))), some (vI 0), none, none] [] e M13 K))))))))))) ∧ ((((¬ x14 = 0) ∧ ((M 6960 (M 7041 (p2 + (-1)))) = 20)) ∨ ((¬ x14 = 0) ∧ (¬ (M 6960 (M 7041 (p2 + (-1)))) = 20) ∧ ((M 6960 (M 7041 (p2 + (-1)))) = 21)) ∨ ((¬ x14 = 0) ∧ (¬ (M 6960 (M 7041 (p2 + (-1)))) = 20) ∧ (¬ (M 6960 (M 7041 (p2 + (-1)))) = 21) ∧ ((M 6960 (M 7041 (p2 + (-1)))) = 49)) ∨ ((¬ x14 = 0) ∧ (¬ (M 6960 (M 7041 (p2 + (-1)))) = 20) ∧ (¬ (M 6960 (M 7041 (p2 + (-1)))) = 21) ∧ (¬ (M 6960 (M 7041 (p2 + (-1)))) = 49) ∧ ((M 6960 (M 7041 (p2 + (-1)))) = 50))) → im_T g d 404 11 [some (.ref 6952), none, some (vI (p2 + (-1))), some (vI 1), none, none] [] e M13 K))))))))) ∧ ((((p2 ≤ 0)) ∨ ((0 < p2) ∧ (p3 = 0))) → (0 ≤ p3 ∧ p3 ≤ 1) ∧ K (.inl (some (vI p3))) e M))) : im_T g d 404 11 [some (.ref 6952), none, some (vI p2), some (vI p3), none, none] [] e M K := by
  refine im_ld (q := 12) (i := 2) D404_11 rfl rfl rfl ?_
  obtain ⟨hg1, hP⟩ := hP
  obtain ⟨hP, hJ5⟩ := hP
  have kJ6 : (((p2 ≤ 0)) ∨ ((0 < p2) ∧ (p3 = 0))) → im_T g d 404 156 [none, none, none, some (vI p3), none, none] [] e M K := by
    intro  hx7
    have hP := hJ5  hx7
    refine im_ld (q := 157) (i := 3) D404_156 rfl rfl rfl ?_
    obtain ⟨hg8, hP⟩ := hP
    exact im_zret (q := 158) D404_157 rfl hg8 hP
  refine im_ifc (q := 15) (t := 156) D404_12 rfl hg1 (fun hc2 => ?_) (fun hc2 => ?_)
  · exact (kJ6  (Or.inl hc2)).wk ⟨rfl, trivial⟩
  · replace hP := hP (Int.not_le.mp hc2)
    refine im_ld (q := 16) (i := 3) D404_15 rfl rfl rfl ?_
    obtain ⟨hg3, hP⟩ := hP
    refine im_ifc (q := 19) (t := 156) D404_16 rfl hg3 (fun hc4 => ?_) (fun hc4 => ?_)
    · exact (kJ6  (Or.inr ⟨(Int.not_le.mp hc2), hc4⟩)).wk ⟨rfl, trivial⟩
    · replace hP := hP hc4
      refine im_iinc (q := 22) (i := 2) (L' := [some (.ref 6952), none, some (vI (p2 + (-1))), some (vI p3), none, none]) D404_19 rfl (Nat.le_of_ble_eq_true rfl) rfl ?_
      refine im_ld (q := 23) (i := 0) D404_22 rfl rfl rfl ?_
      refine im_gfR (q := 26) (b := 7041) D404_23 (im_fl cn_404 fl_12_279) sf_6952 rfl rfl tR_12_129 rf_6952_129 ?_
      refine im_ld (q := 27) (i := 2) D404_26 rfl rfl rfl ?_
      obtain ⟨hg9, hP⟩ := hP
      refine im_rng (j := (p2 + (-1))) sf_7041 hg9.1 hg9.2 (fun hr10 => ?_)
      refine im_iald (q := 28) D404_27 sf_7041 hg9.1 hg9.2 (by decide) rfl ?_
      refine im_st1 (q := 30) (i := 4) (L' := [some (.ref 6952), none, some (vI (p2 + (-1))), some (vI p3), some (vI (M 7041 (p2 + (-1)))), none]) D404_28 (Or.inr rfl) (Nat.le_of_ble_eq_true rfl) rfl ?_
      refine im_ld (q := 31) (i := 0) D404_30 rfl rfl rfl ?_
      refine im_gfR (q := 34) (b := 6960) D404_31 (im_fl cn_404 fl_12_33) sf_6952 rfl rfl tR_12_21 rf_6952_21 ?_
      refine im_ld (q := 36) (i := 4) D404_34 rfl rfl rfl ?_
      obtain ⟨hg11, hP⟩ := hP
      refine im_rng (j := (M 7041 (p2 + (-1)))) sf_6960 hg11.1 hg11.2 (fun hr12 => ?_)
      refine im_iald (q := 37) D404_36 sf_6960 hg11.1 hg11.2 (by decide) rfl ?_
      refine im_st1 (q := 39) (i := 5) (L' := [some (.ref 6952), none, some (vI (p2 + (-1))), some (vI p3), some (vI (M 7041 (p2 + (-1)))), some (vI (M 6960 (M 7041 (p2 + (-1)))))]) D404_37 (Or.inr rfl) (Nat.le_of_ble_eq_true rfl) rfl ?_
      refine im_ld (q := 41) (i := 5) D404_39 rfl rfl rfl ?_
      refine im_callS (q := 44) (kd := 0) (y := 383) (n := 1) (z := 12) (vs := [vI (M 6960 (M 7041 (p2 + (-1))))]) (r := []) (L2 := [some (vI (M 6960 (M 7041 (p2 + (-1))))), none]) D404_41 rfl (im_cal cn_404 cl_12_923) (Or.inl rfl) rfl rfl rfl rfl rfl hd ⟨rfl, trivial⟩ ?_
      refine hP.mono ?_
      rintro _ e38 M13 ⟨x14, rfl, rfl, hP⟩
      refine im_bkS ?_
      obtain ⟨hg15, hP⟩ := hP
      obtain ⟨hP, hJ22⟩ := hP
      have kJ23 : (((¬ x14 = 0) ∧ ((M 6960 (M 7041 (p2 + (-1)))) = 20)) ∨ ((¬ x14 = 0) ∧ (¬ (M 6960 (M 7041 (p2 + (-1)))) = 20) ∧ ((M 6960 (M 7041 (p2 + (-1)))) = 21)) ∨ ((¬ x14 = 0) ∧ (¬ (M 6960 (M 7041 (p2 + (-1)))) = 20) ∧ (¬ (M 6960 (M 7041 (p2 + (-1)))) = 21) ∧ ((M 6960 (M 7041 (p2 + (-1)))) = 49)) ∨ ((¬ x14 = 0) ∧ (¬ (M 6960 (M 7041 (p2 + (-1)))) = 20) ∧ (¬ (M 6960 (M 7041 (p2 + (-1)))) = 21) ∧ (¬ (M 6960 (M 7041 (p2 + (-1)))) = 49) ∧ ((M 6960 (M 7041 (p2 + (-1)))) = 50))) → im_T g d 404 75 [some (.ref 6952), none, some (vI (p2 + (-1))), none, none, none] [] e M13 K := by
        intro  hx24
        have hP := hJ22  hx24
        refine im_iconst (q := 76) D404_75 ?_
        refine im_goto (q := 79) (t := 80) D404_76 rfl ?_
        refine im_st1 (q := 81) (i := 3) (L' := [some (.ref 6952), none, some (vI (p2 + (-1))), some (vI 1), none, none]) D404_80 (Or.inl ⟨_, rfl, rfl⟩) (Nat.le_of_ble_eq_true rfl) rfl ?_
        refine im_goto (q := 84) (t := 153) D404_81 rfl ?_
        refine im_goto (q := 156) (t := 11) D404_153 rfl ?_
        exact hP.wk ⟨rfl, rfl, rfl, trivial⟩
      refine im_ifc (q := 47) (t := 84) D404_44 rfl hg15 (fun hc16 => ?_) (fun hc16 => ?_)
      · replace hP := hP.1 hc16
        refine im_ld (q := 85) (i := 0) D404_84 rfl rfl rfl ?_
        refine im_gfR (q := 88) (b := 7041) D404_85 (im_fl cn_404 fl_12_279) sf_6952 rfl rfl tR_12_129 rf_6952_129 ?_
        refine im_ld (q := 89) (i := 2) D404_88 rfl rfl rfl ?_
        refine im_ld (q := 90) (i := 0) D404_89 rfl rfl rfl ?_
        refine im_gfR (q := 93) (b := 6964) D404_90 (im_fl cn_404 fl_12_45) sf_6952 rfl rfl tR_12_25 rf_6952_25 ?_
        refine im_ld (q := 95) (i := 4) D404_93 rfl rfl rfl ?_
        refine im_rng (j := (M 7041 (p2 + (-1)))) sf_6964 hg11.1 hg11.2 (fun hr17 => ?_)
        refine im_iald (q := 96) D404_95 sf_6964 hg11.1 hg11.2 (by decide) rfl ?_
        refine im_iast (q := 97) D404_96 sf_7041 hg9.1 hg9.2 (by decide) hr17 ?_
        refine im_iinc (q := 100) (i := 2) (L' := [some (.ref 6952), none, some (vI ((p2 + (-1)) + 1)), some (vI p3), some (vI (M 7041 (p2 + (-1)))), some (vI (M 6960 (M 7041 (p2 + (-1)))))]) D404_97 rfl (Nat.le_of_ble_eq_true rfl) rfl ?_
        refine im_ld (q := 102) (i := 5) D404_100 rfl rfl rfl ?_
        refine im_bipush (q := 104) D404_102 rfl ?_
        obtain ⟨hP, hJ28⟩ := hP
        have kJ29 : ((((M 6960 (M 7041 (p2 + (-1)))) = 23)) ∨ ((¬ (M 6960 (M 7041 (p2 + (-1)))) = 23) ∧ ((M 6960 (M 7041 (p2 + (-1)))) = 42))) → im_T g d 404 130 [some (.ref 6952), none, some (vI ((p2 + (-1)) + 1)), some (vI p3), some (vI (M 7041 (p2 + (-1)))), some (vI (M 6960 (M 7041 (p2 + (-1)))))] [] e (im_u M13 7041 (p2 + (-1)) (M13 6964 (M 7041 (p2 + (-1))))) K := by
          intro  hx30
          have hP := hJ28  hx30
          refine im_ld (q := 132) (i := 5) D404_130 rfl rfl rfl ?_
          refine im_bipush (q := 134) D404_132 rfl ?_
          refine im_icmp (q := 137) (t := 153) D404_134 rfl hr12 (by decide) (fun hc31 => ?_) (fun hc31 => ?_)
          · replace hP := hP.1 hc31
            refine im_goto (q := 156) (t := 11) D404_153 rfl ?_
            exact hP.wk ⟨rfl, rfl, rfl, trivial⟩
          · replace hP := hP.2 (Decidable.not_not.mp hc31)
            refine im_ld (q := 138) (i := 0) D404_137 rfl rfl rfl ?_
            refine im_gfR (q := 141) (b := 7041) D404_138 (im_fl cn_404 fl_12_279) sf_6952 rfl rfl tR_12_129 rf_6952_129 ?_
            refine im_ld (q := 142) (i := 2) D404_141 rfl rfl rfl ?_
            refine im_ld (q := 143) (i := 0) D404_142 rfl rfl rfl ?_
            refine im_gfR (q := 146) (b := 6966) D404_143 (im_fl cn_404 fl_12_51) sf_6952 rfl rfl tR_12_27 rf_6952_27 ?_
            refine im_ld (q := 148) (i := 4) D404_146 rfl rfl rfl ?_
            refine im_rng (j := (M 7041 (p2 + (-1)))) sf_6966 hg11.1 hg11.2 (fun hr32 => ?_)
            refine im_iald (q := 149) D404_148 sf_6966 hg11.1 hg11.2 (by decide) (im_rdn _ _ _ _ (by decide)) ?_
            obtain ⟨hg33, hP⟩ := hP
            refine im_iast (q := 150) D404_149 sf_7041 hg33.1 hg33.2 (by decide) (im_rgc hr32 (im_rdn _ _ _ _ (by decide))) ?_
            refine im_iinc (q := 153) (i := 2) (L' := [some (.ref 6952), none, some (vI (((p2 + (-1)) + 1) + 1)), some (vI p3), some (vI (M 7041 (p2 + (-1)))), some (vI (M 6960 (M 7041 (p2 + (-1)))))]) D404_150 rfl (Nat.le_of_ble_eq_true rfl) rfl ?_
            refine im_goto (q := 156) (t := 11) D404_153 rfl ?_
            exact hP.wk ⟨rfl, rfl, rfl, trivial⟩
        refine im_icmp (q := 107) (t := 130) D404_104 rfl hr12 (by decide) (fun hc25 => ?_) (fun hc25 => ?_)
        · exact (kJ29  (Or.inl hc25)).wk ⟨rfl, rfl, rfl, rfl, rfl, trivial⟩
        · replace hP := hP hc25
          refine im_ld (q := 109) (i := 5) D404_107 rfl rfl rfl ?_
          refine im_bipush (q := 111) D404_109 rfl ?_
          refine im_icmp (q := 114) (t := 130) D404_111 rfl hr12 (by decide) (fun hc26 => ?_) (fun hc26 => ?_)
          · exact (kJ29  (Or.inr ⟨hc25, hc26⟩)).wk ⟨rfl, rfl, rfl, rfl, rfl, trivial⟩
          · replace hP := hP hc26
            refine im_ld (q := 115) (i := 0) D404_114 rfl rfl rfl ?_
            refine im_gfR (q := 118) (b := 7041) D404_115 (im_fl cn_404 fl_12_279) sf_6952 rfl rfl tR_12_129 rf_6952_129 ?_
            refine im_ld (q := 119) (i := 2) D404_118 rfl rfl rfl ?_
            refine im_ld (q := 120) (i := 0) D404_119 rfl rfl rfl ?_
            refine im_gfR (q := 123) (b := 6965) D404_120 (im_fl cn_404 fl_12_48) sf_6952 rfl rfl tR_12_26 rf_6952_26 ?_
            refine im_ld (q := 125) (i := 4) D404_123 rfl rfl rfl ?_
            refine im_rng (j := (M 7041 (p2 + (-1)))) sf_6965 hg11.1 hg11.2 (fun hr27 => ?_)
            refine im_iald (q := 126) D404_125 sf_6965 hg11.1 hg11.2 (by decide) (im_rdn _ _ _ _ (by decide)) ?_
            obtain ⟨hg34, hP⟩ := hP
            refine im_iast (q := 127) D404_126 sf_7041 hg34.1 hg34.2 (by decide) (im_rgc hr27 (im_rdn _ _ _ _ (by decide))) ?_
            refine im_iinc (q := 130) (i := 2) (L' := [some (.ref 6952), none, some (vI (((p2 + (-1)) + 1) + 1)), some (vI p3), some (vI (M 7041 (p2 + (-1)))), some (vI (M 6960 (M 7041 (p2 + (-1)))))]) D404_127 rfl (Nat.le_of_ble_eq_true rfl) rfl ?_
            refine im_ld (q := 132) (i := 5) D404_130 rfl rfl rfl ?_
            refine im_bipush (q := 134) D404_132 rfl ?_
            refine im_icmp (q := 137) (t := 153) D404_134 rfl hr12 (by decide) (fun hc35 => ?_) (fun hc35 => ?_)
            · replace hP := hP.1 hc35
              refine im_goto (q := 156) (t := 11) D404_153 rfl ?_
              exact hP.wk ⟨rfl, rfl, rfl, trivial⟩
            · replace hP := hP.2 (Decidable.not_not.mp hc35)
              refine im_ld (q := 138) (i := 0) D404_137 rfl rfl rfl ?_
              refine im_gfR (q := 141) (b := 7041) D404_138 (im_fl cn_404 fl_12_279) sf_6952 rfl rfl tR_12_129 rf_6952_129 ?_
              refine im_ld (q := 142) (i := 2) D404_141 rfl rfl rfl ?_
              refine im_ld (q := 143) (i := 0) D404_142 rfl rfl rfl ?_
              refine im_gfR (q := 146) (b := 6966) D404_143 (im_fl cn_404 fl_12_51) sf_6952 rfl rfl tR_12_27 rf_6952_27 ?_
              refine im_ld (q := 148) (i := 4) D404_146 rfl rfl rfl ?_
              refine im_rng (j := (M 7041 (p2 + (-1)))) sf_6966 hg11.1 hg11.2 (fun hr36 => ?_)
              refine im_iald (q := 149) D404_148 sf_6966 hg11.1 hg11.2 (by decide) ((im_rdn _ _ _ _ (by decide)).trans (im_rdn _ _ _ _ (by decide))) ?_
              obtain ⟨hg37, hP⟩ := hP
              refine im_iast (q := 150) D404_149 sf_7041 hg37.1 hg37.2 (by decide) (im_rgc hr36 ((im_rdn _ _ _ _ (by decide)).trans (im_rdn _ _ _ _ (by decide)))) ?_
              refine im_iinc (q := 153) (i := 2) (L' := [some (.ref 6952), none, some (vI ((((p2 + (-1)) + 1) + 1) + 1)), some (vI p3), some (vI (M 7041 (p2 + (-1)))), some (vI (M 6960 (M 7041 (p2 + (-1)))))]) D404_150 rfl (Nat.le_of_ble_eq_true rfl) rfl ?_
              refine im_goto (q := 156) (t := 11) D404_153 rfl ?_
              exact hP.wk ⟨rfl, rfl, rfl, trivial⟩
      · replace hP := hP.2 hc16
        refine im_ld (q := 49) (i := 5) D404_47 rfl rfl rfl ?_
        refine im_bipush (q := 51) D404_49 rfl ?_
        refine im_icmp (q := 54) (t := 75) D404_51 rfl hr12 (by decide) (fun hc18 => ?_) (fun hc18 => ?_)
        · exact (kJ23  (Or.inl ⟨hc16, hc18⟩)).wk ⟨rfl, rfl, trivial⟩
        · replace hP := hP hc18
          refine im_ld (q := 56) (i := 5) D404_54 rfl rfl rfl ?_
          refine im_bipush (q := 58) D404_56 rfl ?_
          refine im_icmp (q := 61) (t := 75) D404_58 rfl hr12 (by decide) (fun hc19 => ?_) (fun hc19 => ?_)
          · exact (kJ23  (Or.inr (Or.inl ⟨hc16, hc18, hc19⟩))).wk ⟨rfl, rfl, trivial⟩
          · replace hP := hP hc19
            refine im_ld (q := 63) (i := 5) D404_61 rfl rfl rfl ?_
            refine im_bipush (q := 65) D404_63 rfl ?_
            refine im_icmp (q := 68) (t := 75) D404_65 rfl hr12 (by decide) (fun hc20 => ?_) (fun hc20 => ?_)
            · exact (kJ23  (Or.inr (Or.inr (Or.inl ⟨hc16, hc18, hc19, hc20⟩)))).wk ⟨rfl, rfl, trivial⟩
            · replace hP := hP hc20
              refine im_ld (q := 70) (i := 5) D404_68 rfl rfl rfl ?_
              refine im_bipush (q := 72) D404_70 rfl ?_
              refine im_icmp (q := 75) (t := 79) D404_72 rfl hr12 (by decide) (fun hc21 => ?_) (fun hc21 => ?_)
              · replace hP := hP hc21
                refine im_iconst (q := 80) D404_79 ?_
                refine im_st1 (q := 81) (i := 3) (L' := [some (.ref 6952), none, some (vI (p2 + (-1))), some (vI 0), some (vI (M 7041 (p2 + (-1)))), some (vI (M 6960 (M 7041 (p2 + (-1)))))]) D404_80 (Or.inl ⟨_, rfl, rfl⟩) (Nat.le_of_ble_eq_true rfl) rfl ?_
                refine im_goto (q := 84) (t := 153) D404_81 rfl ?_
                refine im_goto (q := 156) (t := 11) D404_153 rfl ?_
                exact hP.wk ⟨rfl, rfl, rfl, trivial⟩
              · exact (kJ23  (Or.inr (Or.inr (Or.inr ⟨hc16, hc18, hc19, hc20, (Decidable.not_not.mp hc21)⟩)))).wk ⟨rfl, rfl, trivial⟩
set_option maxRecDepth 20000 in
set_option maxHeartbeats 4000000 in
theorem b_warn_0 {g : im_g} {d : Nat} {e : im_E} {M : im_M} {K : im_K} {p1 p2 p4 p6 p8 : Int} (hd : 1 ≤ d) (hP : ((¬ (M 6952 110) = 60 → (0 ≤ (M 6952 110) ∧ (M 6952 110) < 60) ∧ (im_i32 p1) ∧ (im_i64 p2) ∧ (im_i64 p4) ∧ (im_i64 p6) ∧ (im_i32 p8) ∧ (im_i32 ((M 6952 110) + 1)) ∧ K (.inl none) e (im_u (im_u (im_u (im_u (im_u (im_u M 7026 (M 6952 110) p1) 7027 (M 6952 110) p2) 7028 (M 6952 110) p4) 7029 (M 6952 110) p6) 7030 (M 6952 110) p8) 6952 110 ((M 6952 110) + 1))) ∧ ((M 6952 110) = 60 → im_T g (d - 1) 368 0 [some (.ref 6952), some (vI (-9))] [] e M (im_r0 (fun  e_ M16 => e = e_ ∧ K (.inl none) e M16))))) : im_T g d 405 0 [some (.ref 6952), some (vI p1), some (vL p2), none, some (vL p4), none, some (vL p6), none, some (vI p8)] [] e M K := by
  refine im_ld (q := 1) (i := 0) D405_0 rfl rfl rfl ?_
  refine im_rng (j := 110) sf_6952 (by decide) (by decide) (fun hr1 => ?_)
  refine im_gfI (q := 4) D405_1 (im_fl cn_405 fl_12_981) sf_6952 rfl rfl tI_12_110 rfl ?_
  refine im_bipush (q := 6) D405_4 rfl ?_
  refine im_icmp (q := 9) (t := 16) D405_6 rfl hr1 (by decide) (fun hc2 => ?_) (fun hc2 => ?_)
  · replace hP := hP.1 hc2
    refine im_ld (q := 17) (i := 0) D405_16 rfl rfl rfl ?_
    refine im_gfR (q := 20) (b := 7026) D405_17 (im_fl cn_405 fl_12_234) sf_6952 rfl rfl tR_12_111 rf_6952_111 ?_
    refine im_ld (q := 21) (i := 0) D405_20 rfl rfl rfl ?_
    refine im_gfI (q := 24) D405_21 (im_fl cn_405 fl_12_981) sf_6952 rfl rfl tI_12_110 rfl ?_
    refine im_ld (q := 25) (i := 1) D405_24 rfl rfl rfl ?_
    obtain ⟨hg4, hP⟩ := hP
    obtain ⟨hg5, hP⟩ := hP
    refine im_iast (q := 26) D405_25 sf_7026 hg4.1 hg4.2 (by decide) hg5 ?_
    refine im_ld (q := 27) (i := 0) D405_26 rfl rfl rfl ?_
    refine im_gfR (q := 30) (b := 7027) D405_27 (im_fl cn_405 fl_12_237) sf_6952 rfl rfl tR_12_112 rf_6952_112 ?_
    refine im_ld (q := 31) (i := 0) D405_30 rfl rfl rfl ?_
    refine im_gfI (q := 34) D405_31 (im_fl cn_405 fl_12_981) sf_6952 rfl rfl tI_12_110 (im_rdn _ _ _ _ (by decide)) ?_
    refine im_ld (q := 35) (i := 2) D405_34 rfl rfl rfl ?_
    obtain ⟨hg7, hP⟩ := hP
    refine im_last (q := 36) D405_35 sf_7027 hg4.1 hg4.2 (by decide) hg7 ?_
    refine im_ld (q := 37) (i := 0) D405_36 rfl rfl rfl ?_
    refine im_gfR (q := 40) (b := 7028) D405_37 (im_fl cn_405 fl_12_240) sf_6952 rfl rfl tR_12_113 rf_6952_113 ?_
    refine im_ld (q := 41) (i := 0) D405_40 rfl rfl rfl ?_
    refine im_gfI (q := 44) D405_41 (im_fl cn_405 fl_12_981) sf_6952 rfl rfl tI_12_110 ((im_rdn _ _ _ _ (by decide)).trans (im_rdn _ _ _ _ (by decide))) ?_
    refine im_ld (q := 46) (i := 4) D405_44 rfl rfl rfl ?_
    obtain ⟨hg9, hP⟩ := hP
    refine im_last (q := 47) D405_46 sf_7028 hg4.1 hg4.2 (by decide) hg9 ?_
    refine im_ld (q := 48) (i := 0) D405_47 rfl rfl rfl ?_
    refine im_gfR (q := 51) (b := 7029) D405_48 (im_fl cn_405 fl_12_243) sf_6952 rfl rfl tR_12_114 rf_6952_114 ?_
    refine im_ld (q := 52) (i := 0) D405_51 rfl rfl rfl ?_
    refine im_gfI (q := 55) D405_52 (im_fl cn_405 fl_12_981) sf_6952 rfl rfl tI_12_110 ((im_rdn _ _ _ _ (by decide)).trans ((im_rdn _ _ _ _ (by decide)).trans (im_rdn _ _ _ _ (by decide)))) ?_
    refine im_ld (q := 57) (i := 6) D405_55 rfl rfl rfl ?_
    obtain ⟨hg11, hP⟩ := hP
    refine im_last (q := 58) D405_57 sf_7029 hg4.1 hg4.2 (by decide) hg11 ?_
    refine im_ld (q := 59) (i := 0) D405_58 rfl rfl rfl ?_
    refine im_gfR (q := 62) (b := 7030) D405_59 (im_fl cn_405 fl_12_246) sf_6952 rfl rfl tR_12_115 rf_6952_115 ?_
    refine im_ld (q := 63) (i := 0) D405_62 rfl rfl rfl ?_
    refine im_gfI (q := 66) D405_63 (im_fl cn_405 fl_12_981) sf_6952 rfl rfl tI_12_110 ((im_rdn _ _ _ _ (by decide)).trans ((im_rdn _ _ _ _ (by decide)).trans ((im_rdn _ _ _ _ (by decide)).trans (im_rdn _ _ _ _ (by decide))))) ?_
    refine im_ld (q := 68) (i := 8) D405_66 rfl rfl rfl ?_
    obtain ⟨hg13, hP⟩ := hP
    refine im_iast (q := 69) D405_68 sf_7030 hg4.1 hg4.2 (by decide) hg13 ?_
    refine im_ld (q := 70) (i := 0) D405_69 rfl rfl rfl ?_
    refine im_dup (q := 71) D405_70 rfl ?_
    refine im_gfI (q := 74) D405_71 (im_fl cn_405 fl_12_981) sf_6952 rfl rfl tI_12_110 ((im_rdn _ _ _ _ (by decide)).trans ((im_rdn _ _ _ _ (by decide)).trans ((im_rdn _ _ _ _ (by decide)).trans ((im_rdn _ _ _ _ (by decide)).trans (im_rdn _ _ _ _ (by decide)))))) ?_
    refine im_iconst (q := 75) D405_74 ?_
    refine im_iadd (q := 76) D405_75 ?_
    obtain ⟨hg15, hP⟩ := hP
    refine im_pfI (q := 79) D405_76 (im_fl cn_405 fl_12_981) sf_6952 rfl rfl ti_12_110 hg15 ?_
    exact im_vret (q := 80) D405_79 rfl hP
  · replace hP := hP.2 (Decidable.not_not.mp hc2)
    refine im_ld (q := 10) (i := 0) D405_9 rfl rfl rfl ?_
    refine im_bipush (q := 12) D405_10 rfl ?_
    refine im_callV (q := 15) (kd := 1) (y := 368) (n := 1) (ci := 12) (a := 6952) (vs := [.ref 6952, vI (-9)]) (r := []) (L2 := [some (.ref 6952), some (vI (-9))]) D405_12 (im_cal cn_405 cl_12_959) (Or.inl rfl) rfl sf_6952 rfl rfl rfl rfl hd ⟨rfl, rfl, trivial⟩ ?_
    refine hP.mono ?_
    rintro _ e17 M16 ⟨rfl, rfl, hP⟩
    refine im_bkN ?_
    exact im_vret (q := 16) D405_15 rfl hP
set_option maxRecDepth 20000 in
set_option maxHeartbeats 4000000 in
theorem b_timeOf_0 {g : im_g} {d : Nat} {e : im_E} {M : im_M} {K : im_K} {p1 : Int} (hd : 1 ≤ d) (hP : (0 ≤ p1 ∧ p1 < 5100) ∧ ((¬ (M 6970 p1) = 0 → im_T g (d - 1) 385 0 [some (.ref 6952), some (vL (M 6961 p1)), none, none] [] e M (im_ri (fun x8 e_ M7 => e = e_ ∧ im_T g (d - 1) 298 0 [some (.ref 6952), some (vI x8), none, none, none] [] e M7 (im_rl (fun x10 e_ M9 => e = e_ ∧ K (.inl (some (vL x10))) e (im_u M9 6952 7 (M 6952 7))))))) ∧ ((M 6970 p1) = 0 → K (.inl (some (vL (M 6969 p1)))) e M))) : im_T g d 406 0 [some (.ref 6952), some (vI p1), none, none, none] [] e M K := by
  refine im_ld (q := 1) (i := 0) D406_0 rfl rfl rfl ?_
  refine im_gfR (q := 4) (b := 6970) D406_1 (im_fl cn_406 fl_12_63) sf_6952 rfl rfl tR_12_31 rf_6952_31 ?_
  refine im_ld (q := 5) (i := 1) D406_4 rfl rfl rfl ?_
  obtain ⟨hg1, hP⟩ := hP
  refine im_rng (j := p1) sf_6970 hg1.1 hg1.2 (fun hr2 => ?_)
  refine im_bald (q := 6) D406_5 sf_6970 (Or.inr rfl) hg1.1 hg1.2 (by decide) rfl ?_
  refine im_ifc (q := 9) (t := 16) D406_6 rfl (im_z32 hr2) (fun hc3 => ?_) (fun hc3 => ?_)
  · replace hP := hP.1 hc3
    refine im_ld (q := 17) (i := 0) D406_16 rfl rfl rfl ?_
    refine im_rng (j := 7) sf_6952 (by decide) (by decide) (fun hr4 => ?_)
    refine im_gfI (q := 20) D406_17 (im_fl cn_406 fl_12_449) sf_6952 rfl rfl tI_12_7 rfl ?_
    refine im_st1 (q := 21) (i := 2) (L' := [some (.ref 6952), some (vI p1), some (vI (M 6952 7)), none, none]) D406_20 (Or.inl ⟨_, rfl, rfl⟩) (Nat.le_of_ble_eq_true rfl) rfl ?_
    refine im_ld (q := 22) (i := 0) D406_21 rfl rfl rfl ?_
    refine im_ld (q := 23) (i := 0) D406_22 rfl rfl rfl ?_
    refine im_ld (q := 24) (i := 0) D406_23 rfl rfl rfl ?_
    refine im_gfR (q := 27) (b := 6961) D406_24 (im_fl cn_406 fl_12_36) sf_6952 rfl rfl tR_12_22 rf_6952_22 ?_
    refine im_ld (q := 28) (i := 1) D406_27 rfl rfl rfl ?_
    refine im_rng (j := p1) sf_6961 hg1.1 hg1.2 (fun hr6 => ?_)
    refine im_lald (q := 29) D406_28 sf_6961 hg1.1 hg1.2 (by decide) rfl ?_
    refine im_callV (q := 32) (kd := 1) (y := 385) (n := 1) (ci := 12) (a := 6952) (vs := [.ref 6952, vL (M 6961 p1)]) (r := [.ref 6952]) (L2 := [some (.ref 6952), some (vL (M 6961 p1)), none, none]) D406_29 (im_cal cn_406 cl_12_892) (Or.inl rfl) rfl sf_6952 rfl rfl rfl rfl hd ⟨rfl, rfl, trivial⟩ ?_
    refine hP.mono ?_
    rintro _ e12 M7 ⟨x8, rfl, rfl, hP⟩
    refine im_bkS ?_
    refine im_callV (q := 35) (kd := 1) (y := 298) (n := 1) (ci := 12) (a := 6952) (vs := [.ref 6952, vI x8]) (r := []) (L2 := [some (.ref 6952), some (vI x8), none, none, none]) D406_32 (im_cal cn_406 cl_12_668) (Or.inl rfl) rfl sf_6952 rfl rfl rfl rfl hd ⟨rfl, rfl, trivial⟩ ?_
    refine hP.mono ?_
    rintro _ e11 M9 ⟨x10, rfl, rfl, hP⟩
    refine im_bkS ?_
    refine im_st2 (q := 36) (i := 3) (L' := [some (.ref 6952), some (vI p1), some (vI (M 6952 7)), some (vL x10), none]) D406_35 (Or.inl ⟨_, rfl, rfl⟩) (Nat.le_of_ble_eq_true rfl) rfl ?_
    refine im_ld (q := 37) (i := 0) D406_36 rfl rfl rfl ?_
    refine im_ld (q := 38) (i := 2) D406_37 rfl rfl rfl ?_
    refine im_pfI (q := 41) D406_38 (im_fl cn_406 fl_12_449) sf_6952 rfl rfl ti_12_7 hr4 ?_
    refine im_ld (q := 42) (i := 3) D406_41 rfl rfl rfl ?_
    exact im_lret (q := 43) D406_42 rfl hP
  · replace hP := hP.2 (Decidable.not_not.mp hc3)
    refine im_ld (q := 10) (i := 0) D406_9 rfl rfl rfl ?_
    refine im_gfR (q := 13) (b := 6969) D406_10 (im_fl cn_406 fl_12_60) sf_6952 rfl rfl tR_12_30 rf_6952_30 ?_
    refine im_ld (q := 14) (i := 1) D406_13 rfl rfl rfl ?_
    refine im_rng (j := p1) sf_6969 hg1.1 hg1.2 (fun hr5 => ?_)
    refine im_lald (q := 15) D406_14 sf_6969 hg1.1 hg1.2 (by decide) rfl ?_
    exact im_lret (q := 16) D406_15 rfl hP
set_option maxRecDepth 20000 in
set_option maxHeartbeats 4000000 in
theorem b_stepLet_0 {g : im_g} {d : Nat} {e : im_E} {M : im_M} {K : im_K} (hd : 1 ≤ d) (hP : (0 ≤ (M 6952 83) ∧ (M 6952 83) < 5100) ∧ im_T g (d - 1) 378 0 [some (.ref 6952), some (vI (M 6964 (M 6952 83))), none] [] e M (im_ri (fun x5 e_ M4 => e = e_ ∧ ((0 ≤ (M4 6952 101) → im_T g (d - 1) 390 0 [some (.ref 6952), some (vL (M4 6961 (M 6952 83))), none, none] [] e (im_u M4 6952 83 (M4 6965 (M 6952 83))) (im_ri (fun x11 e_ M10 => e = e_ ∧ im_T g (d - 1) 389 0 [some (.ref 6952), some (vL (M10 6961 (M 6952 83))), none, none] [] e M10 (im_ri (fun x14 e_ M13 => e = e_ ∧ (im_i32 x14) ∧ ((x14 = 0 → ((¬ (M13 6952 93) = 40 → im_T g d 407 107 [some (.ref 6952), some (vI (M 6952 83)), some (vI x5), some (vI x11), some (vI (M13 6952 93))] [] e M13 K) ∧ ((M13 6952 93) = 40 → im_T g (d - 1) 368 0 [some (.ref 6952), some (vI (-9))] [] e M13 (im_r0 (fun  e_ M23 => e = e_ ∧ K (.inl none) e M23))))) ∧ (¬ x14 = 0 → (0 ≤ x11 ∧ x11 < 41) ∧ im_T g (d - 1) 405 0 [some (.ref 6952), some (vI 4), some (vL (M13 6961 (M 6952 83))), none, some (vL 0), none, some (vL 0), none, some (vI (M13 7018 x11))] [] e M13 (im_r0 (fun  e_ M25 => e = e_ ∧ (im_i32 x5) ∧ K (.inl none) e (im_u M25 7018 x11 x5)))))))))) ∧ ((M4 6952 101) < 0 → K (.inl none) e M4))))) : im_T g d 407 0 [some (.ref 6952), none, none, none, none] [] e M K := by
  refine im_ld (q := 1) (i := 0) D407_0 rfl rfl rfl ?_
  refine im_rng (j := 83) sf_6952 (by decide) (by decide) (fun hr1 => ?_)
  refine im_gfI (q := 4) D407_1 (im_fl cn_407 fl_12_858) sf_6952 rfl rfl tI_12_83 rfl ?_
  refine im_st1 (q := 5) (i := 1) (L' := [some (.ref 6952), some (vI (M 6952 83)), none, none, none]) D407_4 (Or.inl ⟨_, rfl, rfl⟩) (Nat.le_of_ble_eq_true rfl) rfl ?_
  refine im_ld (q := 6) (i := 0) D407_5 rfl rfl rfl ?_
  refine im_ld (q := 7) (i := 0) D407_6 rfl rfl rfl ?_
  refine im_gfR (q := 10) (b := 6964) D407_7 (im_fl cn_407 fl_12_45) sf_6952 rfl rfl tR_12_25 rf_6952_25 ?_
  refine im_ld (q := 11) (i := 1) D407_10 rfl rfl rfl ?_
  obtain ⟨hg2, hP⟩ := hP
  refine im_rng (j := (M 6952 83)) sf_6964 hg2.1 hg2.2 (fun hr3 => ?_)
  refine im_iald (q := 12) D407_11 sf_6964 hg2.1 hg2.2 (by decide) rfl ?_
  refine im_callV (q := 15) (kd := 1) (y := 378) (n := 1) (ci := 12) (a := 6952) (vs := [.ref 6952, vI (M 6964 (M 6952 83))]) (r := []) (L2 := [some (.ref 6952), some (vI (M 6964 (M 6952 83))), none]) D407_12 (im_cal cn_407 cl_12_984) (Or.inl rfl) rfl sf_6952 rfl rfl rfl rfl hd ⟨rfl, rfl, trivial⟩ ?_
  refine hP.mono ?_
  rintro _ e30 M4 ⟨x5, rfl, rfl, hP⟩
  refine im_bkS ?_
  refine im_st1 (q := 16) (i := 2) (L' := [some (.ref 6952), some (vI (M 6952 83)), some (vI x5), none, none]) D407_15 (Or.inl ⟨_, rfl, rfl⟩) (Nat.le_of_ble_eq_true rfl) rfl ?_
  refine im_ld (q := 17) (i := 0) D407_16 rfl rfl rfl ?_
  refine im_rng (j := 101) sf_6952 (by decide) (by decide) (fun hr6 => ?_)
  refine im_gfI (q := 20) D407_17 (im_fl cn_407 fl_12_855) sf_6952 rfl rfl tI_12_101 rfl ?_
  refine im_ifc (q := 23) (t := 24) D407_20 rfl hr6 (fun hc7 => ?_) (fun hc7 => ?_)
  · replace hP := hP.1 hc7
    refine im_ld (q := 25) (i := 0) D407_24 rfl rfl rfl ?_
    refine im_ld (q := 26) (i := 0) D407_25 rfl rfl rfl ?_
    refine im_gfR (q := 29) (b := 6965) D407_26 (im_fl cn_407 fl_12_48) sf_6952 rfl rfl tR_12_26 rf_6952_26 ?_
    refine im_ld (q := 30) (i := 1) D407_29 rfl rfl rfl ?_
    refine im_rng (j := (M 6952 83)) sf_6965 hg2.1 hg2.2 (fun hr8 => ?_)
    refine im_iald (q := 31) D407_30 sf_6965 hg2.1 hg2.2 (by decide) rfl ?_
    refine im_pfI (q := 34) D407_31 (im_fl cn_407 fl_12_858) sf_6952 rfl rfl ti_12_83 hr8 ?_
    refine im_ld (q := 35) (i := 0) D407_34 rfl rfl rfl ?_
    refine im_ld (q := 36) (i := 0) D407_35 rfl rfl rfl ?_
    refine im_gfR (q := 39) (b := 6961) D407_36 (im_fl cn_407 fl_12_36) sf_6952 rfl rfl tR_12_22 rf_6952_22 ?_
    refine im_ld (q := 40) (i := 1) D407_39 rfl rfl rfl ?_
    refine im_rng (j := (M 6952 83)) sf_6961 hg2.1 hg2.2 (fun hr9 => ?_)
    refine im_lald (q := 41) D407_40 sf_6961 hg2.1 hg2.2 (by decide) (im_rdn _ _ _ _ (by decide)) ?_
    refine im_callV (q := 44) (kd := 1) (y := 390) (n := 1) (ci := 12) (a := 6952) (vs := [.ref 6952, vL (M4 6961 (M 6952 83))]) (r := []) (L2 := [some (.ref 6952), some (vL (M4 6961 (M 6952 83))), none, none]) D407_41 (im_cal cn_407 cl_12_883) (Or.inl rfl) rfl sf_6952 rfl rfl rfl rfl hd ⟨rfl, rfl, trivial⟩ ?_
    refine hP.mono ?_
    rintro _ e29 M10 ⟨x11, rfl, rfl, hP⟩
    refine im_bkS ?_
    refine im_st1 (q := 45) (i := 3) (L' := [some (.ref 6952), some (vI (M 6952 83)), some (vI x5), some (vI x11), none]) D407_44 (Or.inl ⟨_, rfl, rfl⟩) (Nat.le_of_ble_eq_true rfl) rfl ?_
    refine im_ld (q := 46) (i := 0) D407_45 rfl rfl rfl ?_
    refine im_ld (q := 47) (i := 0) D407_46 rfl rfl rfl ?_
    refine im_gfR (q := 50) (b := 6961) D407_47 (im_fl cn_407 fl_12_36) sf_6952 rfl rfl tR_12_22 rf_6952_22 ?_
    refine im_ld (q := 51) (i := 1) D407_50 rfl rfl rfl ?_
    refine im_rng (j := (M 6952 83)) sf_6961 hg2.1 hg2.2 (fun hr12 => ?_)
    refine im_lald (q := 52) D407_51 sf_6961 hg2.1 hg2.2 (by decide) rfl ?_
    refine im_callV (q := 55) (kd := 1) (y := 389) (n := 1) (ci := 12) (a := 6952) (vs := [.ref 6952, vL (M10 6961 (M 6952 83))]) (r := []) (L2 := [some (.ref 6952), some (vL (M10 6961 (M 6952 83))), none, none]) D407_52 (im_cal cn_407 cl_12_902) (Or.inl rfl) rfl sf_6952 rfl rfl rfl rfl hd ⟨rfl, rfl, trivial⟩ ?_
    refine hP.mono ?_
    rintro _ e28 M13 ⟨x14, rfl, rfl, hP⟩
    refine im_bkS ?_
    obtain ⟨hg15, hP⟩ := hP
    refine im_ifc (q := 58) (t := 85) D407_55 rfl hg15 (fun hc16 => ?_) (fun hc16 => ?_)
    · replace hP := hP.1 hc16
      refine im_ld (q := 86) (i := 0) D407_85 rfl rfl rfl ?_
      refine im_rng (j := 93) sf_6952 (by decide) (by decide) (fun hr17 => ?_)
      refine im_gfI (q := 89) D407_86 (im_fl cn_407 fl_12_870) sf_6952 rfl rfl tI_12_93 rfl ?_
      refine im_bipush (q := 91) D407_89 rfl ?_
      refine im_icmp (q := 94) (t := 101) D407_91 rfl hr17 (by decide) (fun hc18 => ?_) (fun hc18 => ?_)
      · replace hP := hP.1 hc18
        refine im_ld (q := 102) (i := 0) D407_101 rfl rfl rfl ?_
        refine im_gfI (q := 105) D407_102 (im_fl cn_407 fl_12_870) sf_6952 rfl rfl tI_12_93 rfl ?_
        refine im_st1 (q := 107) (i := 4) (L' := [some (.ref 6952), some (vI (M 6952 83)), some (vI x5), some (vI x11), some (vI (M13 6952 93))]) D407_105 (Or.inr rfl) (Nat.le_of_ble_eq_true rfl) rfl ?_
        exact hP.wk ⟨rfl, rfl, rfl, rfl, rfl, trivial⟩
      · replace hP := hP.2 (Decidable.not_not.mp hc18)
        refine im_ld (q := 95) (i := 0) D407_94 rfl rfl rfl ?_
        refine im_bipush (q := 97) D407_95 rfl ?_
        refine im_callV (q := 100) (kd := 1) (y := 368) (n := 1) (ci := 12) (a := 6952) (vs := [.ref 6952, vI (-9)]) (r := []) (L2 := [some (.ref 6952), some (vI (-9))]) D407_97 (im_cal cn_407 cl_12_959) (Or.inl rfl) rfl sf_6952 rfl rfl rfl rfl hd ⟨rfl, rfl, trivial⟩ ?_
        refine hP.mono ?_
        rintro _ e24 M23 ⟨rfl, rfl, hP⟩
        refine im_bkN ?_
        exact im_vret (q := 101) D407_100 rfl hP
    · replace hP := hP.2 hc16
      refine im_ld (q := 59) (i := 0) D407_58 rfl rfl rfl ?_
      refine im_iconst (q := 60) D407_59 ?_
      refine im_ld (q := 61) (i := 0) D407_60 rfl rfl rfl ?_
      refine im_gfR (q := 64) (b := 6961) D407_61 (im_fl cn_407 fl_12_36) sf_6952 rfl rfl tR_12_22 rf_6952_22 ?_
      refine im_ld (q := 65) (i := 1) D407_64 rfl rfl rfl ?_
      refine im_rng (j := (M 6952 83)) sf_6961 hg2.1 hg2.2 (fun hr20 => ?_)
      refine im_lald (q := 66) D407_65 sf_6961 hg2.1 hg2.2 (by decide) rfl ?_
      refine im_lconst (q := 67) (z := 0) D407_66 rfl ?_
      refine im_lconst (q := 68) (z := 0) D407_67 rfl ?_
      refine im_ld (q := 69) (i := 0) D407_68 rfl rfl rfl ?_
      refine im_gfR (q := 72) (b := 7018) D407_69 (im_fl cn_407 fl_12_210) sf_6952 rfl rfl tR_12_95 rf_6952_95 ?_
      refine im_ld (q := 73) (i := 3) D407_72 rfl rfl rfl ?_
      obtain ⟨hg21, hP⟩ := hP
      refine im_rng (j := x11) sf_7018 hg21.1 hg21.2 (fun hr22 => ?_)
      refine im_iald (q := 74) D407_73 sf_7018 hg21.1 hg21.2 (by decide) rfl ?_
      refine im_callV (q := 77) (kd := 1) (y := 405) (n := 5) (ci := 12) (a := 6952) (vs := [.ref 6952, vI 4, vL (M13 6961 (M 6952 83)), vL 0, vL 0, vI (M13 7018 x11)]) (r := []) (L2 := [some (.ref 6952), some (vI 4), some (vL (M13 6961 (M 6952 83))), none, some (vL 0), none, some (vL 0), none, some (vI (M13 7018 x11))]) D407_74 (im_cal cn_407 cl_12_987) (Or.inl rfl) rfl sf_6952 rfl rfl rfl rfl hd ⟨rfl, rfl, rfl, rfl, rfl, rfl, trivial⟩ ?_
      refine hP.mono ?_
      rintro _ e27 M25 ⟨rfl, rfl, hP⟩
      refine im_bkN ?_
      refine im_ld (q := 78) (i := 0) D407_77 rfl rfl rfl ?_
      refine im_gfR (q := 81) (b := 7018) D407_78 (im_fl cn_407 fl_12_210) sf_6952 rfl rfl tR_12_95 rf_6952_95 ?_
      refine im_ld (q := 82) (i := 3) D407_81 rfl rfl rfl ?_
      refine im_ld (q := 83) (i := 2) D407_82 rfl rfl rfl ?_
      obtain ⟨hg26, hP⟩ := hP
      refine im_iast (q := 84) D407_83 sf_7018 hg21.1 hg21.2 (by decide) hg26 ?_
      exact im_vret (q := 85) D407_84 rfl hP
  · replace hP := hP.2 (Int.not_le.mp hc7)
    exact im_vret (q := 24) D407_23 rfl hP
set_option maxRecDepth 20000 in
set_option maxHeartbeats 4000000 in
theorem b_stepLet_107 {g : im_g} {d : Nat} {e : im_E} {M : im_M} {K : im_K} {p1 p2 p3 p4 : Int} (hP : (im_i32 p4) ∧ (im_i32 p3) ∧ ((p4 ≤ p3 → (im_i32 ((M 6952 93) + 1)) ∧ (0 ≤ p1 ∧ p1 < 5100) ∧ (0 ≤ p3 ∧ p3 < 41) ∧ (im_i32 p2) ∧ K (.inl none) e (im_u (im_u (im_u M 6952 93 ((M 6952 93) + 1)) 7017 p3 (M 6961 p1)) 7018 p3 p2)) ∧ (p3 < p4 → (0 ≤ (p4 - 1) ∧ (p4 - 1) < 41) ∧ (0 ≤ p4 ∧ p4 < 41) ∧ im_T g d 407 107 [some (.ref 6952), some (vI p1), some (vI p2), some (vI p3), some (vI (p4 + (-1)))] [] e (im_u (im_u M 7017 p4 (M 7017 (p4 - 1))) 7018 p4 (M 7018 (p4 - 1))) K))) : im_T g d 407 107 [some (.ref 6952), some (vI p1), some (vI p2), some (vI p3), some (vI p4)] [] e M K := by
  refine im_ld (q := 109) (i := 4) D407_107 rfl rfl rfl ?_
  refine im_ld (q := 110) (i := 3) D407_109 rfl rfl rfl ?_
  obtain ⟨hg1, hP⟩ := hP
  obtain ⟨hg2, hP⟩ := hP
  refine im_icmp (q := 113) (t := 151) D407_110 rfl hg1 hg2 (fun hc3 => ?_) (fun hc3 => ?_)
  · replace hP := hP.1 hc3
    refine im_ld (q := 152) (i := 0) D407_151 rfl rfl rfl ?_
    refine im_dup (q := 153) D407_152 rfl ?_
    refine im_rng (j := 93) sf_6952 (by decide) (by decide) (fun hr4 => ?_)
    refine im_gfI (q := 156) D407_153 (im_fl cn_407 fl_12_870) sf_6952 rfl rfl tI_12_93 rfl ?_
    refine im_iconst (q := 157) D407_156 ?_
    refine im_iadd (q := 158) D407_157 ?_
    obtain ⟨hg7, hP⟩ := hP
    refine im_pfI (q := 161) D407_158 (im_fl cn_407 fl_12_870) sf_6952 rfl rfl ti_12_93 hg7 ?_
    refine im_ld (q := 162) (i := 0) D407_161 rfl rfl rfl ?_
    refine im_gfR (q := 165) (b := 7017) D407_162 (im_fl cn_407 fl_12_207) sf_6952 rfl rfl tR_12_94 rf_6952_94 ?_
    refine im_ld (q := 166) (i := 3) D407_165 rfl rfl rfl ?_
    refine im_ld (q := 167) (i := 0) D407_166 rfl rfl rfl ?_
    refine im_gfR (q := 170) (b := 6961) D407_167 (im_fl cn_407 fl_12_36) sf_6952 rfl rfl tR_12_22 rf_6952_22 ?_
    refine im_ld (q := 171) (i := 1) D407_170 rfl rfl rfl ?_
    obtain ⟨hg8, hP⟩ := hP
    refine im_rng (j := p1) sf_6961 hg8.1 hg8.2 (fun hr9 => ?_)
    refine im_lald (q := 172) D407_171 sf_6961 hg8.1 hg8.2 (by decide) (im_rdn _ _ _ _ (by decide)) ?_
    obtain ⟨hg10, hP⟩ := hP
    refine im_last (q := 173) D407_172 sf_7017 hg10.1 hg10.2 (by decide) (im_rgc hr9 (im_rdn _ _ _ _ (by decide))) ?_
    refine im_ld (q := 174) (i := 0) D407_173 rfl rfl rfl ?_
    refine im_gfR (q := 177) (b := 7018) D407_174 (im_fl cn_407 fl_12_210) sf_6952 rfl rfl tR_12_95 rf_6952_95 ?_
    refine im_ld (q := 178) (i := 3) D407_177 rfl rfl rfl ?_
    refine im_ld (q := 179) (i := 2) D407_178 rfl rfl rfl ?_
    obtain ⟨hg11, hP⟩ := hP
    refine im_iast (q := 180) D407_179 sf_7018 hg10.1 hg10.2 (by decide) hg11 ?_
    exact im_vret (q := 181) D407_180 rfl hP
  · replace hP := hP.2 (Int.not_le.mp hc3)
    refine im_ld (q := 114) (i := 0) D407_113 rfl rfl rfl ?_
    refine im_gfR (q := 117) (b := 7017) D407_114 (im_fl cn_407 fl_12_207) sf_6952 rfl rfl tR_12_94 rf_6952_94 ?_
    refine im_ld (q := 119) (i := 4) D407_117 rfl rfl rfl ?_
    refine im_ld (q := 120) (i := 0) D407_119 rfl rfl rfl ?_
    refine im_gfR (q := 123) (b := 7017) D407_120 (im_fl cn_407 fl_12_207) sf_6952 rfl rfl tR_12_94 rf_6952_94 ?_
    refine im_ld (q := 125) (i := 4) D407_123 rfl rfl rfl ?_
    refine im_iconst (q := 126) D407_125 ?_
    refine im_isub (q := 127) D407_126 ?_
    obtain ⟨hg5, hP⟩ := hP
    refine im_rng (j := (p4 - 1)) sf_7017 hg5.1 hg5.2 (fun hr6 => ?_)
    refine im_lald (q := 128) D407_127 sf_7017 hg5.1 hg5.2 (by decide) rfl ?_
    obtain ⟨hg12, hP⟩ := hP
    refine im_last (q := 129) D407_128 sf_7017 hg12.1 hg12.2 (by decide) hr6 ?_
    refine im_ld (q := 130) (i := 0) D407_129 rfl rfl rfl ?_
    refine im_gfR (q := 133) (b := 7018) D407_130 (im_fl cn_407 fl_12_210) sf_6952 rfl rfl tR_12_95 rf_6952_95 ?_
    refine im_ld (q := 135) (i := 4) D407_133 rfl rfl rfl ?_
    refine im_ld (q := 136) (i := 0) D407_135 rfl rfl rfl ?_
    refine im_gfR (q := 139) (b := 7018) D407_136 (im_fl cn_407 fl_12_210) sf_6952 rfl rfl tR_12_95 rf_6952_95 ?_
    refine im_ld (q := 141) (i := 4) D407_139 rfl rfl rfl ?_
    refine im_iconst (q := 142) D407_141 ?_
    refine im_isub (q := 143) D407_142 ?_
    refine im_rng (j := (p4 - 1)) sf_7018 hg5.1 hg5.2 (fun hr13 => ?_)
    refine im_iald (q := 144) D407_143 sf_7018 hg5.1 hg5.2 (by decide) (im_rdn _ _ _ _ (by decide)) ?_
    refine im_iast (q := 145) D407_144 sf_7018 hg12.1 hg12.2 (by decide) (im_rgc hr13 (im_rdn _ _ _ _ (by decide))) ?_
    refine im_iinc (q := 148) (i := 4) (L' := [some (.ref 6952), some (vI p1), some (vI p2), some (vI p3), some (vI (p4 + (-1)))]) D407_145 rfl (Nat.le_of_ble_eq_true rfl) rfl ?_
    refine im_goto (q := 151) (t := 107) D407_148 rfl ?_
    exact hP.wk ⟨rfl, rfl, rfl, rfl, rfl, trivial⟩

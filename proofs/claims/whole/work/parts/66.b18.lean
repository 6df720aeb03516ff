/-! blocks of the reference -/
theorem D431_0 {g : im_g} : im_D g 431 0 (.aload_n 0) 1 := im_D.of (by decide +kernel)
theorem D431_1 {g : im_g} : im_D g 431 1 (.getfield 327) 4 := im_D.of (by decide +kernel)
theorem D431_4 {g : im_g} : im_D g 431 4 (.iload_n 1) 5 := im_D.of (by decide +kernel)
theorem D431_5 {g : im_g} : im_D g 431 5 (.aload_n 0) 6 := im_D.of (by decide +kernel)
theorem D431_6 {g : im_g} : im_D g 431 6 (.getfield 858) 9 := im_D.of (by decide +kernel)
theorem D431_9 {g : im_g} : im_D g 431 9 (.iastore) 10 := im_D.of (by decide +kernel)
theorem D431_10 {g : im_g} : im_D g 431 10 (.aload_n 0) 11 := im_D.of (by decide +kernel)
theorem D431_11 {g : im_g} : im_D g 431 11 (.getfield 330) 14 := im_D.of (by decide +kernel)
theorem D431_14 {g : im_g} : im_D g 431 14 (.iload_n 1) 15 := im_D.of (by decide +kernel)
theorem D431_15 {g : im_g} : im_D g 431 15 (.aload_n 0) 16 := im_D.of (by decide +kernel)
theorem D431_16 {g : im_g} : im_D g 431 16 (.getfield 861) 19 := im_D.of (by decide +kernel)
theorem D431_19 {g : im_g} : im_D g 431 19 (.lastore) 20 := im_D.of (by decide +kernel)
theorem D431_20 {g : im_g} : im_D g 431 20 (.aload_n 0) 21 := im_D.of (by decide +kernel)
theorem D431_21 {g : im_g} : im_D g 431 21 (.getfield 333) 24 := im_D.of (by decide +kernel)
theorem D431_24 {g : im_g} : im_D g 431 24 (.iload_n 1) 25 := im_D.of (by decide +kernel)
theorem D431_25 {g : im_g} : im_D g 431 25 (.aload_n 0) 26 := im_D.of (by decide +kernel)
theorem D431_26 {g : im_g} : im_D g 431 26 (.getfield 449) 29 := im_D.of (by decide +kernel)
theorem D431_29 {g : im_g} : im_D g 431 29 (.iastore) 30 := im_D.of (by decide +kernel)
theorem D431_30 {g : im_g} : im_D g 431 30 (.aload_n 0) 31 := im_D.of (by decide +kernel)
theorem D431_31 {g : im_g} : im_D g 431 31 (.getfield 336) 34 := im_D.of (by decide +kernel)
theorem D431_34 {g : im_g} : im_D g 431 34 (.iload_n 1) 35 := im_D.of (by decide +kernel)
theorem D431_35 {g : im_g} : im_D g 431 35 (.aload_n 0) 36 := im_D.of (by decide +kernel)
theorem D431_36 {g : im_g} : im_D g 431 36 (.getfield 864) 39 := im_D.of (by decide +kernel)
theorem D431_39 {g : im_g} : im_D g 431 39 (.iastore) 40 := im_D.of (by decide +kernel)
theorem D431_40 {g : im_g} : im_D g 431 40 (.aload_n 0) 41 := im_D.of (by decide +kernel)
theorem D431_41 {g : im_g} : im_D g 431 41 (.getfield 348) 44 := im_D.of (by decide +kernel)
theorem D431_44 {g : im_g} : im_D g 431 44 (.iload_n 1) 45 := im_D.of (by decide +kernel)
theorem D431_45 {g : im_g} : im_D g 431 45 (.aload_n 0) 46 := im_D.of (by decide +kernel)
theorem D431_46 {g : im_g} : im_D g 431 46 (.getfield 867) 49 := im_D.of (by decide +kernel)
theorem D431_49 {g : im_g} : im_D g 431 49 (.iastore) 50 := im_D.of (by decide +kernel)
theorem D431_50 {g : im_g} : im_D g 431 50 (.aload_n 0) 51 := im_D.of (by decide +kernel)
theorem D431_51 {g : im_g} : im_D g 431 51 (.getfield 360) 54 := im_D.of (by decide +kernel)
theorem D431_54 {g : im_g} : im_D g 431 54 (.iload_n 1) 55 := im_D.of (by decide +kernel)
theorem D431_55 {g : im_g} : im_D g 431 55 (.aload_n 0) 56 := im_D.of (by decide +kernel)
theorem D431_56 {g : im_g} : im_D g 431 56 (.getfield 870) 59 := im_D.of (by decide +kernel)
theorem D431_59 {g : im_g} : im_D g 431 59 (.iastore) 60 := im_D.of (by decide +kernel)
theorem D431_60 {g : im_g} : im_D g 431 60 (.iconst 0) 61 := im_D.of (by decide +kernel)
theorem D431_61 {g : im_g} : im_D g 431 61 (.istore_n 2) 62 := im_D.of (by decide +kernel)
theorem D431_62 {g : im_g} : im_D g 431 62 (.iload_n 2) 63 := im_D.of (by decide +kernel)
theorem D431_63 {g : im_g} : im_D g 431 63 (.aload_n 0) 64 := im_D.of (by decide +kernel)
theorem D431_64 {g : im_g} : im_D g 431 64 (.getfield 864) 67 := im_D.of (by decide +kernel)
theorem D431_67 {g : im_g} : im_D g 431 67 (.if_icmp .ge 60) 70 := im_D.of (by decide +kernel)
theorem D431_70 {g : im_g} : im_D g 431 70 (.aload_n 0) 71 := im_D.of (by decide +kernel)
theorem D431_71 {g : im_g} : im_D g 431 71 (.getfield 339) 74 := im_D.of (by decide +kernel)
theorem D431_74 {g : im_g} : im_D g 431 74 (.bipush 40) 76 := im_D.of (by decide +kernel)
theorem D431_76 {g : im_g} : im_D g 431 76 (.iload_n 1) 77 := im_D.of (by decide +kernel)
theorem D431_77 {g : im_g} : im_D g 431 77 (.imul) 78 := im_D.of (by decide +kernel)
theorem D431_78 {g : im_g} : im_D g 431 78 (.iload_n 2) 79 := im_D.of (by decide +kernel)
theorem D431_79 {g : im_g} : im_D g 431 79 (.iadd) 80 := im_D.of (by decide +kernel)
theorem D431_80 {g : im_g} : im_D g 431 80 (.aload_n 0) 81 := im_D.of (by decide +kernel)
theorem D431_81 {g : im_g} : im_D g 431 81 (.getfield 189) 84 := im_D.of (by decide +kernel)
theorem D431_84 {g : im_g} : im_D g 431 84 (.iload_n 2) 85 := im_D.of (by decide +kernel)
theorem D431_85 {g : im_g} : im_D g 431 85 (.laload) 86 := im_D.of (by decide +kernel)
theorem D431_86 {g : im_g} : im_D g 431 86 (.lastore) 87 := im_D.of (by decide +kernel)
theorem D431_87 {g : im_g} : im_D g 431 87 (.aload_n 0) 88 := im_D.of (by decide +kernel)
theorem D431_88 {g : im_g} : im_D g 431 88 (.getfield 342) 91 := im_D.of (by decide +kernel)
theorem D431_91 {g : im_g} : im_D g 431 91 (.bipush 40) 93 := im_D.of (by decide +kernel)
theorem D431_93 {g : im_g} : im_D g 431 93 (.iload_n 1) 94 := im_D.of (by decide +kernel)
theorem D431_94 {g : im_g} : im_D g 431 94 (.imul) 95 := im_D.of (by decide +kernel)
theorem D431_95 {g : im_g} : im_D g 431 95 (.iload_n 2) 96 := im_D.of (by decide +kernel)
theorem D431_96 {g : im_g} : im_D g 431 96 (.iadd) 97 := im_D.of (by decide +kernel)
theorem D431_97 {g : im_g} : im_D g 431 97 (.aload_n 0) 98 := im_D.of (by decide +kernel)
theorem D431_98 {g : im_g} : im_D g 431 98 (.getfield 192) 101 := im_D.of (by decide +kernel)
theorem D431_101 {g : im_g} : im_D g 431 101 (.iload_n 2) 102 := im_D.of (by decide +kernel)
theorem D431_102 {g : im_g} : im_D g 431 102 (.laload) 103 := im_D.of (by decide +kernel)
theorem D431_103 {g : im_g} : im_D g 431 103 (.lastore) 104 := im_D.of (by decide +kernel)
theorem D431_104 {g : im_g} : im_D g 431 104 (.aload_n 0) 105 := im_D.of (by decide +kernel)
theorem D431_105 {g : im_g} : im_D g 431 105 (.getfield 345) 108 := im_D.of (by decide +kernel)
theorem D431_108 {g : im_g} : im_D g 431 108 (.bipush 40) 110 := im_D.of (by decide +kernel)
theorem D431_110 {g : im_g} : im_D g 431 110 (.iload_n 1) 111 := im_D.of (by decide +kernel)
theorem D431_111 {g : im_g} : im_D g 431 111 (.imul) 112 := im_D.of (by decide +kernel)
theorem D431_112 {g : im_g} : im_D g 431 112 (.iload_n 2) 113 := im_D.of (by decide +kernel)
theorem D431_113 {g : im_g} : im_D g 431 113 (.iadd) 114 := im_D.of (by decide +kernel)
theorem D431_114 {g : im_g} : im_D g 431 114 (.aload_n 0) 115 := im_D.of (by decide +kernel)
theorem D431_115 {g : im_g} : im_D g 431 115 (.getfield 195) 118 := im_D.of (by decide +kernel)
theorem D431_118 {g : im_g} : im_D g 431 118 (.iload_n 2) 119 := im_D.of (by decide +kernel)
theorem D431_119 {g : im_g} : im_D g 431 119 (.iaload) 120 := im_D.of (by decide +kernel)
theorem D431_120 {g : im_g} : im_D g 431 120 (.iastore) 121 := im_D.of (by decide +kernel)
theorem D431_121 {g : im_g} : im_D g 431 121 (.iinc 2 1) 124 := im_D.of (by decide +kernel)
theorem D431_124 {g : im_g} : im_D g 431 124 (.goto (-62)) 127 := im_D.of (by decide +kernel)
theorem D431_127 {g : im_g} : im_D g 431 127 (.iconst 0) 128 := im_D.of (by decide +kernel)
theorem D431_128 {g : im_g} : im_D g 431 128 (.istore_n 2) 129 := im_D.of (by decide +kernel)
theorem D431_129 {g : im_g} : im_D g 431 129 (.iload_n 2) 130 := im_D.of (by decide +kernel)
theorem D431_130 {g : im_g} : im_D g 431 130 (.aload_n 0) 131 := im_D.of (by decide +kernel)
theorem D431_131 {g : im_g} : im_D g 431 131 (.getfield 867) 134 := im_D.of (by decide +kernel)
theorem D431_134 {g : im_g} : im_D g 431 134 (.if_icmp .ge 60) 137 := im_D.of (by decide +kernel)
theorem D431_137 {g : im_g} : im_D g 431 137 (.aload_n 0) 138 := im_D.of (by decide +kernel)
theorem D431_138 {g : im_g} : im_D g 431 138 (.getfield 351) 141 := im_D.of (by decide +kernel)
theorem D431_141 {g : im_g} : im_D g 431 141 (.bipush 40) 143 := im_D.of (by decide +kernel)
theorem D431_143 {g : im_g} : im_D g 431 143 (.iload_n 1) 144 := im_D.of (by decide +kernel)
theorem D431_144 {g : im_g} : im_D g 431 144 (.imul) 145 := im_D.of (by decide +kernel)
theorem D431_145 {g : im_g} : im_D g 431 145 (.iload_n 2) 146 := im_D.of (by decide +kernel)
theorem D431_146 {g : im_g} : im_D g 431 146 (.iadd) 147 := im_D.of (by decide +kernel)
theorem D431_147 {g : im_g} : im_D g 431 147 (.aload_n 0) 148 := im_D.of (by decide +kernel)
theorem D431_148 {g : im_g} : im_D g 431 148 (.getfield 198) 151 := im_D.of (by decide +kernel)
theorem D431_151 {g : im_g} : im_D g 431 151 (.iload_n 2) 152 := im_D.of (by decide +kernel)
theorem D431_152 {g : im_g} : im_D g 431 152 (.laload) 153 := im_D.of (by decide +kernel)
theorem D431_153 {g : im_g} : im_D g 431 153 (.lastore) 154 := im_D.of (by decide +kernel)
theorem D431_154 {g : im_g} : im_D g 431 154 (.aload_n 0) 155 := im_D.of (by decide +kernel)
theorem D431_155 {g : im_g} : im_D g 431 155 (.getfield 354) 158 := im_D.of (by decide +kernel)
theorem D431_158 {g : im_g} : im_D g 431 158 (.bipush 40) 160 := im_D.of (by decide +kernel)
theorem D431_160 {g : im_g} : im_D g 431 160 (.iload_n 1) 161 := im_D.of (by decide +kernel)
theorem D431_161 {g : im_g} : im_D g 431 161 (.imul) 162 := im_D.of (by decide +kernel)
theorem D431_162 {g : im_g} : im_D g 431 162 (.iload_n 2) 163 := im_D.of (by decide +kernel)
theorem D431_163 {g : im_g} : im_D g 431 163 (.iadd) 164 := im_D.of (by decide +kernel)
theorem D431_164 {g : im_g} : im_D g 431 164 (.aload_n 0) 165 := im_D.of (by decide +kernel)
theorem D431_165 {g : im_g} : im_D g 431 165 (.getfield 201) 168 := im_D.of (by decide +kernel)
theorem D431_168 {g : im_g} : im_D g 431 168 (.iload_n 2) 169 := im_D.of (by decide +kernel)
theorem D431_169 {g : im_g} : im_D g 431 169 (.laload) 170 := im_D.of (by decide +kernel)
theorem D431_170 {g : im_g} : im_D g 431 170 (.lastore) 171 := im_D.of (by decide +kernel)
theorem D431_171 {g : im_g} : im_D g 431 171 (.aload_n 0) 172 := im_D.of (by decide +kernel)
theorem D431_172 {g : im_g} : im_D g 431 172 (.getfield 357) 175 := im_D.of (by decide +kernel)
theorem D431_175 {g : im_g} : im_D g 431 175 (.bipush 40) 177 := im_D.of (by decide +kernel)
theorem D431_177 {g : im_g} : im_D g 431 177 (.iload_n 1) 178 := im_D.of (by decide +kernel)
theorem D431_178 {g : im_g} : im_D g 431 178 (.imul) 179 := im_D.of (by decide +kernel)
theorem D431_179 {g : im_g} : im_D g 431 179 (.iload_n 2) 180 := im_D.of (by decide +kernel)
theorem D431_180 {g : im_g} : im_D g 431 180 (.iadd) 181 := im_D.of (by decide +kernel)
theorem D431_181 {g : im_g} : im_D g 431 181 (.aload_n 0) 182 := im_D.of (by decide +kernel)
theorem D431_182 {g : im_g} : im_D g 431 182 (.getfield 204) 185 := im_D.of (by decide +kernel)
theorem D431_185 {g : im_g} : im_D g 431 185 (.iload_n 2) 186 := im_D.of (by decide +kernel)
theorem D431_186 {g : im_g} : im_D g 431 186 (.iaload) 187 := im_D.of (by decide +kernel)
theorem D431_187 {g : im_g} : im_D g 431 187 (.iastore) 188 := im_D.of (by decide +kernel)
theorem D431_188 {g : im_g} : im_D g 431 188 (.iinc 2 1) 191 := im_D.of (by decide +kernel)
theorem D431_191 {g : im_g} : im_D g 431 191 (.goto (-62)) 194 := im_D.of (by decide +kernel)
theorem D431_194 {g : im_g} : im_D g 431 194 (.iconst 0) 195 := im_D.of (by decide +kernel)
theorem D431_195 {g : im_g} : im_D g 431 195 (.istore_n 2) 196 := im_D.of (by decide +kernel)
theorem D431_196 {g : im_g} : im_D g 431 196 (.iload_n 2) 197 := im_D.of (by decide +kernel)
theorem D431_197 {g : im_g} : im_D g 431 197 (.aload_n 0) 198 := im_D.of (by decide +kernel)
theorem D431_198 {g : im_g} : im_D g 431 198 (.getfield 870) 201 := im_D.of (by decide +kernel)
theorem D431_201 {g : im_g} : im_D g 431 201 (.if_icmp .ge 43) 204 := im_D.of (by decide +kernel)
theorem D431_204 {g : im_g} : im_D g 431 204 (.aload_n 0) 205 := im_D.of (by decide +kernel)
theorem D431_205 {g : im_g} : im_D g 431 205 (.getfield 363) 208 := im_D.of (by decide +kernel)
theorem D431_208 {g : im_g} : im_D g 431 208 (.bipush 40) 210 := im_D.of (by decide +kernel)
theorem D431_210 {g : im_g} : im_D g 431 210 (.iload_n 1) 211 := im_D.of (by decide +kernel)
theorem D431_211 {g : im_g} : im_D g 431 211 (.imul) 212 := im_D.of (by decide +kernel)
theorem D431_212 {g : im_g} : im_D g 431 212 (.iload_n 2) 213 := im_D.of (by decide +kernel)
theorem D431_213 {g : im_g} : im_D g 431 213 (.iadd) 214 := im_D.of (by decide +kernel)
theorem D431_214 {g : im_g} : im_D g 431 214 (.aload_n 0) 215 := im_D.of (by decide +kernel)
theorem D431_215 {g : im_g} : im_D g 431 215 (.getfield 207) 218 := im_D.of (by decide +kernel)
theorem D431_218 {g : im_g} : im_D g 431 218 (.iload_n 2) 219 := im_D.of (by decide +kernel)
theorem D431_219 {g : im_g} : im_D g 431 219 (.laload) 220 := im_D.of (by decide +kernel)
theorem D431_220 {g : im_g} : im_D g 431 220 (.lastore) 221 := im_D.of (by decide +kernel)
theorem D431_221 {g : im_g} : im_D g 431 221 (.aload_n 0) 222 := im_D.of (by decide +kernel)
theorem D431_222 {g : im_g} : im_D g 431 222 (.getfield 366) 225 := im_D.of (by decide +kernel)
theorem D431_225 {g : im_g} : im_D g 431 225 (.bipush 40) 227 := im_D.of (by decide +kernel)
theorem D431_227 {g : im_g} : im_D g 431 227 (.iload_n 1) 228 := im_D.of (by decide +kernel)
theorem D431_228 {g : im_g} : im_D g 431 228 (.imul) 229 := im_D.of (by decide +kernel)
theorem D431_229 {g : im_g} : im_D g 431 229 (.iload_n 2) 230 := im_D.of (by decide +kernel)
theorem D431_230 {g : im_g} : im_D g 431 230 (.iadd) 231 := im_D.of (by decide +kernel)
theorem D431_231 {g : im_g} : im_D g 431 231 (.aload_n 0) 232 := im_D.of (by decide +kernel)
theorem D431_232 {g : im_g} : im_D g 431 232 (.getfield 210) 235 := im_D.of (by decide +kernel)
theorem D431_235 {g : im_g} : im_D g 431 235 (.iload_n 2) 236 := im_D.of (by decide +kernel)
theorem D431_236 {g : im_g} : im_D g 431 236 (.iaload) 237 := im_D.of (by decide +kernel)
theorem D431_237 {g : im_g} : im_D g 431 237 (.iastore) 238 := im_D.of (by decide +kernel)
theorem D431_238 {g : im_g} : im_D g 431 238 (.iinc 2 1) 241 := im_D.of (by decide +kernel)
theorem D431_241 {g : im_g} : im_D g 431 241 (.goto (-45)) 244 := im_D.of (by decide +kernel)
theorem D431_244 {g : im_g} : im_D g 431 244 (.aload_n 0) 245 := im_D.of (by decide +kernel)
theorem D431_245 {g : im_g} : im_D g 431 245 (.getfield 33) 248 := im_D.of (by decide +kernel)
theorem D431_248 {g : im_g} : im_D g 431 248 (.aload_n 0) 249 := im_D.of (by decide +kernel)
theorem D431_249 {g : im_g} : im_D g 431 249 (.getfield 858) 252 := im_D.of (by decide +kernel)
theorem D431_252 {g : im_g} : im_D g 431 252 (.iaload) 253 := im_D.of (by decide +kernel)
theorem D431_253 {g : im_g} : im_D g 431 253 (.istore_n 2) 254 := im_D.of (by decide +kernel)
theorem D431_254 {g : im_g} : im_D g 431 254 (.iload_n 2) 255 := im_D.of (by decide +kernel)
theorem D431_255 {g : im_g} : im_D g 431 255 (.iconst 5) 256 := im_D.of (by decide +kernel)
theorem D431_256 {g : im_g} : im_D g 431 256 (.if_icmp .ne 23) 259 := im_D.of (by decide +kernel)
theorem D431_259 {g : im_g} : im_D g 431 259 (.aload_n 0) 260 := im_D.of (by decide +kernel)
theorem D431_260 {g : im_g} : im_D g 431 260 (.getfield 861) 263 := im_D.of (by decide +kernel)
theorem D431_263 {g : im_g} : im_D g 431 263 (.aload_n 0) 264 := im_D.of (by decide +kernel)
theorem D431_264 {g : im_g} : im_D g 431 264 (.aload_n 0) 265 := im_D.of (by decide +kernel)
theorem D431_265 {g : im_g} : im_D g 431 265 (.getfield 858) 268 := im_D.of (by decide +kernel)
theorem D431_268 {g : im_g} : im_D g 431 268 (.invokevirtual 1003) 271 := im_D.of (by decide +kernel)
theorem D431_271 {g : im_g} : im_D g 431 271 (.lcmp) 272 := im_D.of (by decide +kernel)
theorem D431_272 {g : im_g} : im_D g 431 272 (.ifCond .ge 7) 275 := im_D.of (by decide +kernel)
theorem D431_275 {g : im_g} : im_D g 431 275 (.iconst 1) 276 := im_D.of (by decide +kernel)
theorem D431_276 {g : im_g} : im_D g 431 276 (.goto 4) 279 := im_D.of (by decide +kernel)
theorem D431_279 {g : im_g} : im_D g 431 279 (.iconst 0) 280 := im_D.of (by decide +kernel)
theorem D431_280 {g : im_g} : im_D g 431 280 (.istore_n 3) 281 := im_D.of (by decide +kernel)
theorem D431_281 {g : im_g} : im_D g 431 281 (.aload_n 0) 282 := im_D.of (by decide +kernel)
theorem D431_282 {g : im_g} : im_D g 431 282 (.getfield 369) 285 := im_D.of (by decide +kernel)
theorem D431_285 {g : im_g} : im_D g 431 285 (.iload_n 1) 286 := im_D.of (by decide +kernel)
theorem D431_286 {g : im_g} : im_D g 431 286 (.iload_n 2) 287 := im_D.of (by decide +kernel)
theorem D431_287 {g : im_g} : im_D g 431 287 (.iconst 1) 288 := im_D.of (by decide +kernel)
theorem D431_288 {g : im_g} : im_D g 431 288 (.if_icmp .ne 14) 291 := im_D.of (by decide +kernel)
theorem D431_291 {g : im_g} : im_D g 431 291 (.aload_n 0) 292 := im_D.of (by decide +kernel)
theorem D431_292 {g : im_g} : im_D g 431 292 (.getfield 864) 295 := im_D.of (by decide +kernel)
theorem D431_295 {g : im_g} : im_D g 431 295 (.ifCond .ne 7) 298 := im_D.of (by decide +kernel)
theorem D431_298 {g : im_g} : im_D g 431 298 (.iconst 3) 299 := im_D.of (by decide +kernel)
theorem D431_299 {g : im_g} : im_D g 431 299 (.goto 12) 302 := im_D.of (by decide +kernel)
theorem D431_302 {g : im_g} : im_D g 431 302 (.iload_n 3) 303 := im_D.of (by decide +kernel)
theorem D431_303 {g : im_g} : im_D g 431 303 (.ifCond .eq 7) 306 := im_D.of (by decide +kernel)
theorem D431_306 {g : im_g} : im_D g 431 306 (.iconst 1) 307 := im_D.of (by decide +kernel)
theorem D431_307 {g : im_g} : im_D g 431 307 (.goto 4) 310 := im_D.of (by decide +kernel)
theorem D431_310 {g : im_g} : im_D g 431 310 (.iconst 0) 311 := im_D.of (by decide +kernel)
theorem D431_311 {g : im_g} : im_D g 431 311 (.iastore) 312 := im_D.of (by decide +kernel)
theorem D431_312 {g : im_g} : im_D g 431 312 (.aload_n 0) 313 := im_D.of (by decide +kernel)
theorem D431_313 {g : im_g} : im_D g 431 313 (.getfield 372) 316 := im_D.of (by decide +kernel)
theorem D431_316 {g : im_g} : im_D g 431 316 (.iload_n 1) 317 := im_D.of (by decide +kernel)
theorem D431_317 {g : im_g} : im_D g 431 317 (.iload_n 3) 318 := im_D.of (by decide +kernel)
theorem D431_318 {g : im_g} : im_D g 431 318 (.ifCond .eq 15) 321 := im_D.of (by decide +kernel)
theorem D431_321 {g : im_g} : im_D g 431 321 (.aload_n 0) 322 := im_D.of (by decide +kernel)
theorem D431_322 {g : im_g} : im_D g 431 322 (.getfield 45) 325 := im_D.of (by decide +kernel)
theorem D431_325 {g : im_g} : im_D g 431 325 (.aload_n 0) 326 := im_D.of (by decide +kernel)
theorem D431_326 {g : im_g} : im_D g 431 326 (.getfield 858) 329 := im_D.of (by decide +kernel)
theorem D431_329 {g : im_g} : im_D g 431 329 (.iaload) 330 := im_D.of (by decide +kernel)
theorem D431_330 {g : im_g} : im_D g 431 330 (.goto 4) 333 := im_D.of (by decide +kernel)
theorem D431_333 {g : im_g} : im_D g 431 333 (.iconst (-1)) 334 := im_D.of (by decide +kernel)
theorem D431_334 {g : im_g} : im_D g 431 334 (.iastore) 335 := im_D.of (by decide +kernel)
theorem D431_335 {g : im_g} : im_D g 431 335 (.aload_n 0) 336 := im_D.of (by decide +kernel)
theorem D431_336 {g : im_g} : im_D g 431 336 (.getfield 375) 339 := im_D.of (by decide +kernel)
theorem D431_339 {g : im_g} : im_D g 431 339 (.iload_n 1) 340 := im_D.of (by decide +kernel)
theorem D431_340 {g : im_g} : im_D g 431 340 (.iconst 0) 341 := im_D.of (by decide +kernel)
theorem D431_341 {g : im_g} : im_D g 431 341 (.iastore) 342 := im_D.of (by decide +kernel)
theorem D431_342 {g : im_g} : im_D g 431 342 (.return_) 343 := im_D.of (by decide +kernel)
theorem D432_0 {g : im_g} : im_D g 432 0 (.aload_n 0) 1 := im_D.of (by decide +kernel)
theorem D432_1 {g : im_g} : im_D g 432 1 (.aload_n 0) 2 := im_D.of (by decide +kernel)
theorem D432_2 {g : im_g} : im_D g 432 2 (.getfield 327) 5 := im_D.of (by decide +kernel)
theorem D432_5 {g : im_g} : im_D g 432 5 (.iload_n 1) 6 := im_D.of (by decide +kernel)
theorem D432_6 {g : im_g} : im_D g 432 6 (.iaload) 7 := im_D.of (by decide +kernel)
theorem D432_7 {g : im_g} : im_D g 432 7 (.putfield 858) 10 := im_D.of (by decide +kernel)
theorem D432_10 {g : im_g} : im_D g 432 10 (.aload_n 0) 11 := im_D.of (by decide +kernel)
theorem D432_11 {g : im_g} : im_D g 432 11 (.aload_n 0) 12 := im_D.of (by decide +kernel)
theorem D432_12 {g : im_g} : im_D g 432 12 (.getfield 330) 15 := im_D.of (by decide +kernel)
theorem D432_15 {g : im_g} : im_D g 432 15 (.iload_n 1) 16 := im_D.of (by decide +kernel)
theorem D432_16 {g : im_g} : im_D g 432 16 (.laload) 17 := im_D.of (by decide +kernel)
theorem D432_17 {g : im_g} : im_D g 432 17 (.putfield 861) 20 := im_D.of (by decide +kernel)
theorem D432_20 {g : im_g} : im_D g 432 20 (.aload_n 0) 21 := im_D.of (by decide +kernel)
theorem D432_21 {g : im_g} : im_D g 432 21 (.aload_n 0) 22 := im_D.of (by decide +kernel)
theorem D432_22 {g : im_g} : im_D g 432 22 (.getfield 333) 25 := im_D.of (by decide +kernel)
theorem D432_25 {g : im_g} : im_D g 432 25 (.iload_n 1) 26 := im_D.of (by decide +kernel)
theorem D432_26 {g : im_g} : im_D g 432 26 (.iaload) 27 := im_D.of (by decide +kernel)
theorem D432_27 {g : im_g} : im_D g 432 27 (.putfield 449) 30 := im_D.of (by decide +kernel)
theorem D432_30 {g : im_g} : im_D g 432 30 (.aload_n 0) 31 := im_D.of (by decide +kernel)
theorem D432_31 {g : im_g} : im_D g 432 31 (.aload_n 0) 32 := im_D.of (by decide +kernel)
theorem D432_32 {g : im_g} : im_D g 432 32 (.getfield 336) 35 := im_D.of (by decide +kernel)
theorem D432_35 {g : im_g} : im_D g 432 35 (.iload_n 1) 36 := im_D.of (by decide +kernel)
theorem D432_36 {g : im_g} : im_D g 432 36 (.iaload) 37 := im_D.of (by decide +kernel)
theorem D432_37 {g : im_g} : im_D g 432 37 (.putfield 864) 40 := im_D.of (by decide +kernel)
theorem D432_40 {g : im_g} : im_D g 432 40 (.aload_n 0) 41 := im_D.of (by decide +kernel)
theorem D432_41 {g : im_g} : im_D g 432 41 (.aload_n 0) 42 := im_D.of (by decide +kernel)
theorem D432_42 {g : im_g} : im_D g 432 42 (.getfield 348) 45 := im_D.of (by decide +kernel)
theorem D432_45 {g : im_g} : im_D g 432 45 (.iload_n 1) 46 := im_D.of (by decide +kernel)
theorem D432_46 {g : im_g} : im_D g 432 46 (.iaload) 47 := im_D.of (by decide +kernel)
theorem D432_47 {g : im_g} : im_D g 432 47 (.putfield 867) 50 := im_D.of (by decide +kernel)
theorem D432_50 {g : im_g} : im_D g 432 50 (.aload_n 0) 51 := im_D.of (by decide +kernel)
theorem D432_51 {g : im_g} : im_D g 432 51 (.aload_n 0) 52 := im_D.of (by decide +kernel)
theorem D432_52 {g : im_g} : im_D g 432 52 (.getfield 360) 55 := im_D.of (by decide +kernel)
theorem D432_55 {g : im_g} : im_D g 432 55 (.iload_n 1) 56 := im_D.of (by decide +kernel)
theorem D432_56 {g : im_g} : im_D g 432 56 (.iaload) 57 := im_D.of (by decide +kernel)
theorem D432_57 {g : im_g} : im_D g 432 57 (.putfield 870) 60 := im_D.of (by decide +kernel)
theorem D432_60 {g : im_g} : im_D g 432 60 (.iconst 0) 61 := im_D.of (by decide +kernel)
theorem D432_61 {g : im_g} : im_D g 432 61 (.istore_n 2) 62 := im_D.of (by decide +kernel)
theorem D432_62 {g : im_g} : im_D g 432 62 (.iload_n 2) 63 := im_D.of (by decide +kernel)
theorem D432_63 {g : im_g} : im_D g 432 63 (.aload_n 0) 64 := im_D.of (by decide +kernel)
theorem D432_64 {g : im_g} : im_D g 432 64 (.getfield 864) 67 := im_D.of (by decide +kernel)
theorem D432_67 {g : im_g} : im_D g 432 67 (.if_icmp .ge 60) 70 := im_D.of (by decide +kernel)
theorem D432_70 {g : im_g} : im_D g 432 70 (.aload_n 0) 71 := im_D.of (by decide +kernel)
theorem D432_71 {g : im_g} : im_D g 432 71 (.getfield 189) 74 := im_D.of (by decide +kernel)
theorem D432_74 {g : im_g} : im_D g 432 74 (.iload_n 2) 75 := im_D.of (by decide +kernel)
theorem D432_75 {g : im_g} : im_D g 432 75 (.aload_n 0) 76 := im_D.of (by decide +kernel)
theorem D432_76 {g : im_g} : im_D g 432 76 (.getfield 339) 79 := im_D.of (by decide +kernel)
theorem D432_79 {g : im_g} : im_D g 432 79 (.bipush 40) 81 := im_D.of (by decide +kernel)
theorem D432_81 {g : im_g} : im_D g 432 81 (.iload_n 1) 82 := im_D.of (by decide +kernel)
theorem D432_82 {g : im_g} : im_D g 432 82 (.imul) 83 := im_D.of (by decide +kernel)
theorem D432_83 {g : im_g} : im_D g 432 83 (.iload_n 2) 84 := im_D.of (by decide +kernel)
theorem D432_84 {g : im_g} : im_D g 432 84 (.iadd) 85 := im_D.of (by decide +kernel)
theorem D432_85 {g : im_g} : im_D g 432 85 (.laload) 86 := im_D.of (by decide +kernel)
theorem D432_86 {g : im_g} : im_D g 432 86 (.lastore) 87 := im_D.of (by decide +kernel)
theorem D432_87 {g : im_g} : im_D g 432 87 (.aload_n 0) 88 := im_D.of (by decide +kernel)
theorem D432_88 {g : im_g} : im_D g 432 88 (.getfield 192) 91 := im_D.of (by decide +kernel)
theorem D432_91 {g : im_g} : im_D g 432 91 (.iload_n 2) 92 := im_D.of (by decide +kernel)
theorem D432_92 {g : im_g} : im_D g 432 92 (.aload_n 0) 93 := im_D.of (by decide +kernel)
theorem D432_93 {g : im_g} : im_D g 432 93 (.getfield 342) 96 := im_D.of (by decide +kernel)
theorem D432_96 {g : im_g} : im_D g 432 96 (.bipush 40) 98 := im_D.of (by decide +kernel)
theorem D432_98 {g : im_g} : im_D g 432 98 (.iload_n 1) 99 := im_D.of (by decide +kernel)
theorem D432_99 {g : im_g} : im_D g 432 99 (.imul) 100 := im_D.of (by decide +kernel)
theorem D432_100 {g : im_g} : im_D g 432 100 (.iload_n 2) 101 := im_D.of (by decide +kernel)
theorem D432_101 {g : im_g} : im_D g 432 101 (.iadd) 102 := im_D.of (by decide +kernel)
theorem D432_102 {g : im_g} : im_D g 432 102 (.laload) 103 := im_D.of (by decide +kernel)
theorem D432_103 {g : im_g} : im_D g 432 103 (.lastore) 104 := im_D.of (by decide +kernel)
theorem D432_104 {g : im_g} : im_D g 432 104 (.aload_n 0) 105 := im_D.of (by decide +kernel)
theorem D432_105 {g : im_g} : im_D g 432 105 (.getfield 195) 108 := im_D.of (by decide +kernel)
theorem D432_108 {g : im_g} : im_D g 432 108 (.iload_n 2) 109 := im_D.of (by decide +kernel)
theorem D432_109 {g : im_g} : im_D g 432 109 (.aload_n 0) 110 := im_D.of (by decide +kernel)
theorem D432_110 {g : im_g} : im_D g 432 110 (.getfield 345) 113 := im_D.of (by decide +kernel)
theorem D432_113 {g : im_g} : im_D g 432 113 (.bipush 40) 115 := im_D.of (by decide +kernel)
theorem D432_115 {g : im_g} : im_D g 432 115 (.iload_n 1) 116 := im_D.of (by decide +kernel)
theorem D432_116 {g : im_g} : im_D g 432 116 (.imul) 117 := im_D.of (by decide +kernel)
theorem D432_117 {g : im_g} : im_D g 432 117 (.iload_n 2) 118 := im_D.of (by decide +kernel)
theorem D432_118 {g : im_g} : im_D g 432 118 (.iadd) 119 := im_D.of (by decide +kernel)
theorem D432_119 {g : im_g} : im_D g 432 119 (.iaload) 120 := im_D.of (by decide +kernel)
theorem D432_120 {g : im_g} : im_D g 432 120 (.iastore) 121 := im_D.of (by decide +kernel)
theorem D432_121 {g : im_g} : im_D g 432 121 (.iinc 2 1) 124 := im_D.of (by decide +kernel)
theorem D432_124 {g : im_g} : im_D g 432 124 (.goto (-62)) 127 := im_D.of (by decide +kernel)
theorem D432_127 {g : im_g} : im_D g 432 127 (.iconst 0) 128 := im_D.of (by decide +kernel)
theorem D432_128 {g : im_g} : im_D g 432 128 (.istore_n 2) 129 := im_D.of (by decide +kernel)
theorem D432_129 {g : im_g} : im_D g 432 129 (.iload_n 2) 130 := im_D.of (by decide +kernel)
theorem D432_130 {g : im_g} : im_D g 432 130 (.aload_n 0) 131 := im_D.of (by decide +kernel)
theorem D432_131 {g : im_g} : im_D g 432 131 (.getfield 867) 134 := im_D.of (by decide +kernel)
theorem D432_134 {g : im_g} : im_D g 432 134 (.if_icmp .ge 60) 137 := im_D.of (by decide +kernel)
theorem D432_137 {g : im_g} : im_D g 432 137 (.aload_n 0) 138 := im_D.of (by decide +kernel)
theorem D432_138 {g : im_g} : im_D g 432 138 (.getfield 198) 141 := im_D.of (by decide +kernel)
theorem D432_141 {g : im_g} : im_D g 432 141 (.iload_n 2) 142 := im_D.of (by decide +kernel)
theorem D432_142 {g : im_g} : im_D g 432 142 (.aload_n 0) 143 := im_D.of (by decide +kernel)
theorem D432_143 {g : im_g} : im_D g 432 143 (.getfield 351) 146 := im_D.of (by decide +kernel)
theorem D432_146 {g : im_g} : im_D g 432 146 (.bipush 40) 148 := im_D.of (by decide +kernel)
theorem D432_148 {g : im_g} : im_D g 432 148 (.iload_n 1) 149 := im_D.of (by decide +kernel)
theorem D432_149 {g : im_g} : im_D g 432 149 (.imul) 150 := im_D.of (by decide +kernel)
theorem D432_150 {g : im_g} : im_D g 432 150 (.iload_n 2) 151 := im_D.of (by decide +kernel)
theorem D432_151 {g : im_g} : im_D g 432 151 (.iadd) 152 := im_D.of (by decide +kernel)
theorem D432_152 {g : im_g} : im_D g 432 152 (.laload) 153 := im_D.of (by decide +kernel)
theorem D432_153 {g : im_g} : im_D g 432 153 (.lastore) 154 := im_D.of (by decide +kernel)
theorem D432_154 {g : im_g} : im_D g 432 154 (.aload_n 0) 155 := im_D.of (by decide +kernel)
theorem D432_155 {g : im_g} : im_D g 432 155 (.getfield 201) 158 := im_D.of (by decide +kernel)
theorem D432_158 {g : im_g} : im_D g 432 158 (.iload_n 2) 159 := im_D.of (by decide +kernel)
theorem D432_159 {g : im_g} : im_D g 432 159 (.aload_n 0) 160 := im_D.of (by decide +kernel)
theorem D432_160 {g : im_g} : im_D g 432 160 (.getfield 354) 163 := im_D.of (by decide +kernel)
theorem D432_163 {g : im_g} : im_D g 432 163 (.bipush 40) 165 := im_D.of (by decide +kernel)
theorem D432_165 {g : im_g} : im_D g 432 165 (.iload_n 1) 166 := im_D.of (by decide +kernel)
theorem D432_166 {g : im_g} : im_D g 432 166 (.imul) 167 := im_D.of (by decide +kernel)
theorem D432_167 {g : im_g} : im_D g 432 167 (.iload_n 2) 168 := im_D.of (by decide +kernel)
theorem D432_168 {g : im_g} : im_D g 432 168 (.iadd) 169 := im_D.of (by decide +kernel)
theorem D432_169 {g : im_g} : im_D g 432 169 (.laload) 170 := im_D.of (by decide +kernel)
theorem D432_170 {g : im_g} : im_D g 432 170 (.lastore) 171 := im_D.of (by decide +kernel)
theorem D432_171 {g : im_g} : im_D g 432 171 (.aload_n 0) 172 := im_D.of (by decide +kernel)
theorem D432_172 {g : im_g} : im_D g 432 172 (.getfield 204) 175 := im_D.of (by decide +kernel)
theorem D432_175 {g : im_g} : im_D g 432 175 (.iload_n 2) 176 := im_D.of (by decide +kernel)
theorem D432_176 {g : im_g} : im_D g 432 176 (.aload_n 0) 177 := im_D.of (by decide +kernel)
theorem D432_177 {g : im_g} : im_D g 432 177 (.getfield 357) 180 := im_D.of (by decide +kernel)
theorem D432_180 {g : im_g} : im_D g 432 180 (.bipush 40) 182 := im_D.of (by decide +kernel)
theorem D432_182 {g : im_g} : im_D g 432 182 (.iload_n 1) 183 := im_D.of (by decide +kernel)
theorem D432_183 {g : im_g} : im_D g 432 183 (.imul) 184 := im_D.of (by decide +kernel)
theorem D432_184 {g : im_g} : im_D g 432 184 (.iload_n 2) 185 := im_D.of (by decide +kernel)
theorem D432_185 {g : im_g} : im_D g 432 185 (.iadd) 186 := im_D.of (by decide +kernel)
theorem D432_186 {g : im_g} : im_D g 432 186 (.iaload) 187 := im_D.of (by decide +kernel)
theorem D432_187 {g : im_g} : im_D g 432 187 (.iastore) 188 := im_D.of (by decide +kernel)
theorem D432_188 {g : im_g} : im_D g 432 188 (.iinc 2 1) 191 := im_D.of (by decide +kernel)
theorem D432_191 {g : im_g} : im_D g 432 191 (.goto (-62)) 194 := im_D.of (by decide +kernel)
theorem D432_194 {g : im_g} : im_D g 432 194 (.iconst 0) 195 := im_D.of (by decide +kernel)
theorem D432_195 {g : im_g} : im_D g 432 195 (.istore_n 2) 196 := im_D.of (by decide +kernel)
theorem D432_196 {g : im_g} : im_D g 432 196 (.iload_n 2) 197 := im_D.of (by decide +kernel)
theorem D432_197 {g : im_g} : im_D g 432 197 (.aload_n 0) 198 := im_D.of (by decide +kernel)
theorem D432_198 {g : im_g} : im_D g 432 198 (.getfield 870) 201 := im_D.of (by decide +kernel)
theorem D432_201 {g : im_g} : im_D g 432 201 (.if_icmp .ge 43) 204 := im_D.of (by decide +kernel)
theorem D432_204 {g : im_g} : im_D g 432 204 (.aload_n 0) 205 := im_D.of (by decide +kernel)
theorem D432_205 {g : im_g} : im_D g 432 205 (.getfield 207) 208 := im_D.of (by decide +kernel)
theorem D432_208 {g : im_g} : im_D g 432 208 (.iload_n 2) 209 := im_D.of (by decide +kernel)
theorem D432_209 {g : im_g} : im_D g 432 209 (.aload_n 0) 210 := im_D.of (by decide +kernel)
theorem D432_210 {g : im_g} : im_D g 432 210 (.getfield 363) 213 := im_D.of (by decide +kernel)
theorem D432_213 {g : im_g} : im_D g 432 213 (.bipush 40) 215 := im_D.of (by decide +kernel)
theorem D432_215 {g : im_g} : im_D g 432 215 (.iload_n 1) 216 := im_D.of (by decide +kernel)
theorem D432_216 {g : im_g} : im_D g 432 216 (.imul) 217 := im_D.of (by decide +kernel)
theorem D432_217 {g : im_g} : im_D g 432 217 (.iload_n 2) 218 := im_D.of (by decide +kernel)
theorem D432_218 {g : im_g} : im_D g 432 218 (.iadd) 219 := im_D.of (by decide +kernel)
theorem D432_219 {g : im_g} : im_D g 432 219 (.laload) 220 := im_D.of (by decide +kernel)
theorem D432_220 {g : im_g} : im_D g 432 220 (.lastore) 221 := im_D.of (by decide +kernel)
theorem D432_221 {g : im_g} : im_D g 432 221 (.aload_n 0) 222 := im_D.of (by decide +kernel)
theorem D432_222 {g : im_g} : im_D g 432 222 (.getfield 210) 225 := im_D.of (by decide +kernel)
theorem D432_225 {g : im_g} : im_D g 432 225 (.iload_n 2) 226 := im_D.of (by decide +kernel)
theorem D432_226 {g : im_g} : im_D g 432 226 (.aload_n 0) 227 := im_D.of (by decide +kernel)
theorem D432_227 {g : im_g} : im_D g 432 227 (.getfield 366) 230 := im_D.of (by decide +kernel)
theorem D432_230 {g : im_g} : im_D g 432 230 (.bipush 40) 232 := im_D.of (by decide +kernel)
theorem D432_232 {g : im_g} : im_D g 432 232 (.iload_n 1) 233 := im_D.of (by decide +kernel)
theorem D432_233 {g : im_g} : im_D g 432 233 (.imul) 234 := im_D.of (by decide +kernel)
theorem D432_234 {g : im_g} : im_D g 432 234 (.iload_n 2) 235 := im_D.of (by decide +kernel)
theorem D432_235 {g : im_g} : im_D g 432 235 (.iadd) 236 := im_D.of (by decide +kernel)
theorem D432_236 {g : im_g} : im_D g 432 236 (.iaload) 237 := im_D.of (by decide +kernel)
theorem D432_237 {g : im_g} : im_D g 432 237 (.iastore) 238 := im_D.of (by decide +kernel)
theorem D432_238 {g : im_g} : im_D g 432 238 (.iinc 2 1) 241 := im_D.of (by decide +kernel)
theorem D432_241 {g : im_g} : im_D g 432 241 (.goto (-45)) 244 := im_D.of (by decide +kernel)
theorem D432_244 {g : im_g} : im_D g 432 244 (.aload_n 0) 245 := im_D.of (by decide +kernel)
theorem D432_245 {g : im_g} : im_D g 432 245 (.aload_n 0) 246 := im_D.of (by decide +kernel)
theorem D432_246 {g : im_g} : im_D g 432 246 (.getfield 861) 249 := im_D.of (by decide +kernel)
theorem D432_249 {g : im_g} : im_D g 432 249 (.putfield 905) 252 := im_D.of (by decide +kernel)
theorem D432_252 {g : im_g} : im_D g 432 252 (.aload_n 0) 253 := im_D.of (by decide +kernel)
theorem D432_253 {g : im_g} : im_D g 432 253 (.aload_n 0) 254 := im_D.of (by decide +kernel)
theorem D432_254 {g : im_g} : im_D g 432 254 (.getfield 861) 257 := im_D.of (by decide +kernel)
theorem D432_257 {g : im_g} : im_D g 432 257 (.putfield 911) 260 := im_D.of (by decide +kernel)
theorem D432_260 {g : im_g} : im_D g 432 260 (.aload_n 0) 261 := im_D.of (by decide +kernel)
theorem D432_261 {g : im_g} : im_D g 432 261 (.iconst 0) 262 := im_D.of (by decide +kernel)
theorem D432_262 {g : im_g} : im_D g 432 262 (.putfield 723) 265 := im_D.of (by decide +kernel)
theorem D432_265 {g : im_g} : im_D g 432 265 (.aload_n 0) 266 := im_D.of (by decide +kernel)
theorem D432_266 {g : im_g} : im_D g 432 266 (.aload_n 0) 267 := im_D.of (by decide +kernel)
theorem D432_267 {g : im_g} : im_D g 432 267 (.getfield 861) 270 := im_D.of (by decide +kernel)
theorem D432_270 {g : im_g} : im_D g 432 270 (.putfield 1089) 273 := im_D.of (by decide +kernel)
theorem D432_273 {g : im_g} : im_D g 432 273 (.return_) 274 := im_D.of (by decide +kernel)
theorem D433_0 {g : im_g} : im_D g 433 0 (.aload_n 0) 1 := im_D.of (by decide +kernel)
theorem D433_1 {g : im_g} : im_D g 433 1 (.getfield 369) 4 := im_D.of (by decide +kernel)
theorem D433_4 {g : im_g} : im_D g 433 4 (.iload_n 1) 5 := im_D.of (by decide +kernel)
theorem D433_5 {g : im_g} : im_D g 433 5 (.iaload) 6 := im_D.of (by decide +kernel)
theorem D433_6 {g : im_g} : im_D g 433 6 (.ifCond .ne 12) 9 := im_D.of (by decide +kernel)
theorem D433_9 {g : im_g} : im_D g 433 9 (.aload_n 0) 10 := im_D.of (by decide +kernel)
theorem D433_10 {g : im_g} : im_D g 433 10 (.getfield 369) 13 := im_D.of (by decide +kernel)
theorem D433_13 {g : im_g} : im_D g 433 13 (.iload_n 1) 14 := im_D.of (by decide +kernel)
theorem D433_14 {g : im_g} : im_D g 433 14 (.iconst 3) 15 := im_D.of (by decide +kernel)
theorem D433_15 {g : im_g} : im_D g 433 15 (.iastore) 16 := im_D.of (by decide +kernel)
theorem D433_16 {g : im_g} : im_D g 433 16 (.iconst 1) 17 := im_D.of (by decide +kernel)
theorem D433_17 {g : im_g} : im_D g 433 17 (.ireturn) 18 := im_D.of (by decide +kernel)
theorem D433_18 {g : im_g} : im_D g 433 18 (.aload_n 0) 19 := im_D.of (by decide +kernel)
theorem D433_19 {g : im_g} : im_D g 433 19 (.getfield 369) 22 := im_D.of (by decide +kernel)
theorem D433_22 {g : im_g} : im_D g 433 22 (.iload_n 1) 23 := im_D.of (by decide +kernel)
theorem D433_23 {g : im_g} : im_D g 433 23 (.iaload) 24 := im_D.of (by decide +kernel)
theorem D433_24 {g : im_g} : im_D g 433 24 (.iconst 1) 25 := im_D.of (by decide +kernel)
theorem D433_25 {g : im_g} : im_D g 433 25 (.if_icmp .ne 36) 28 := im_D.of (by decide +kernel)
theorem D433_28 {g : im_g} : im_D g 433 28 (.aload_n 0) 29 := im_D.of (by decide +kernel)
theorem D433_29 {g : im_g} : im_D g 433 29 (.getfield 372) 32 := im_D.of (by decide +kernel)
theorem D433_32 {g : im_g} : im_D g 433 32 (.iload_n 1) 33 := im_D.of (by decide +kernel)
theorem D433_33 {g : im_g} : im_D g 433 33 (.iaload) 34 := im_D.of (by decide +kernel)
theorem D433_34 {g : im_g} : im_D g 433 34 (.iconst (-1)) 35 := im_D.of (by decide +kernel)
theorem D433_35 {g : im_g} : im_D g 433 35 (.if_icmp .eq 19) 38 := im_D.of (by decide +kernel)
theorem D433_38 {g : im_g} : im_D g 433 38 (.aload_n 0) 39 := im_D.of (by decide +kernel)
theorem D433_39 {g : im_g} : im_D g 433 39 (.iload_n 1) 40 := im_D.of (by decide +kernel)
theorem D433_40 {g : im_g} : im_D g 433 40 (.aload_n 0) 41 := im_D.of (by decide +kernel)
theorem D433_41 {g : im_g} : im_D g 433 41 (.getfield 372) 44 := im_D.of (by decide +kernel)
theorem D433_44 {g : im_g} : im_D g 433 44 (.iload_n 1) 45 := im_D.of (by decide +kernel)
theorem D433_45 {g : im_g} : im_D g 433 45 (.iaload) 46 := im_D.of (by decide +kernel)
theorem D433_46 {g : im_g} : im_D g 433 46 (.invokevirtual 1095) 49 := im_D.of (by decide +kernel)
theorem D433_49 {g : im_g} : im_D g 433 49 (.ifCond .eq (-21)) 52 := im_D.of (by decide +kernel)
theorem D433_52 {g : im_g} : im_D g 433 52 (.iconst 1) 53 := im_D.of (by decide +kernel)
theorem D433_53 {g : im_g} : im_D g 433 53 (.ireturn) 54 := im_D.of (by decide +kernel)
theorem D433_54 {g : im_g} : im_D g 433 54 (.aload_n 0) 55 := im_D.of (by decide +kernel)
theorem D433_55 {g : im_g} : im_D g 433 55 (.getfield 369) 58 := im_D.of (by decide +kernel)
theorem D433_58 {g : im_g} : im_D g 433 58 (.iload_n 1) 59 := im_D.of (by decide +kernel)
theorem D433_59 {g : im_g} : im_D g 433 59 (.iconst 2) 60 := im_D.of (by decide +kernel)
theorem D433_60 {g : im_g} : im_D g 433 60 (.iastore) 61 := im_D.of (by decide +kernel)
theorem D433_61 {g : im_g} : im_D g 433 61 (.aload_n 0) 62 := im_D.of (by decide +kernel)
theorem D433_62 {g : im_g} : im_D g 433 62 (.getfield 369) 65 := im_D.of (by decide +kernel)
theorem D433_65 {g : im_g} : im_D g 433 65 (.iload_n 1) 66 := im_D.of (by decide +kernel)
theorem D433_66 {g : im_g} : im_D g 433 66 (.iaload) 67 := im_D.of (by decide +kernel)
theorem D433_67 {g : im_g} : im_D g 433 67 (.iconst 2) 68 := im_D.of (by decide +kernel)
theorem D433_68 {g : im_g} : im_D g 433 68 (.if_icmp .ne 24) 71 := im_D.of (by decide +kernel)
theorem D433_71 {g : im_g} : im_D g 433 71 (.aload_n 0) 72 := im_D.of (by decide +kernel)
theorem D433_72 {g : im_g} : im_D g 433 72 (.getfield 369) 75 := im_D.of (by decide +kernel)
theorem D433_75 {g : im_g} : im_D g 433 75 (.iload_n 1) 76 := im_D.of (by decide +kernel)
theorem D433_76 {g : im_g} : im_D g 433 76 (.iconst 3) 77 := im_D.of (by decide +kernel)
theorem D433_77 {g : im_g} : im_D g 433 77 (.iastore) 78 := im_D.of (by decide +kernel)
theorem D433_78 {g : im_g} : im_D g 433 78 (.aload_n 0) 79 := im_D.of (by decide +kernel)
theorem D433_79 {g : im_g} : im_D g 433 79 (.aload_n 0) 80 := im_D.of (by decide +kernel)
theorem D433_80 {g : im_g} : im_D g 433 80 (.aload_n 0) 81 := im_D.of (by decide +kernel)
theorem D433_81 {g : im_g} : im_D g 433 81 (.getfield 858) 84 := im_D.of (by decide +kernel)
theorem D433_84 {g : im_g} : im_D g 433 84 (.invokevirtual 1003) 87 := im_D.of (by decide +kernel)
theorem D433_87 {g : im_g} : im_D g 433 87 (.putfield 1089) 90 := im_D.of (by decide +kernel)
theorem D433_90 {g : im_g} : im_D g 433 90 (.iconst 1) 91 := im_D.of (by decide +kernel)
theorem D433_91 {g : im_g} : im_D g 433 91 (.ireturn) 92 := im_D.of (by decide +kernel)
theorem D433_92 {g : im_g} : im_D g 433 92 (.iconst 0) 93 := im_D.of (by decide +kernel)
theorem D433_93 {g : im_g} : im_D g 433 93 (.ireturn) 94 := im_D.of (by decide +kernel)
theorem D434_0 {g : im_g} : im_D g 434 0 (.aload_n 0) 1 := im_D.of (by decide +kernel)
theorem D434_1 {g : im_g} : im_D g 434 1 (.getfield 33) 4 := im_D.of (by decide +kernel)
theorem D434_4 {g : im_g} : im_D g 434 4 (.iload_n 2) 5 := im_D.of (by decide +kernel)
theorem D434_5 {g : im_g} : im_D g 434 5 (.iaload) 6 := im_D.of (by decide +kernel)
theorem D434_6 {g : im_g} : im_D g 434 6 (.bipush 9) 8 := im_D.of (by decide +kernel)
theorem D434_8 {g : im_g} : im_D g 434 8 (.if_icmp .eq 85) 11 := im_D.of (by decide +kernel)
theorem D434_11 {g : im_g} : im_D g 434 11 (.aload_n 0) 12 := im_D.of (by decide +kernel)
theorem D434_12 {g : im_g} : im_D g 434 12 (.getfield 372) 15 := im_D.of (by decide +kernel)
theorem D434_15 {g : im_g} : im_D g 434 15 (.iload_n 1) 16 := im_D.of (by decide +kernel)
theorem D434_16 {g : im_g} : im_D g 434 16 (.aload_n 0) 17 := im_D.of (by decide +kernel)
theorem D434_17 {g : im_g} : im_D g 434 17 (.getfield 54) 20 := im_D.of (by decide +kernel)
theorem D434_20 {g : im_g} : im_D g 434 20 (.iload_n 2) 21 := im_D.of (by decide +kernel)
theorem D434_21 {g : im_g} : im_D g 434 21 (.iaload) 22 := im_D.of (by decide +kernel)
theorem D434_22 {g : im_g} : im_D g 434 22 (.iastore) 23 := im_D.of (by decide +kernel)
theorem D434_23 {g : im_g} : im_D g 434 23 (.aload_n 0) 24 := im_D.of (by decide +kernel)
theorem D434_24 {g : im_g} : im_D g 434 24 (.aload_n 0) 25 := im_D.of (by decide +kernel)
theorem D434_25 {g : im_g} : im_D g 434 25 (.getfield 45) 28 := im_D.of (by decide +kernel)
theorem D434_28 {g : im_g} : im_D g 434 28 (.iload_n 2) 29 := im_D.of (by decide +kernel)
theorem D434_29 {g : im_g} : im_D g 434 29 (.iaload) 30 := im_D.of (by decide +kernel)
theorem D434_30 {g : im_g} : im_D g 434 30 (.invokevirtual 956) 33 := im_D.of (by decide +kernel)
theorem D434_33 {g : im_g} : im_D g 434 33 (.istore_n 3) 34 := im_D.of (by decide +kernel)
theorem D434_34 {g : im_g} : im_D g 434 34 (.aload_n 0) 35 := im_D.of (by decide +kernel)
theorem D434_35 {g : im_g} : im_D g 434 35 (.getfield 452) 38 := im_D.of (by decide +kernel)
theorem D434_38 {g : im_g} : im_D g 434 38 (.ifCond .ne 23) 41 := im_D.of (by decide +kernel)
theorem D434_41 {g : im_g} : im_D g 434 41 (.aload_n 0) 42 := im_D.of (by decide +kernel)
theorem D434_42 {g : im_g} : im_D g 434 42 (.getfield 33) 45 := im_D.of (by decide +kernel)
theorem D434_45 {g : im_g} : im_D g 434 45 (.iload_n 2) 46 := im_D.of (by decide +kernel)
theorem D434_46 {g : im_g} : im_D g 434 46 (.iaload) 47 := im_D.of (by decide +kernel)
theorem D434_47 {g : im_g} : im_D g 434 47 (.bipush 8) 49 := im_D.of (by decide +kernel)
theorem D434_49 {g : im_g} : im_D g 434 49 (.if_icmp .eq 8) 52 := im_D.of (by decide +kernel)
theorem D434_52 {g : im_g} : im_D g 434 52 (.iload_n 3) 53 := im_D.of (by decide +kernel)
theorem D434_53 {g : im_g} : im_D g 434 53 (.iconst 1) 54 := im_D.of (by decide +kernel)
theorem D434_54 {g : im_g} : im_D g 434 54 (.if_icmp .ne 7) 57 := im_D.of (by decide +kernel)
theorem D434_57 {g : im_g} : im_D g 434 57 (.iconst 1) 58 := im_D.of (by decide +kernel)
theorem D434_58 {g : im_g} : im_D g 434 58 (.goto 4) 61 := im_D.of (by decide +kernel)
theorem D434_61 {g : im_g} : im_D g 434 61 (.iconst 0) 62 := im_D.of (by decide +kernel)
theorem D434_62 {g : im_g} : im_D g 434 62 (.istore 4) 64 := im_D.of (by decide +kernel)
theorem D434_64 {g : im_g} : im_D g 434 64 (.iload 4) 66 := im_D.of (by decide +kernel)
theorem D434_66 {g : im_g} : im_D g 434 66 (.ifCond .eq 24) 69 := im_D.of (by decide +kernel)
theorem D434_69 {g : im_g} : im_D g 434 69 (.aload_n 0) 70 := im_D.of (by decide +kernel)
theorem D434_70 {g : im_g} : im_D g 434 70 (.iload_n 2) 71 := im_D.of (by decide +kernel)
theorem D434_71 {g : im_g} : im_D g 434 71 (.aload_n 0) 72 := im_D.of (by decide +kernel)
theorem D434_72 {g : im_g} : im_D g 434 72 (.getfield 33) 75 := im_D.of (by decide +kernel)
theorem D434_75 {g : im_g} : im_D g 434 75 (.iload_n 2) 76 := im_D.of (by decide +kernel)
theorem D434_76 {g : im_g} : im_D g 434 76 (.iaload) 77 := im_D.of (by decide +kernel)
theorem D434_77 {g : im_g} : im_D g 434 77 (.bipush 8) 79 := im_D.of (by decide +kernel)
theorem D434_79 {g : im_g} : im_D g 434 79 (.if_icmp .ne 7) 82 := im_D.of (by decide +kernel)
theorem D434_82 {g : im_g} : im_D g 434 82 (.iload_n 3) 83 := im_D.of (by decide +kernel)
theorem D434_83 {g : im_g} : im_D g 434 83 (.goto 4) 86 := im_D.of (by decide +kernel)
theorem D434_86 {g : im_g} : im_D g 434 86 (.iconst (-1)) 87 := im_D.of (by decide +kernel)
theorem D434_87 {g : im_g} : im_D g 434 87 (.invokevirtual 1092) 90 := im_D.of (by decide +kernel)
theorem D434_90 {g : im_g} : im_D g 434 90 (.iload 4) 92 := im_D.of (by decide +kernel)
theorem D434_92 {g : im_g} : im_D g 434 92 (.ireturn) 93 := im_D.of (by decide +kernel)
theorem D434_93 {g : im_g} : im_D g 434 93 (.aload_n 0) 94 := im_D.of (by decide +kernel)
theorem D434_94 {g : im_g} : im_D g 434 94 (.getfield 67) 97 := im_D.of (by decide +kernel)
theorem D434_97 {g : im_g} : im_D g 434 97 (.iload_n 2) 98 := im_D.of (by decide +kernel)
theorem D434_98 {g : im_g} : im_D g 434 98 (.iaload) 99 := im_D.of (by decide +kernel)
theorem D434_99 {g : im_g} : im_D g 434 99 (.aload_n 0) 100 := im_D.of (by decide +kernel)
theorem D434_100 {g : im_g} : im_D g 434 100 (.getfield 375) 103 := im_D.of (by decide +kernel)
theorem D434_103 {g : im_g} : im_D g 434 103 (.iload_n 1) 104 := im_D.of (by decide +kernel)
theorem D434_104 {g : im_g} : im_D g 434 104 (.iaload) 105 := im_D.of (by decide +kernel)
theorem D434_105 {g : im_g} : im_D g 434 105 (.iconst 2) 106 := im_D.of (by decide +kernel)
theorem D434_106 {g : im_g} : im_D g 434 106 (.idiv) 107 := im_D.of (by decide +kernel)
theorem D434_107 {g : im_g} : im_D g 434 107 (.iadd) 108 := im_D.of (by decide +kernel)
theorem D434_108 {g : im_g} : im_D g 434 108 (.istore_n 3) 109 := im_D.of (by decide +kernel)
theorem D434_109 {g : im_g} : im_D g 434 109 (.aload_n 0) 110 := im_D.of (by decide +kernel)
theorem D434_110 {g : im_g} : im_D g 434 110 (.getfield 375) 113 := im_D.of (by decide +kernel)
theorem D434_113 {g : im_g} : im_D g 434 113 (.iload_n 1) 114 := im_D.of (by decide +kernel)
theorem D434_114 {g : im_g} : im_D g 434 114 (.iaload) 115 := im_D.of (by decide +kernel)
theorem D434_115 {g : im_g} : im_D g 434 115 (.iconst 2) 116 := im_D.of (by decide +kernel)
theorem D434_116 {g : im_g} : im_D g 434 116 (.irem) 117 := im_D.of (by decide +kernel)
theorem D434_117 {g : im_g} : im_D g 434 117 (.iconst 1) 118 := im_D.of (by decide +kernel)
theorem D434_118 {g : im_g} : im_D g 434 118 (.if_icmp .ne 7) 121 := im_D.of (by decide +kernel)
theorem D434_121 {g : im_g} : im_D g 434 121 (.iconst 1) 122 := im_D.of (by decide +kernel)
theorem D434_122 {g : im_g} : im_D g 434 122 (.goto 4) 125 := im_D.of (by decide +kernel)
theorem D434_125 {g : im_g} : im_D g 434 125 (.iconst 0) 126 := im_D.of (by decide +kernel)
theorem D434_126 {g : im_g} : im_D g 434 126 (.istore 4) 128 := im_D.of (by decide +kernel)
theorem D434_128 {g : im_g} : im_D g 434 128 (.aload_n 0) 129 := im_D.of (by decide +kernel)
theorem D434_129 {g : im_g} : im_D g 434 129 (.getfield 375) 132 := im_D.of (by decide +kernel)
theorem D434_132 {g : im_g} : im_D g 434 132 (.iload_n 1) 133 := im_D.of (by decide +kernel)
theorem D434_133 {g : im_g} : im_D g 434 133 (.dup2) 134 := im_D.of (by decide +kernel)
theorem D434_134 {g : im_g} : im_D g 434 134 (.iaload) 135 := im_D.of (by decide +kernel)
theorem D434_135 {g : im_g} : im_D g 434 135 (.iconst 1) 136 := im_D.of (by decide +kernel)
theorem D434_136 {g : im_g} : im_D g 434 136 (.iadd) 137 := im_D.of (by decide +kernel)
theorem D434_137 {g : im_g} : im_D g 434 137 (.iastore) 138 := im_D.of (by decide +kernel)
theorem D434_138 {g : im_g} : im_D g 434 138 (.aload_n 0) 139 := im_D.of (by decide +kernel)
theorem D434_139 {g : im_g} : im_D g 434 139 (.getfield 375) 142 := im_D.of (by decide +kernel)
theorem D434_142 {g : im_g} : im_D g 434 142 (.iload_n 1) 143 := im_D.of (by decide +kernel)
theorem D434_143 {g : im_g} : im_D g 434 143 (.iaload) 144 := im_D.of (by decide +kernel)
theorem D434_144 {g : im_g} : im_D g 434 144 (.iconst 2) 145 := im_D.of (by decide +kernel)
theorem D434_145 {g : im_g} : im_D g 434 145 (.aload_n 0) 146 := im_D.of (by decide +kernel)
theorem D434_146 {g : im_g} : im_D g 434 146 (.getfield 70) 149 := im_D.of (by decide +kernel)
theorem D434_149 {g : im_g} : im_D g 434 149 (.iload_n 2) 150 := im_D.of (by decide +kernel)
theorem D434_150 {g : im_g} : im_D g 434 150 (.iaload) 151 := im_D.of (by decide +kernel)
theorem D434_151 {g : im_g} : im_D g 434 151 (.imul) 152 := im_D.of (by decide +kernel)
theorem D434_152 {g : im_g} : im_D g 434 152 (.if_icmp .ne 22) 155 := im_D.of (by decide +kernel)
theorem D434_155 {g : im_g} : im_D g 434 155 (.aload_n 0) 156 := im_D.of (by decide +kernel)
theorem D434_156 {g : im_g} : im_D g 434 156 (.getfield 375) 159 := im_D.of (by decide +kernel)
theorem D434_159 {g : im_g} : im_D g 434 159 (.iload_n 1) 160 := im_D.of (by decide +kernel)
theorem D434_160 {g : im_g} : im_D g 434 160 (.iconst 0) 161 := im_D.of (by decide +kernel)
theorem D434_161 {g : im_g} : im_D g 434 161 (.iastore) 162 := im_D.of (by decide +kernel)
theorem D434_162 {g : im_g} : im_D g 434 162 (.aload_n 0) 163 := im_D.of (by decide +kernel)
theorem D434_163 {g : im_g} : im_D g 434 163 (.getfield 372) 166 := im_D.of (by decide +kernel)
theorem D434_166 {g : im_g} : im_D g 434 166 (.iload_n 1) 167 := im_D.of (by decide +kernel)
theorem D434_167 {g : im_g} : im_D g 434 167 (.aload_n 0) 168 := im_D.of (by decide +kernel)
theorem D434_168 {g : im_g} : im_D g 434 168 (.getfield 54) 171 := im_D.of (by decide +kernel)
theorem D434_171 {g : im_g} : im_D g 434 171 (.iload_n 2) 172 := im_D.of (by decide +kernel)
theorem D434_172 {g : im_g} : im_D g 434 172 (.iaload) 173 := im_D.of (by decide +kernel)
theorem D434_173 {g : im_g} : im_D g 434 173 (.iastore) 174 := im_D.of (by decide +kernel)
theorem D434_174 {g : im_g} : im_D g 434 174 (.iload 4) 176 := im_D.of (by decide +kernel)
theorem D434_176 {g : im_g} : im_D g 434 176 (.ifCond .eq 22) 179 := im_D.of (by decide +kernel)
theorem D434_179 {g : im_g} : im_D g 434 179 (.aload_n 0) 180 := im_D.of (by decide +kernel)
theorem D434_180 {g : im_g} : im_D g 434 180 (.aload_n 0) 181 := im_D.of (by decide +kernel)
theorem D434_181 {g : im_g} : im_D g 434 181 (.getfield 73) 184 := im_D.of (by decide +kernel)
theorem D434_184 {g : im_g} : im_D g 434 184 (.iload_n 3) 185 := im_D.of (by decide +kernel)
theorem D434_185 {g : im_g} : im_D g 434 185 (.iaload) 186 := im_D.of (by decide +kernel)
theorem D434_186 {g : im_g} : im_D g 434 186 (.aload_n 0) 187 := im_D.of (by decide +kernel)
theorem D434_187 {g : im_g} : im_D g 434 187 (.getfield 76) 190 := im_D.of (by decide +kernel)
theorem D434_190 {g : im_g} : im_D g 434 190 (.iload_n 3) 191 := im_D.of (by decide +kernel)
theorem D434_191 {g : im_g} : im_D g 434 191 (.iaload) 192 := im_D.of (by decide +kernel)
theorem D434_192 {g : im_g} : im_D g 434 192 (.invokevirtual 674) 195 := im_D.of (by decide +kernel)
theorem D434_195 {g : im_g} : im_D g 434 195 (.ifCond .eq 7) 198 := im_D.of (by decide +kernel)
theorem D434_198 {g : im_g} : im_D g 434 198 (.iconst 1) 199 := im_D.of (by decide +kernel)
theorem D434_199 {g : im_g} : im_D g 434 199 (.goto 4) 202 := im_D.of (by decide +kernel)
theorem D434_202 {g : im_g} : im_D g 434 202 (.iconst 0) 203 := im_D.of (by decide +kernel)
theorem D434_203 {g : im_g} : im_D g 434 203 (.istore 5) 205 := im_D.of (by decide +kernel)
theorem D434_205 {g : im_g} : im_D g 434 205 (.iload 5) 207 := im_D.of (by decide +kernel)
theorem D434_207 {g : im_g} : im_D g 434 207 (.ifCond .eq 28) 210 := im_D.of (by decide +kernel)
theorem D434_210 {g : im_g} : im_D g 434 210 (.aload_n 0) 211 := im_D.of (by decide +kernel)
theorem D434_211 {g : im_g} : im_D g 434 211 (.iload_n 2) 212 := im_D.of (by decide +kernel)
theorem D434_212 {g : im_g} : im_D g 434 212 (.iload 4) 214 := im_D.of (by decide +kernel)
theorem D434_214 {g : im_g} : im_D g 434 214 (.ifCond .eq 12) 217 := im_D.of (by decide +kernel)
theorem D434_217 {g : im_g} : im_D g 434 217 (.aload_n 0) 218 := im_D.of (by decide +kernel)
theorem D434_218 {g : im_g} : im_D g 434 218 (.getfield 76) 221 := im_D.of (by decide +kernel)
theorem D434_221 {g : im_g} : im_D g 434 221 (.iload_n 3) 222 := im_D.of (by decide +kernel)
theorem D434_222 {g : im_g} : im_D g 434 222 (.iaload) 223 := im_D.of (by decide +kernel)
theorem D434_223 {g : im_g} : im_D g 434 223 (.goto 9) 226 := im_D.of (by decide +kernel)
theorem D434_226 {g : im_g} : im_D g 434 226 (.aload_n 0) 227 := im_D.of (by decide +kernel)
theorem D434_227 {g : im_g} : im_D g 434 227 (.getfield 73) 230 := im_D.of (by decide +kernel)
theorem D434_230 {g : im_g} : im_D g 434 230 (.iload_n 3) 231 := im_D.of (by decide +kernel)
theorem D434_231 {g : im_g} : im_D g 434 231 (.iaload) 232 := im_D.of (by decide +kernel)
theorem D434_232 {g : im_g} : im_D g 434 232 (.invokevirtual 1092) 235 := im_D.of (by decide +kernel)
theorem D434_235 {g : im_g} : im_D g 434 235 (.iload 5) 237 := im_D.of (by decide +kernel)
theorem D434_237 {g : im_g} : im_D g 434 237 (.ireturn) 238 := im_D.of (by decide +kernel)
theorem D435_0 {g : im_g} : im_D g 435 0 (.aload_n 0) 1 := im_D.of (by decide +kernel)
theorem D435_1 {g : im_g} : im_D g 435 1 (.iconst 1) 2 := im_D.of (by decide +kernel)
theorem D435_2 {g : im_g} : im_D g 435 2 (.putfield 723) 5 := im_D.of (by decide +kernel)
theorem D435_5 {g : im_g} : im_D g 435 5 (.aload_n 0) 6 := im_D.of (by decide +kernel)
theorem D435_6 {g : im_g} : im_D g 435 6 (.getfield 91) 9 := im_D.of (by decide +kernel)
theorem D435_9 {g : im_g} : im_D g 435 9 (.iconst 0) 10 := im_D.of (by decide +kernel)
theorem D435_10 {g : im_g} : im_D g 435 10 (.aload_n 0) 11 := im_D.of (by decide +kernel)
theorem D435_11 {g : im_g} : im_D g 435 11 (.getfield 33) 14 := im_D.of (by decide +kernel)
theorem D435_14 {g : im_g} : im_D g 435 14 (.iload_n 1) 15 := im_D.of (by decide +kernel)
theorem D435_15 {g : im_g} : im_D g 435 15 (.iaload) 16 := im_D.of (by decide +kernel)
theorem D435_16 {g : im_g} : im_D g 435 16 (.iastore) 17 := im_D.of (by decide +kernel)
theorem D435_17 {g : im_g} : im_D g 435 17 (.aload_n 0) 18 := im_D.of (by decide +kernel)
theorem D435_18 {g : im_g} : im_D g 435 18 (.getfield 94) 21 := im_D.of (by decide +kernel)
theorem D435_21 {g : im_g} : im_D g 435 21 (.iconst 0) 22 := im_D.of (by decide +kernel)
theorem D435_22 {g : im_g} : im_D g 435 22 (.aload_n 0) 23 := im_D.of (by decide +kernel)
theorem D435_23 {g : im_g} : im_D g 435 23 (.getfield 36) 26 := im_D.of (by decide +kernel)
theorem D435_26 {g : im_g} : im_D g 435 26 (.iload_n 1) 27 := im_D.of (by decide +kernel)
theorem D435_27 {g : im_g} : im_D g 435 27 (.laload) 28 := im_D.of (by decide +kernel)
theorem D435_28 {g : im_g} : im_D g 435 28 (.lastore) 29 := im_D.of (by decide +kernel)
theorem D435_29 {g : im_g} : im_D g 435 29 (.aload_n 0) 30 := im_D.of (by decide +kernel)
theorem D435_30 {g : im_g} : im_D g 435 30 (.getfield 97) 33 := im_D.of (by decide +kernel)
theorem D435_33 {g : im_g} : im_D g 435 33 (.iconst 0) 34 := im_D.of (by decide +kernel)
theorem D435_34 {g : im_g} : im_D g 435 34 (.aload_n 0) 35 := im_D.of (by decide +kernel)
theorem D435_35 {g : im_g} : im_D g 435 35 (.getfield 39) 38 := im_D.of (by decide +kernel)
theorem D435_38 {g : im_g} : im_D g 435 38 (.iload_n 1) 39 := im_D.of (by decide +kernel)
theorem D435_39 {g : im_g} : im_D g 435 39 (.laload) 40 := im_D.of (by decide +kernel)
theorem D435_40 {g : im_g} : im_D g 435 40 (.lastore) 41 := im_D.of (by decide +kernel)
theorem D435_41 {g : im_g} : im_D g 435 41 (.aload_n 0) 42 := im_D.of (by decide +kernel)
theorem D435_42 {g : im_g} : im_D g 435 42 (.getfield 100) 45 := im_D.of (by decide +kernel)
theorem D435_45 {g : im_g} : im_D g 435 45 (.iconst 0) 46 := im_D.of (by decide +kernel)
theorem D435_46 {g : im_g} : im_D g 435 46 (.aload_n 0) 47 := im_D.of (by decide +kernel)
theorem D435_47 {g : im_g} : im_D g 435 47 (.getfield 42) 50 := im_D.of (by decide +kernel)
theorem D435_50 {g : im_g} : im_D g 435 50 (.iload_n 1) 51 := im_D.of (by decide +kernel)
theorem D435_51 {g : im_g} : im_D g 435 51 (.laload) 52 := im_D.of (by decide +kernel)
theorem D435_52 {g : im_g} : im_D g 435 52 (.lastore) 53 := im_D.of (by decide +kernel)
theorem D435_53 {g : im_g} : im_D g 435 53 (.aload_n 0) 54 := im_D.of (by decide +kernel)
theorem D435_54 {g : im_g} : im_D g 435 54 (.getfield 103) 57 := im_D.of (by decide +kernel)
theorem D435_57 {g : im_g} : im_D g 435 57 (.iconst 0) 58 := im_D.of (by decide +kernel)
theorem D435_58 {g : im_g} : im_D g 435 58 (.iload_n 2) 59 := im_D.of (by decide +kernel)
theorem D435_59 {g : im_g} : im_D g 435 59 (.iastore) 60 := im_D.of (by decide +kernel)
theorem D435_60 {g : im_g} : im_D g 435 60 (.return_) 61 := im_D.of (by decide +kernel)
theorem D436_0 {g : im_g} : im_D g 436 0 (.aload_n 0) 1 := im_D.of (by decide +kernel)
theorem D436_1 {g : im_g} : im_D g 436 1 (.getfield 378) 4 := im_D.of (by decide +kernel)
theorem D436_4 {g : im_g} : im_D g 436 4 (.iload_n 1) 5 := im_D.of (by decide +kernel)
theorem D436_5 {g : im_g} : im_D g 436 5 (.aload_n 0) 6 := im_D.of (by decide +kernel)
theorem D436_6 {g : im_g} : im_D g 436 6 (.getfield 723) 9 := im_D.of (by decide +kernel)
theorem D436_9 {g : im_g} : im_D g 436 9 (.ifCond .ne 7) 12 := im_D.of (by decide +kernel)
theorem D436_12 {g : im_g} : im_D g 436 12 (.iconst 0) 13 := im_D.of (by decide +kernel)
theorem D436_13 {g : im_g} : im_D g 436 13 (.goto 9) 16 := im_D.of (by decide +kernel)
theorem D436_16 {g : im_g} : im_D g 436 16 (.aload_n 0) 17 := im_D.of (by decide +kernel)
theorem D436_17 {g : im_g} : im_D g 436 17 (.getfield 91) 20 := im_D.of (by decide +kernel)
theorem D436_20 {g : im_g} : im_D g 436 20 (.iconst 0) 21 := im_D.of (by decide +kernel)
theorem D436_21 {g : im_g} : im_D g 436 21 (.iaload) 22 := im_D.of (by decide +kernel)
theorem D436_22 {g : im_g} : im_D g 436 22 (.iastore) 23 := im_D.of (by decide +kernel)
theorem D436_23 {g : im_g} : im_D g 436 23 (.aload_n 0) 24 := im_D.of (by decide +kernel)
theorem D436_24 {g : im_g} : im_D g 436 24 (.getfield 381) 27 := im_D.of (by decide +kernel)
theorem D436_27 {g : im_g} : im_D g 436 27 (.iload_n 1) 28 := im_D.of (by decide +kernel)
theorem D436_28 {g : im_g} : im_D g 436 28 (.aload_n 0) 29 := im_D.of (by decide +kernel)
theorem D436_29 {g : im_g} : im_D g 436 29 (.getfield 94) 32 := im_D.of (by decide +kernel)
theorem D436_32 {g : im_g} : im_D g 436 32 (.iconst 0) 33 := im_D.of (by decide +kernel)
theorem D436_33 {g : im_g} : im_D g 436 33 (.laload) 34 := im_D.of (by decide +kernel)
theorem D436_34 {g : im_g} : im_D g 436 34 (.lastore) 35 := im_D.of (by decide +kernel)
theorem D436_35 {g : im_g} : im_D g 436 35 (.aload_n 0) 36 := im_D.of (by decide +kernel)
theorem D436_36 {g : im_g} : im_D g 436 36 (.getfield 384) 39 := im_D.of (by decide +kernel)
theorem D436_39 {g : im_g} : im_D g 436 39 (.iload_n 1) 40 := im_D.of (by decide +kernel)
theorem D436_40 {g : im_g} : im_D g 436 40 (.aload_n 0) 41 := im_D.of (by decide +kernel)
theorem D436_41 {g : im_g} : im_D g 436 41 (.getfield 97) 44 := im_D.of (by decide +kernel)
theorem D436_44 {g : im_g} : im_D g 436 44 (.iconst 0) 45 := im_D.of (by decide +kernel)
theorem D436_45 {g : im_g} : im_D g 436 45 (.laload) 46 := im_D.of (by decide +kernel)
theorem D436_46 {g : im_g} : im_D g 436 46 (.lastore) 47 := im_D.of (by decide +kernel)
theorem D436_47 {g : im_g} : im_D g 436 47 (.aload_n 0) 48 := im_D.of (by decide +kernel)
theorem D436_48 {g : im_g} : im_D g 436 48 (.getfield 387) 51 := im_D.of (by decide +kernel)
theorem D436_51 {g : im_g} : im_D g 436 51 (.iload_n 1) 52 := im_D.of (by decide +kernel)
theorem D436_52 {g : im_g} : im_D g 436 52 (.aload_n 0) 53 := im_D.of (by decide +kernel)
theorem D436_53 {g : im_g} : im_D g 436 53 (.getfield 100) 56 := im_D.of (by decide +kernel)
theorem D436_56 {g : im_g} : im_D g 436 56 (.iconst 0) 57 := im_D.of (by decide +kernel)
theorem D436_57 {g : im_g} : im_D g 436 57 (.laload) 58 := im_D.of (by decide +kernel)
theorem D436_58 {g : im_g} : im_D g 436 58 (.lastore) 59 := im_D.of (by decide +kernel)
theorem D436_59 {g : im_g} : im_D g 436 59 (.aload_n 0) 60 := im_D.of (by decide +kernel)
theorem D436_60 {g : im_g} : im_D g 436 60 (.getfield 390) 63 := im_D.of (by decide +kernel)
theorem D436_63 {g : im_g} : im_D g 436 63 (.iload_n 1) 64 := im_D.of (by decide +kernel)
theorem D436_64 {g : im_g} : im_D g 436 64 (.aload_n 0) 65 := im_D.of (by decide +kernel)
theorem D436_65 {g : im_g} : im_D g 436 65 (.getfield 103) 68 := im_D.of (by decide +kernel)
theorem D436_68 {g : im_g} : im_D g 436 68 (.iconst 0) 69 := im_D.of (by decide +kernel)
theorem D436_69 {g : im_g} : im_D g 436 69 (.iaload) 70 := im_D.of (by decide +kernel)
theorem D436_70 {g : im_g} : im_D g 436 70 (.iastore) 71 := im_D.of (by decide +kernel)
theorem D436_71 {g : im_g} : im_D g 436 71 (.aload_n 0) 72 := im_D.of (by decide +kernel)
theorem D436_72 {g : im_g} : im_D g 436 72 (.getfield 393) 75 := im_D.of (by decide +kernel)
theorem D436_75 {g : im_g} : im_D g 436 75 (.iload_n 1) 76 := im_D.of (by decide +kernel)
theorem D436_76 {g : im_g} : im_D g 436 76 (.aload_n 0) 77 := im_D.of (by decide +kernel)
theorem D436_77 {g : im_g} : im_D g 436 77 (.getfield 1089) 80 := im_D.of (by decide +kernel)
theorem D436_80 {g : im_g} : im_D g 436 80 (.lastore) 81 := im_D.of (by decide +kernel)
theorem D436_81 {g : im_g} : im_D g 436 81 (.return_) 82 := im_D.of (by decide +kernel)
theorem D437_0 {g : im_g} : im_D g 437 0 (.iconst 0) 1 := im_D.of (by decide +kernel)
theorem D437_1 {g : im_g} : im_D g 437 1 (.istore_n 2) 2 := im_D.of (by decide +kernel)
theorem D437_2 {g : im_g} : im_D g 437 2 (.iconst 0) 3 := im_D.of (by decide +kernel)
theorem D437_3 {g : im_g} : im_D g 437 3 (.istore_n 3) 4 := im_D.of (by decide +kernel)
theorem D437_4 {g : im_g} : im_D g 437 4 (.iload_n 3) 5 := im_D.of (by decide +kernel)
theorem D437_5 {g : im_g} : im_D g 437 5 (.aload_n 0) 6 := im_D.of (by decide +kernel)
theorem D437_6 {g : im_g} : im_D g 437 6 (.getfield 981) 9 := im_D.of (by decide +kernel)
theorem D437_9 {g : im_g} : im_D g 437 9 (.if_icmp .ge 35) 12 := im_D.of (by decide +kernel)
theorem D437_12 {g : im_g} : im_D g 437 12 (.iload_n 2) 13 := im_D.of (by decide +kernel)
theorem D437_13 {g : im_g} : im_D g 437 13 (.ifCond .ne 19) 16 := im_D.of (by decide +kernel)
theorem D437_16 {g : im_g} : im_D g 437 16 (.iload_n 1) 17 := im_D.of (by decide +kernel)
theorem D437_17 {g : im_g} : im_D g 437 17 (.aload_n 0) 18 := im_D.of (by decide +kernel)
theorem D437_18 {g : im_g} : im_D g 437 18 (.getfield 234) 21 := im_D.of (by decide +kernel)
theorem D437_21 {g : im_g} : im_D g 437 21 (.iload_n 3) 22 := im_D.of (by decide +kernel)
theorem D437_22 {g : im_g} : im_D g 437 22 (.iaload) 23 := im_D.of (by decide +kernel)
theorem D437_23 {g : im_g} : im_D g 437 23 (.iconst 1) 24 := im_D.of (by decide +kernel)
theorem D437_24 {g : im_g} : im_D g 437 24 (.isub) 25 := im_D.of (by decide +kernel)
theorem D437_25 {g : im_g} : im_D g 437 25 (.ishr) 26 := im_D.of (by decide +kernel)
theorem D437_26 {g : im_g} : im_D g 437 26 (.iconst 1) 27 := im_D.of (by decide +kernel)
theorem D437_27 {g : im_g} : im_D g 437 27 (.iand) 28 := im_D.of (by decide +kernel)
theorem D437_28 {g : im_g} : im_D g 437 28 (.iconst 1) 29 := im_D.of (by decide +kernel)
theorem D437_29 {g : im_g} : im_D g 437 29 (.if_icmp .ne 7) 32 := im_D.of (by decide +kernel)
theorem D437_32 {g : im_g} : im_D g 437 32 (.iconst 1) 33 := im_D.of (by decide +kernel)
theorem D437_33 {g : im_g} : im_D g 437 33 (.goto 4) 36 := im_D.of (by decide +kernel)
theorem D437_36 {g : im_g} : im_D g 437 36 (.iconst 0) 37 := im_D.of (by decide +kernel)
theorem D437_37 {g : im_g} : im_D g 437 37 (.istore_n 2) 38 := im_D.of (by decide +kernel)
theorem D437_38 {g : im_g} : im_D g 437 38 (.iinc 3 1) 41 := im_D.of (by decide +kernel)
theorem D437_41 {g : im_g} : im_D g 437 41 (.goto (-37)) 44 := im_D.of (by decide +kernel)
theorem D437_44 {g : im_g} : im_D g 437 44 (.iload_n 2) 45 := im_D.of (by decide +kernel)
theorem D437_45 {g : im_g} : im_D g 437 45 (.ireturn) 46 := im_D.of (by decide +kernel)
set_option maxRecDepth 20000 in
set_option maxHeartbeats 4000000 in
theorem b_keepLevel_0 {g : im_g} {d : Nat} {e : im_E} {M : im_M} {K : im_K} {p1 : Int} (hP : (0 ≤ p1 ∧ p1 < 402) ∧ im_T g d 431 62 [some (.ref 6952), some (vI p1), some (vI 0), none] [] e (im_u (im_u (im_u (im_u (im_u (im_u M 7057 p1 (M 6952 83)) 7058 p1 (M 6952 84)) 7059 p1 (M 6952 7)) 7060 p1 (M 6952 85)) 7064 p1 (M 6952 89)) 7068 p1 (M 6952 93)) K) : im_T g d 431 0 [some (.ref 6952), some (vI p1), none, none] [] e M K := by
  refine im_ld (q := 1) (i := 0) D431_0 rfl rfl rfl ?_
  refine im_gfR (q := 4) (b := 7057) D431_1 (im_fl cn_431 fl_12_327) sf_6952 rfl rfl tR_12_151 rf_6952_151 ?_
  refine im_ld (q := 5) (i := 1) D431_4 rfl rfl rfl ?_
  refine im_ld (q := 6) (i := 0) D431_5 rfl rfl rfl ?_
  refine im_rng (j := 83) sf_6952 (by decide) (by decide) (fun hr1 => ?_)
  refine im_gfI (q := 9) D431_6 (im_fl cn_431 fl_12_858) sf_6952 rfl rfl tI_12_83 rfl ?_
  obtain ⟨hg2, hP⟩ := hP
  refine im_iast (q := 10) D431_9 sf_7057 hg2.1 hg2.2 (by decide) hr1 ?_
  refine im_ld (q := 11) (i := 0) D431_10 rfl rfl rfl ?_
  refine im_gfR (q := 14) (b := 7058) D431_11 (im_fl cn_431 fl_12_330) sf_6952 rfl rfl tR_12_152 rf_6952_152 ?_
  refine im_ld (q := 15) (i := 1) D431_14 rfl rfl rfl ?_
  refine im_ld (q := 16) (i := 0) D431_15 rfl rfl rfl ?_
  refine im_rng (j := 84) sf_6952 (by decide) (by decide) (fun hr3 => ?_)
  refine im_gfL (q := 19) D431_16 (im_fl cn_431 fl_12_861) sf_6952 rfl rfl tL_12_84 (im_rdn _ _ _ _ (by decide)) ?_
  refine im_last (q := 20) D431_19 sf_7058 hg2.1 hg2.2 (by decide) (im_rgc hr3 (im_rdn _ _ _ _ (by decide))) ?_
  refine im_ld (q := 21) (i := 0) D431_20 rfl rfl rfl ?_
  refine im_gfR (q := 24) (b := 7059) D431_21 (im_fl cn_431 fl_12_333) sf_6952 rfl rfl tR_12_153 rf_6952_153 ?_
  refine im_ld (q := 25) (i := 1) D431_24 rfl rfl rfl ?_
  refine im_ld (q := 26) (i := 0) D431_25 rfl rfl rfl ?_
  refine im_rng (j := 7) sf_6952 (by decide) (by decide) (fun hr4 => ?_)
  refine im_gfI (q := 29) D431_26 (im_fl cn_431 fl_12_449) sf_6952 rfl rfl tI_12_7 ((im_rdn _ _ _ _ (by decide)).trans (im_rdn _ _ _ _ (by decide))) ?_
  refine im_iast (q := 30) D431_29 sf_7059 hg2.1 hg2.2 (by decide) (im_rgc hr4 ((im_rdn _ _ _ _ (by decide)).trans (im_rdn _ _ _ _ (by decide)))) ?_
  refine im_ld (q := 31) (i := 0) D431_30 rfl rfl rfl ?_
  refine im_gfR (q := 34) (b := 7060) D431_31 (im_fl cn_431 fl_12_336) sf_6952 rfl rfl tR_12_154 rf_6952_154 ?_
  refine im_ld (q := 35) (i := 1) D431_34 rfl rfl rfl ?_
  refine im_ld (q := 36) (i := 0) D431_35 rfl rfl rfl ?_
  refine im_rng (j := 85) sf_6952 (by decide) (by decide) (fun hr5 => ?_)
  refine im_gfI (q := 39) D431_36 (im_fl cn_431 fl_12_864) sf_6952 rfl rfl tI_12_85 ((im_rdn _ _ _ _ (by decide)).trans ((im_rdn _ _ _ _ (by decide)).trans (im_rdn _ _ _ _ (by decide)))) ?_
  refine im_iast (q := 40) D431_39 sf_7060 hg2.1 hg2.2 (by decide) (im_rgc hr5 ((im_rdn _ _ _ _ (by decide)).trans ((im_rdn _ _ _ _ (by decide)).trans (im_rdn _ _ _ _ (by decide))))) ?_
  refine im_ld (q := 41) (i := 0) D431_40 rfl rfl rfl ?_
  refine im_gfR (q := 44) (b := 7064) D431_41 (im_fl cn_431 fl_12_348) sf_6952 rfl rfl tR_12_158 rf_6952_158 ?_
  refine im_ld (q := 45) (i := 1) D431_44 rfl rfl rfl ?_
  refine im_ld (q := 46) (i := 0) D431_45 rfl rfl rfl ?_
  refine im_rng (j := 89) sf_6952 (by decide) (by decide) (fun hr6 => ?_)
  refine im_gfI (q := 49) D431_46 (im_fl cn_431 fl_12_867) sf_6952 rfl rfl tI_12_89 ((im_rdn _ _ _ _ (by decide)).trans ((im_rdn _ _ _ _ (by decide)).trans ((im_rdn _ _ _ _ (by decide)).trans (im_rdn _ _ _ _ (by decide))))) ?_
  refine im_iast (q := 50) D431_49 sf_7064 hg2.1 hg2.2 (by decide) (im_rgc hr6 ((im_rdn _ _ _ _ (by decide)).trans ((im_rdn _ _ _ _ (by decide)).trans ((im_rdn _ _ _ _ (by decide)).trans (im_rdn _ _ _ _ (by decide)))))) ?_
  refine im_ld (q := 51) (i := 0) D431_50 rfl rfl rfl ?_
  refine im_gfR (q := 54) (b := 7068) D431_51 (im_fl cn_431 fl_12_360) sf_6952 rfl rfl tR_12_162 rf_6952_162 ?_
  refine im_ld (q := 55) (i := 1) D431_54 rfl rfl rfl ?_
  refine im_ld (q := 56) (i := 0) D431_55 rfl rfl rfl ?_
  refine im_rng (j := 93) sf_6952 (by decide) (by decide) (fun hr7 => ?_)
  refine im_gfI (q := 59) D431_56 (im_fl cn_431 fl_12_870) sf_6952 rfl rfl tI_12_93 ((im_rdn _ _ _ _ (by decide)).trans ((im_rdn _ _ _ _ (by decide)).trans ((im_rdn _ _ _ _ (by decide)).trans ((im_rdn _ _ _ _ (by decide)).trans (im_rdn _ _ _ _ (by decide)))))) ?_
  refine im_iast (q := 60) D431_59 sf_7068 hg2.1 hg2.2 (by decide) (im_rgc hr7 ((im_rdn _ _ _ _ (by decide)).trans ((im_rdn _ _ _ _ (by decide)).trans ((im_rdn _ _ _ _ (by decide)).trans ((im_rdn _ _ _ _ (by decide)).trans (im_rdn _ _ _ _ (by decide))))))) ?_
  refine im_iconst (q := 61) D431_60 ?_
  refine im_st1 (q := 62) (i := 2) (L' := [some (.ref 6952), some (vI p1), some (vI 0), none]) D431_61 (Or.inl ⟨_, rfl, rfl⟩) (Nat.le_of_ble_eq_true rfl) rfl ?_
  exact hP.wk ⟨rfl, rfl, rfl, trivial⟩
set_option maxRecDepth 20000 in
set_option maxHeartbeats 4000000 in
theorem b_keepLevel_62 {g : im_g} {d : Nat} {e : im_E} {M : im_M} {K : im_K} {p1 p2 : Int} (hP : (im_i32 p2) ∧ (((M 6952 85) ≤ p2 → im_T g d 431 129 [some (.ref 6952), some (vI p1), some (vI 0), none] [] e M K) ∧ (p2 < (M 6952 85) → (0 ≤ p2 ∧ p2 < 41) ∧ (0 ≤ ((40 * p1) + p2) ∧ ((40 * p1) + p2) < 16080) ∧ im_T g d 431 62 [some (.ref 6952), some (vI p1), some (vI (p2 + 1)), none] [] e (im_u (im_u (im_u M 7061 ((40 * p1) + p2) (M 7011 p2)) 7062 ((40 * p1) + p2) (M 7012 p2)) 7063 ((40 * p1) + p2) (M 7013 p2)) K))) : im_T g d 431 62 [some (.ref 6952), some (vI p1), some (vI p2), none] [] e M K := by
  refine im_ld (q := 63) (i := 2) D431_62 rfl rfl rfl ?_
  refine im_ld (q := 64) (i := 0) D431_63 rfl rfl rfl ?_
  refine im_rng (j := 85) sf_6952 (by decide) (by decide) (fun hr1 => ?_)
  refine im_gfI (q := 67) D431_64 (im_fl cn_431 fl_12_864) sf_6952 rfl rfl tI_12_85 rfl ?_
  obtain ⟨hg2, hP⟩ := hP
  refine im_icmp (q := 70) (t := 127) D431_67 rfl hg2 hr1 (fun hc3 => ?_) (fun hc3 => ?_)
  · replace hP := hP.1 hc3
    refine im_iconst (q := 128) D431_127 ?_
    refine im_st1 (q := 129) (i := 2) (L' := [some (.ref 6952), some (vI p1), some (vI 0), none]) D431_128 (Or.inl ⟨_, rfl, rfl⟩) (Nat.le_of_ble_eq_true rfl) rfl ?_
    exact hP.wk ⟨rfl, rfl, rfl, trivial⟩
  · replace hP := hP.2 (Int.not_le.mp hc3)
    refine im_ld (q := 71) (i := 0) D431_70 rfl rfl rfl ?_
    refine im_gfR (q := 74) (b := 7061) D431_71 (im_fl cn_431 fl_12_339) sf_6952 rfl rfl tR_12_155 rf_6952_155 ?_
    refine im_bipush (q := 76) D431_74 rfl ?_
    refine im_ld (q := 77) (i := 1) D431_76 rfl rfl rfl ?_
    refine im_imul (q := 78) D431_77 ?_
    refine im_ld (q := 79) (i := 2) D431_78 rfl rfl rfl ?_
    refine im_iadd (q := 80) D431_79 ?_
    refine im_ld (q := 81) (i := 0) D431_80 rfl rfl rfl ?_
    refine im_gfR (q := 84) (b := 7011) D431_81 (im_fl cn_431 fl_12_189) sf_6952 rfl rfl tR_12_86 rf_6952_86 ?_
    refine im_ld (q := 85) (i := 2) D431_84 rfl rfl rfl ?_
    obtain ⟨hg4, hP⟩ := hP
    refine im_rng (j := p2) sf_7011 hg4.1 hg4.2 (fun hr5 => ?_)
    refine im_lald (q := 86) D431_85 sf_7011 hg4.1 hg4.2 (by decide) rfl ?_
    obtain ⟨hg6, hP⟩ := hP
    refine im_last (q := 87) D431_86 sf_7061 hg6.1 hg6.2 (by decide) hr5 ?_
    refine im_ld (q := 88) (i := 0) D431_87 rfl rfl rfl ?_
    refine im_gfR (q := 91) (b := 7062) D431_88 (im_fl cn_431 fl_12_342) sf_6952 rfl rfl tR_12_156 rf_6952_156 ?_
    refine im_bipush (q := 93) D431_91 rfl ?_
    refine im_ld (q := 94) (i := 1) D431_93 rfl rfl rfl ?_
    refine im_imul (q := 95) D431_94 ?_
    refine im_ld (q := 96) (i := 2) D431_95 rfl rfl rfl ?_
    refine im_iadd (q := 97) D431_96 ?_
    refine im_ld (q := 98) (i := 0) D431_97 rfl rfl rfl ?_
    refine im_gfR (q := 101) (b := 7012) D431_98 (im_fl cn_431 fl_12_192) sf_6952 rfl rfl tR_12_87 rf_6952_87 ?_
    refine im_ld (q := 102) (i := 2) D431_101 rfl rfl rfl ?_
    refine im_rng (j := p2) sf_7012 hg4.1 hg4.2 (fun hr7 => ?_)
    refine im_lald (q := 103) D431_102 sf_7012 hg4.1 hg4.2 (by decide) (im_rdn _ _ _ _ (by decide)) ?_
    refine im_last (q := 104) D431_103 sf_7062 hg6.1 hg6.2 (by decide) (im_rgc hr7 (im_rdn _ _ _ _ (by decide))) ?_
    refine im_ld (q := 105) (i := 0) D431_104 rfl rfl rfl ?_
    refine im_gfR (q := 108) (b := 7063) D431_105 (im_fl cn_431 fl_12_345) sf_6952 rfl rfl tR_12_157 rf_6952_157 ?_
    refine im_bipush (q := 110) D431_108 rfl ?_
    refine im_ld (q := 111) (i := 1) D431_110 rfl rfl rfl ?_
    refine im_imul (q := 112) D431_111 ?_
    refine im_ld (q := 113) (i := 2) D431_112 rfl rfl rfl ?_
    refine im_iadd (q := 114) D431_113 ?_
    refine im_ld (q := 115) (i := 0) D431_114 rfl rfl rfl ?_
    refine im_gfR (q := 118) (b := 7013) D431_115 (im_fl cn_431 fl_12_195) sf_6952 rfl rfl tR_12_88 rf_6952_88 ?_
    refine im_ld (q := 119) (i := 2) D431_118 rfl rfl rfl ?_
    refine im_rng (j := p2) sf_7013 hg4.1 hg4.2 (fun hr8 => ?_)
    refine im_iald (q := 120) D431_119 sf_7013 hg4.1 hg4.2 (by decide) ((im_rdn _ _ _ _ (by decide)).trans (im_rdn _ _ _ _ (by decide))) ?_
    refine im_iast (q := 121) D431_120 sf_7063 hg6.1 hg6.2 (by decide) (im_rgc hr8 ((im_rdn _ _ _ _ (by decide)).trans (im_rdn _ _ _ _ (by decide)))) ?_
    refine im_iinc (q := 124) (i := 2) (L' := [some (.ref 6952), some (vI p1), some (vI (p2 + 1)), none]) D431_121 rfl (Nat.le_of_ble_eq_true rfl) rfl ?_
    refine im_goto (q := 127) (t := 62) D431_124 rfl ?_
    exact hP.wk ⟨rfl, rfl, rfl, trivial⟩
set_option maxRecDepth 20000 in
set_option maxHeartbeats 4000000 in
theorem b_keepLevel_129 {g : im_g} {d : Nat} {e : im_E} {M : im_M} {K : im_K} {p1 p2 : Int} (hP : (im_i32 p2) ∧ (((M 6952 89) ≤ p2 → im_T g d 431 196 [some (.ref 6952), some (vI p1), some (vI 0), none] [] e M K) ∧ (p2 < (M 6952 89) → (0 ≤ p2 ∧ p2 < 41) ∧ (0 ≤ ((40 * p1) + p2) ∧ ((40 * p1) + p2) < 16080) ∧ im_T g d 431 129 [some (.ref 6952), some (vI p1), some (vI (p2 + 1)), none] [] e (im_u (im_u (im_u M 7065 ((40 * p1) + p2) (M 7014 p2)) 7066 ((40 * p1) + p2) (M 7015 p2)) 7067 ((40 * p1) + p2) (M 7016 p2)) K))) : im_T g d 431 129 [some (.ref 6952), some (vI p1), some (vI p2), none] [] e M K := by
  refine im_ld (q := 130) (i := 2) D431_129 rfl rfl rfl ?_
  refine im_ld (q := 131) (i := 0) D431_130 rfl rfl rfl ?_
  refine im_rng (j := 89) sf_6952 (by decide) (by decide) (fun hr1 => ?_)
  refine im_gfI (q := 134) D431_131 (im_fl cn_431 fl_12_867) sf_6952 rfl rfl tI_12_89 rfl ?_
  obtain ⟨hg2, hP⟩ := hP
  refine im_icmp (q := 137) (t := 194) D431_134 rfl hg2 hr1 (fun hc3 => ?_) (fun hc3 => ?_)
  · replace hP := hP.1 hc3
    refine im_iconst (q := 195) D431_194 ?_
    refine im_st1 (q := 196) (i := 2) (L' := [some (.ref 6952), some (vI p1), some (vI 0), none]) D431_195 (Or.inl ⟨_, rfl, rfl⟩) (Nat.le_of_ble_eq_true rfl) rfl ?_
    exact hP.wk ⟨rfl, rfl, rfl, trivial⟩
  · replace hP := hP.2 (Int.not_le.mp hc3)
    refine im_ld (q := 138) (i := 0) D431_137 rfl rfl rfl ?_
    refine im_gfR (q := 141) (b := 7065) D431_138 (im_fl cn_431 fl_12_351) sf_6952 rfl rfl tR_12_159 rf_6952_159 ?_
    refine im_bipush (q := 143) D431_141 rfl ?_
    refine im_ld (q := 144) (i := 1) D431_143 rfl rfl rfl ?_
    refine im_imul (q := 145) D431_144 ?_
    refine im_ld (q := 146) (i := 2) D431_145 rfl rfl rfl ?_
    refine im_iadd (q := 147) D431_146 ?_
    refine im_ld (q := 148) (i := 0) D431_147 rfl rfl rfl ?_
    refine im_gfR (q := 151) (b := 7014) D431_148 (im_fl cn_431 fl_12_198) sf_6952 rfl rfl tR_12_90 rf_6952_90 ?_
    refine im_ld (q := 152) (i := 2) D431_151 rfl rfl rfl ?_
    obtain ⟨hg4, hP⟩ := hP
    refine im_rng (j := p2) sf_7014 hg4.1 hg4.2 (fun hr5 => ?_)
    refine im_lald (q := 153) D431_152 sf_7014 hg4.1 hg4.2 (by decide) rfl ?_
    obtain ⟨hg6, hP⟩ := hP
    refine im_last (q := 154) D431_153 sf_7065 hg6.1 hg6.2 (by decide) hr5 ?_
    refine im_ld (q := 155) (i := 0) D431_154 rfl rfl rfl ?_
    refine im_gfR (q := 158) (b := 7066) D431_155 (im_fl cn_431 fl_12_354) sf_6952 rfl rfl tR_12_160 rf_6952_160 ?_
    refine im_bipush (q := 160) D431_158 rfl ?_
    refine im_ld (q := 161) (i := 1) D431_160 rfl rfl rfl ?_
    refine im_imul (q := 162) D431_161 ?_
    refine im_ld (q := 163) (i := 2) D431_162 rfl rfl rfl ?_
    refine im_iadd (q := 164) D431_163 ?_
    refine im_ld (q := 165) (i := 0) D431_164 rfl rfl rfl ?_
    refine im_gfR (q := 168) (b := 7015) D431_165 (im_fl cn_431 fl_12_201) sf_6952 rfl rfl tR_12_91 rf_6952_91 ?_
    refine im_ld (q := 169) (i := 2) D431_168 rfl rfl rfl ?_
    refine im_rng (j := p2) sf_7015 hg4.1 hg4.2 (fun hr7 => ?_)
    refine im_lald (q := 170) D431_169 sf_7015 hg4.1 hg4.2 (by decide) (im_rdn _ _ _ _ (by decide)) ?_
    refine im_last (q := 171) D431_170 sf_7066 hg6.1 hg6.2 (by decide) (im_rgc hr7 (im_rdn _ _ _ _ (by decide))) ?_
    refine im_ld (q := 172) (i := 0) D431_171 rfl rfl rfl ?_
    refine im_gfR (q := 175) (b := 7067) D431_172 (im_fl cn_431 fl_12_357) sf_6952 rfl rfl tR_12_161 rf_6952_161 ?_
    refine im_bipush (q := 177) D431_175 rfl ?_
    refine im_ld (q := 178) (i := 1) D431_177 rfl rfl rfl ?_
    refine im_imul (q := 179) D431_178 ?_
    refine im_ld (q := 180) (i := 2) D431_179 rfl rfl rfl ?_
    refine im_iadd (q := 181) D431_180 ?_
    refine im_ld (q := 182) (i := 0) D431_181 rfl rfl rfl ?_
    refine im_gfR (q := 185) (b := 7016) D431_182 (im_fl cn_431 fl_12_204) sf_6952 rfl rfl tR_12_92 rf_6952_92 ?_
    refine im_ld (q := 186) (i := 2) D431_185 rfl rfl rfl ?_
    refine im_rng (j := p2) sf_7016 hg4.1 hg4.2 (fun hr8 => ?_)
    refine im_iald (q := 187) D431_186 sf_7016 hg4.1 hg4.2 (by decide) ((im_rdn _ _ _ _ (by decide)).trans (im_rdn _ _ _ _ (by decide))) ?_
    refine im_iast (q := 188) D431_187 sf_7067 hg6.1 hg6.2 (by decide) (im_rgc hr8 ((im_rdn _ _ _ _ (by decide)).trans (im_rdn _ _ _ _ (by decide)))) ?_
    refine im_iinc (q := 191) (i := 2) (L' := [some (.ref 6952), some (vI p1), some (vI (p2 + 1)), none]) D431_188 rfl (Nat.le_of_ble_eq_true rfl) rfl ?_
    refine im_goto (q := 194) (t := 129) D431_191 rfl ?_
    exact hP.wk ⟨rfl, rfl, rfl, trivial⟩
set_option maxRecDepth 20000 in
set_option maxHeartbeats 4000000 in
theorem b_keepLevel_196 {g : im_g} {d : Nat} {e : im_E} {M : im_M} {K : im_K} {p1 p2 : Int} (hd : 1 ≤ d) (hP : (im_i32 p2) ∧ (((M 6952 93) ≤ p2 → (0 ≤ (M 6952 83) ∧ (M 6952 83) < 5100) ∧ ((¬ (M 6960 (M 6952 83)) = 5 → (((((M 6960 (M 6952 83)) = 1 → (((M 6952 85) = 0 → (0 ≤ p1 ∧ p1 < 402) ∧ K (.inl none) e (im_u (im_u (im_u M 7071 p1 3) 7072 p1 (-1)) 7073 p1 0)))))) ∧ ((((¬ (M 6960 (M 6952 83)) = 1)) ∨ (((M 6960 (M 6952 83)) = 1) ∧ (¬ (M 6952 85) = 0))) → (0 ≤ p1 ∧ p1 < 402) ∧ K (.inl none) e (im_u (im_u (im_u M 7071 p1 0) 7072 p1 (-1)) 7073 p1 0)))) ∧ ((M 6960 (M 6952 83)) = 5 → im_T g (d - 1) 406 0 [some (.ref 6952), some (vI (M 6952 83)), none, none, none] [] e M (im_rl (fun x24 e_ M23 => e = e_ ∧ (im_i64 x24) ∧ ((x24 ≤ (M 6952 84) → (((((M 6960 (M 6952 83)) = 1 → (((M23 6952 85) = 0 → (0 ≤ p1 ∧ p1 < 402) ∧ K (.inl none) e (im_u (im_u (im_u M23 7071 p1 3) 7072 p1 (-1)) 7073 p1 0)))))) ∧ ((((¬ (M 6960 (M 6952 83)) = 1)) ∨ (((M 6960 (M 6952 83)) = 1) ∧ (¬ (M23 6952 85) = 0))) → (0 ≤ p1 ∧ p1 < 402) ∧ K (.inl none) e (im_u (im_u (im_u M23 7071 p1 0) 7072 p1 (-1)) 7073 p1 0)))) ∧ ((M 6952 84) < x24 → (((((M 6960 (M 6952 83)) = 1 → (((M23 6952 85) = 0 → (0 ≤ p1 ∧ p1 < 402) ∧ (0 ≤ (M23 6952 83) ∧ (M23 6952 83) < 5100) ∧ K (.inl none) e (im_u (im_u (im_u M23 7071 p1 3) 7072 p1 (M23 6964 (M23 6952 83))) 7073 p1 0)))))) ∧ ((((¬ (M 6960 (M 6952 83)) = 1)) ∨ (((M 6960 (M 6952 83)) = 1) ∧ (¬ (M23 6952 85) = 0))) → (0 ≤ p1 ∧ p1 < 402) ∧ (0 ≤ (M23 6952 83) ∧ (M23 6952 83) < 5100) ∧ K (.inl none) e (im_u (im_u (im_u M23 7071 p1 1) 7072 p1 (M23 6964 (M23 6952 83))) 7073 p1 0)))))))))) ∧ (p2 < (M 6952 93) → (0 ≤ p2 ∧ p2 < 41) ∧ (0 ≤ ((40 * p1) + p2) ∧ ((40 * p1) + p2) < 16080) ∧ im_T g d 431 196 [some (.ref 6952), some (vI p1), some (vI (p2 + 1)), none] [] e (im_u (im_u M 7069 ((40 * p1) + p2) (M 7017 p2)) 7070 ((40 * p1) + p2) (M 7018 p2)) K))) : im_T g d 431 196 [some (.ref 6952), some (vI p1), some (vI p2), none] [] e M K := by
  refine im_ld (q := 197) (i := 2) D431_196 rfl rfl rfl ?_
  refine im_ld (q := 198) (i := 0) D431_197 rfl rfl rfl ?_
  refine im_rng (j := 93) sf_6952 (by decide) (by decide) (fun hr1 => ?_)
  refine im_gfI (q := 201) D431_198 (im_fl cn_431 fl_12_870) sf_6952 rfl rfl tI_12_93 rfl ?_
  obtain ⟨hg2, hP⟩ := hP
  refine im_icmp (q := 204) (t := 244) D431_201 rfl hg2 hr1 (fun hc3 => ?_) (fun hc3 => ?_)
  · replace hP := hP.1 hc3
    refine im_ld (q := 245) (i := 0) D431_244 rfl rfl rfl ?_
    refine im_gfR (q := 248) (b := 6960) D431_245 (im_fl cn_431 fl_12_33) sf_6952 rfl rfl tR_12_21 rf_6952_21 ?_
    refine im_ld (q := 249) (i := 0) D431_248 rfl rfl rfl ?_
    refine im_rng (j := 83) sf_6952 (by decide) (by decide) (fun hr4 => ?_)
    refine im_gfI (q := 252) D431_249 (im_fl cn_431 fl_12_858) sf_6952 rfl rfl tI_12_83 rfl ?_
    obtain ⟨hg5, hP⟩ := hP
    refine im_rng (j := (M 6952 83)) sf_6960 hg5.1 hg5.2 (fun hr6 => ?_)
    refine im_iald (q := 253) D431_252 sf_6960 hg5.1 hg5.2 (by decide) rfl ?_
    refine im_st1 (q := 254) (i := 2) (L' := [some (.ref 6952), some (vI p1), some (vI (M 6960 (M 6952 83))), none]) D431_253 (Or.inl ⟨_, rfl, rfl⟩) (Nat.le_of_ble_eq_true rfl) rfl ?_
    refine im_ld (q := 255) (i := 2) D431_254 rfl rfl rfl ?_
    refine im_iconst (q := 256) D431_255 ?_
    refine im_icmp (q := 259) (t := 279) D431_256 rfl hr6 (by decide) (fun hc9 => ?_) (fun hc9 => ?_)
    · replace hP := hP.1 hc9
      refine im_iconst (q := 280) D431_279 ?_
      refine im_st1 (q := 281) (i := 3) (L' := [some (.ref 6952), some (vI p1), some (vI (M 6960 (M 6952 83))), some (vI 0)]) D431_280 (Or.inl ⟨_, rfl, rfl⟩) (Nat.le_of_ble_eq_true rfl) rfl ?_
      refine im_ld (q := 282) (i := 0) D431_281 rfl rfl rfl ?_
      refine im_gfR (q := 285) (b := 7071) D431_282 (im_fl cn_431 fl_12_369) sf_6952 rfl rfl tR_12_165 rf_6952_165 ?_
      refine im_ld (q := 286) (i := 1) D431_285 rfl rfl rfl ?_
      refine im_ld (q := 287) (i := 2) D431_286 rfl rfl rfl ?_
      refine im_iconst (q := 288) D431_287 ?_
      obtain ⟨hP, hJ15⟩ := hP
      have kJ16 : (((¬ (M 6960 (M 6952 83)) = 1)) ∨ (((M 6960 (M 6952 83)) = 1) ∧ (¬ (M 6952 85) = 0))) → im_T g d 431 302 [some (.ref 6952), some (vI p1), none, some (vI 0)] [vI p1, .ref 7071] e M K := by
        intro  hx17
        have hP := hJ15  hx17
        refine im_ld (q := 303) (i := 3) D431_302 rfl rfl rfl ?_
        refine im_ifc (q := 306) (t := 310) D431_303 rfl (by decide) (fun _ => ?_) (fun hc => absurd (show (0 : Int) = 0 by decide) hc)
        refine im_iconst (q := 311) D431_310 ?_
        obtain ⟨hg19, hP⟩ := hP
        refine im_iast (q := 312) D431_311 sf_7071 hg19.1 hg19.2 (by decide) (by decide) ?_
        refine im_ld (q := 313) (i := 0) D431_312 rfl rfl rfl ?_
        refine im_gfR (q := 316) (b := 7072) D431_313 (im_fl cn_431 fl_12_372) sf_6952 rfl rfl tR_12_166 rf_6952_166 ?_
        refine im_ld (q := 317) (i := 1) D431_316 rfl rfl rfl ?_
        refine im_ld (q := 318) (i := 3) D431_317 rfl rfl rfl ?_
        refine im_ifc (q := 321) (t := 333) D431_318 rfl (by decide) (fun _ => ?_) (fun hc => absurd (show (0 : Int) = 0 by decide) hc)
        refine im_iconst (q := 334) D431_333 ?_
        refine im_iast (q := 335) D431_334 sf_7072 hg19.1 hg19.2 (by decide) (by decide) ?_
        refine im_ld (q := 336) (i := 0) D431_335 rfl rfl rfl ?_
        refine im_gfR (q := 339) (b := 7073) D431_336 (im_fl cn_431 fl_12_375) sf_6952 rfl rfl tR_12_167 rf_6952_167 ?_
        refine im_ld (q := 340) (i := 1) D431_339 rfl rfl rfl ?_
        refine im_iconst (q := 341) D431_340 ?_
        refine im_iast (q := 342) D431_341 sf_7073 hg19.1 hg19.2 (by decide) (by decide) ?_
        exact im_vret (q := 343) D431_342 rfl hP
      refine im_icmp (q := 291) (t := 302) D431_288 rfl hr6 (by decide) (fun hc12 => ?_) (fun hc12 => ?_)
      · exact (kJ16  (Or.inl hc12)).wk ⟨rfl, rfl, rfl, trivial⟩
      · replace hP := hP (Decidable.not_not.mp hc12)
        refine im_ld (q := 292) (i := 0) D431_291 rfl rfl rfl ?_
        refine im_rng (j := 85) sf_6952 (by decide) (by decide) (fun hr13 => ?_)
        refine im_gfI (q := 295) D431_292 (im_fl cn_431 fl_12_864) sf_6952 rfl rfl tI_12_85 rfl ?_
        refine im_ifc (q := 298) (t := 302) D431_295 rfl hr13 (fun hc14 => ?_) (fun hc14 => ?_)
        · exact (kJ16  (Or.inr ⟨(Decidable.not_not.mp hc12), hc14⟩)).wk ⟨rfl, rfl, rfl, trivial⟩
        · replace hP := hP (Decidable.not_not.mp hc14)
          refine im_iconst (q := 299) D431_298 ?_
          refine im_goto (q := 302) (t := 311) D431_299 rfl ?_
          obtain ⟨hg21, hP⟩ := hP
          refine im_iast (q := 312) D431_311 sf_7071 hg21.1 hg21.2 (by decide) (by decide) ?_
          refine im_ld (q := 313) (i := 0) D431_312 rfl rfl rfl ?_
          refine im_gfR (q := 316) (b := 7072) D431_313 (im_fl cn_431 fl_12_372) sf_6952 rfl rfl tR_12_166 rf_6952_166 ?_
          refine im_ld (q := 317) (i := 1) D431_316 rfl rfl rfl ?_
          refine im_ld (q := 318) (i := 3) D431_317 rfl rfl rfl ?_
          refine im_ifc (q := 321) (t := 333) D431_318 rfl (by decide) (fun _ => ?_) (fun hc => absurd (show (0 : Int) = 0 by decide) hc)
          refine im_iconst (q := 334) D431_333 ?_
          refine im_iast (q := 335) D431_334 sf_7072 hg21.1 hg21.2 (by decide) (by decide) ?_
          refine im_ld (q := 336) (i := 0) D431_335 rfl rfl rfl ?_
          refine im_gfR (q := 339) (b := 7073) D431_336 (im_fl cn_431 fl_12_375) sf_6952 rfl rfl tR_12_167 rf_6952_167 ?_
          refine im_ld (q := 340) (i := 1) D431_339 rfl rfl rfl ?_
          refine im_iconst (q := 341) D431_340 ?_
          refine im_iast (q := 342) D431_341 sf_7073 hg21.1 hg21.2 (by decide) (by decide) ?_
          exact im_vret (q := 343) D431_342 rfl hP
    · replace hP := hP.2 (Decidable.not_not.mp hc9)
      refine im_ld (q := 260) (i := 0) D431_259 rfl rfl rfl ?_
      refine im_rng (j := 84) sf_6952 (by decide) (by decide) (fun hr10 => ?_)
      refine im_gfL (q := 263) D431_260 (im_fl cn_431 fl_12_861) sf_6952 rfl rfl tL_12_84 rfl ?_
      refine im_ld (q := 264) (i := 0) D431_263 rfl rfl rfl ?_
      refine im_ld (q := 265) (i := 0) D431_264 rfl rfl rfl ?_
      refine im_gfI (q := 268) D431_265 (im_fl cn_431 fl_12_858) sf_6952 rfl rfl tI_12_83 rfl ?_
      refine im_callV (q := 271) (kd := 1) (y := 406) (n := 1) (ci := 12) (a := 6952) (vs := [.ref 6952, vI (M 6952 83)]) (r := [vL (M 6952 84)]) (L2 := [some (.ref 6952), some (vI (M 6952 83)), none, none, none]) D431_268 (im_cal cn_431 cl_12_1003) (Or.inl rfl) rfl sf_6952 rfl rfl rfl rfl hd ⟨rfl, rfl, trivial⟩ ?_
      refine hP.mono ?_
      rintro _ e55 M23 ⟨x24, rfl, rfl, hP⟩
      refine im_bkS ?_
      obtain ⟨hg25, hP⟩ := hP
      refine im_lif (q := 272) (q2 := 275) (t := 279) D431_271 D431_272 rfl hr10 hg25 (fun hc26 => ?_) (fun hc26 => ?_)
      · replace hP := hP.1 hc26
        refine im_iconst (q := 280) D431_279 ?_
        refine im_st1 (q := 281) (i := 3) (L' := [some (.ref 6952), some (vI p1), some (vI (M 6960 (M 6952 83))), some (vI 0)]) D431_280 (Or.inl ⟨_, rfl, rfl⟩) (Nat.le_of_ble_eq_true rfl) rfl ?_
        refine im_ld (q := 282) (i := 0) D431_281 rfl rfl rfl ?_
        refine im_gfR (q := 285) (b := 7071) D431_282 (im_fl cn_431 fl_12_369) sf_6952 rfl rfl tR_12_165 rf_6952_165 ?_
        refine im_ld (q := 286) (i := 1) D431_285 rfl rfl rfl ?_
        refine im_ld (q := 287) (i := 2) D431_286 rfl rfl rfl ?_
        refine im_iconst (q := 288) D431_287 ?_
        obtain ⟨hP, hJ30⟩ := hP
        have kJ31 : (((¬ (M 6960 (M 6952 83)) = 1)) ∨ (((M 6960 (M 6952 83)) = 1) ∧ (¬ (M23 6952 85) = 0))) → im_T g d 431 302 [some (.ref 6952), some (vI p1), none, some (vI 0)] [vI p1, .ref 7071] e M23 K := by
          intro  hx32
          have hP := hJ30  hx32
          refine im_ld (q := 303) (i := 3) D431_302 rfl rfl rfl ?_
          refine im_ifc (q := 306) (t := 310) D431_303 rfl (by decide) (fun _ => ?_) (fun hc => absurd (show (0 : Int) = 0 by decide) hc)
          refine im_iconst (q := 311) D431_310 ?_
          obtain ⟨hg34, hP⟩ := hP
          refine im_iast (q := 312) D431_311 sf_7071 hg34.1 hg34.2 (by decide) (by decide) ?_
          refine im_ld (q := 313) (i := 0) D431_312 rfl rfl rfl ?_
          refine im_gfR (q := 316) (b := 7072) D431_313 (im_fl cn_431 fl_12_372) sf_6952 rfl rfl tR_12_166 rf_6952_166 ?_
          refine im_ld (q := 317) (i := 1) D431_316 rfl rfl rfl ?_
          refine im_ld (q := 318) (i := 3) D431_317 rfl rfl rfl ?_
          refine im_ifc (q := 321) (t := 333) D431_318 rfl (by decide) (fun _ => ?_) (fun hc => absurd (show (0 : Int) = 0 by decide) hc)
          refine im_iconst (q := 334) D431_333 ?_
          refine im_iast (q := 335) D431_334 sf_7072 hg34.1 hg34.2 (by decide) (by decide) ?_
          refine im_ld (q := 336) (i := 0) D431_335 rfl rfl rfl ?_
          refine im_gfR (q := 339) (b := 7073) D431_336 (im_fl cn_431 fl_12_375) sf_6952 rfl rfl tR_12_167 rf_6952_167 ?_
          refine im_ld (q := 340) (i := 1) D431_339 rfl rfl rfl ?_
          refine im_iconst (q := 341) D431_340 ?_
          refine im_iast (q := 342) D431_341 sf_7073 hg34.1 hg34.2 (by decide) (by decide) ?_
          exact im_vret (q := 343) D431_342 rfl hP
        refine im_icmp (q := 291) (t := 302) D431_288 rfl hr6 (by decide) (fun hc27 => ?_) (fun hc27 => ?_)
        · exact (kJ31  (Or.inl hc27)).wk ⟨rfl, rfl, rfl, trivial⟩
        · replace hP := hP (Decidable.not_not.mp hc27)
          refine im_ld (q := 292) (i := 0) D431_291 rfl rfl rfl ?_
          refine im_rng (j := 85) sf_6952 (by decide) (by decide) (fun hr28 => ?_)
          refine im_gfI (q := 295) D431_292 (im_fl cn_431 fl_12_864) sf_6952 rfl rfl tI_12_85 rfl ?_
          refine im_ifc (q := 298) (t := 302) D431_295 rfl hr28 (fun hc29 => ?_) (fun hc29 => ?_)
          · exact (kJ31  (Or.inr ⟨(Decidable.not_not.mp hc27), hc29⟩)).wk ⟨rfl, rfl, rfl, trivial⟩
          · replace hP := hP (Decidable.not_not.mp hc29)
            refine im_iconst (q := 299) D431_298 ?_
            refine im_goto (q := 302) (t := 311) D431_299 rfl ?_
            obtain ⟨hg36, hP⟩ := hP
            refine im_iast (q := 312) D431_311 sf_7071 hg36.1 hg36.2 (by decide) (by decide) ?_
            refine im_ld (q := 313) (i := 0) D431_312 rfl rfl rfl ?_
            refine im_gfR (q := 316) (b := 7072) D431_313 (im_fl cn_431 fl_12_372) sf_6952 rfl rfl tR_12_166 rf_6952_166 ?_
            refine im_ld (q := 317) (i := 1) D431_316 rfl rfl rfl ?_
            refine im_ld (q := 318) (i := 3) D431_317 rfl rfl rfl ?_
            refine im_ifc (q := 321) (t := 333) D431_318 rfl (by decide) (fun _ => ?_) (fun hc => absurd (show (0 : Int) = 0 by decide) hc)
            refine im_iconst (q := 334) D431_333 ?_
            refine im_iast (q := 335) D431_334 sf_7072 hg36.1 hg36.2 (by decide) (by decide) ?_
            refine im_ld (q := 336) (i := 0) D431_335 rfl rfl rfl ?_
            refine im_gfR (q := 339) (b := 7073) D431_336 (im_fl cn_431 fl_12_375) sf_6952 rfl rfl tR_12_167 rf_6952_167 ?_
            refine im_ld (q := 340) (i := 1) D431_339 rfl rfl rfl ?_
            refine im_iconst (q := 341) D431_340 ?_
            refine im_iast (q := 342) D431_341 sf_7073 hg36.1 hg36.2 (by decide) (by decide) ?_
            exact im_vret (q := 343) D431_342 rfl hP
      · replace hP := hP.2 (Int.not_le.mp hc26)
        refine im_iconst (q := 276) D431_275 ?_
        refine im_goto (q := 279) (t := 280) D431_276 rfl ?_
        refine im_st1 (q := 281) (i := 3) (L' := [some (.ref 6952), some (vI p1), some (vI (M 6960 (M 6952 83))), some (vI 1)]) D431_280 (Or.inl ⟨_, rfl, rfl⟩) (Nat.le_of_ble_eq_true rfl) rfl ?_
        refine im_ld (q := 282) (i := 0) D431_281 rfl rfl rfl ?_
        refine im_gfR (q := 285) (b := 7071) D431_282 (im_fl cn_431 fl_12_369) sf_6952 rfl rfl tR_12_165 rf_6952_165 ?_
        refine im_ld (q := 286) (i := 1) D431_285 rfl rfl rfl ?_
        refine im_ld (q := 287) (i := 2) D431_286 rfl rfl rfl ?_
        refine im_iconst (q := 288) D431_287 ?_
        obtain ⟨hP, hJ41⟩ := hP
        have kJ42 : (((¬ (M 6960 (M 6952 83)) = 1)) ∨ (((M 6960 (M 6952 83)) = 1) ∧ (¬ (M23 6952 85) = 0))) → im_T g d 431 302 [some (.ref 6952), some (vI p1), none, some (vI 1)] [vI p1, .ref 7071] e M23 K := by
          intro  hx43
          have hP := hJ41  hx43
          refine im_ld (q := 303) (i := 3) D431_302 rfl rfl rfl ?_
          refine im_ifc (q := 306) (t := 310) D431_303 rfl (by decide) (fun hc => absurd hc (show ¬ ((1 : Int) = 0) by decide)) (fun _ => ?_)
          refine im_iconst (q := 307) D431_306 ?_
          refine im_goto (q := 310) (t := 311) D431_307 rfl ?_
          obtain ⟨hg45, hP⟩ := hP
          refine im_iast (q := 312) D431_311 sf_7071 hg45.1 hg45.2 (by decide) (by decide) ?_
          refine im_ld (q := 313) (i := 0) D431_312 rfl rfl rfl ?_
          refine im_gfR (q := 316) (b := 7072) D431_313 (im_fl cn_431 fl_12_372) sf_6952 rfl rfl tR_12_166 rf_6952_166 ?_
          refine im_ld (q := 317) (i := 1) D431_316 rfl rfl rfl ?_
          refine im_ld (q := 318) (i := 3) D431_317 rfl rfl rfl ?_
          refine im_ifc (q := 321) (t := 333) D431_318 rfl (by decide) (fun hc => absurd hc (show ¬ ((1 : Int) = 0) by decide)) (fun _ => ?_)
          refine im_ld (q := 322) (i := 0) D431_321 rfl rfl rfl ?_
          refine im_gfR (q := 325) (b := 6964) D431_322 (im_fl cn_431 fl_12_45) sf_6952 rfl rfl tR_12_25 rf_6952_25 ?_
          refine im_ld (q := 326) (i := 0) D431_325 rfl rfl rfl ?_
          refine im_rng (j := 83) sf_6952 (by decide) (by decide) (fun hr47 => ?_)
          refine im_gfI (q := 329) D431_326 (im_fl cn_431 fl_12_858) sf_6952 rfl rfl tI_12_83 (im_rdn _ _ _ _ (by decide)) ?_
          obtain ⟨hg48, hP⟩ := hP
          refine im_rng (j := (M23 6952 83)) sf_6964 hg48.1 hg48.2 (fun hr49 => ?_)
          refine im_iald (q := 330) D431_329 sf_6964 hg48.1 hg48.2 (by decide) (im_rdn _ _ _ _ (by decide)) ?_
          refine im_goto (q := 333) (t := 334) D431_330 rfl ?_
          refine im_iast (q := 335) D431_334 sf_7072 hg45.1 hg45.2 (by decide) (im_rgc hr49 (im_rdn _ _ _ _ (by decide))) ?_
          refine im_ld (q := 336) (i := 0) D431_335 rfl rfl rfl ?_
          refine im_gfR (q := 339) (b := 7073) D431_336 (im_fl cn_431 fl_12_375) sf_6952 rfl rfl tR_12_167 rf_6952_167 ?_
          refine im_ld (q := 340) (i := 1) D431_339 rfl rfl rfl ?_
          refine im_iconst (q := 341) D431_340 ?_
          refine im_iast (q := 342) D431_341 sf_7073 hg45.1 hg45.2 (by decide) (by decide) ?_
          exact im_vret (q := 343) D431_342 rfl hP
        refine im_icmp (q := 291) (t := 302) D431_288 rfl hr6 (by decide) (fun hc38 => ?_) (fun hc38 => ?_)
        · exact (kJ42  (Or.inl hc38)).wk ⟨rfl, rfl, rfl, trivial⟩
        · replace hP := hP (Decidable.not_not.mp hc38)
          refine im_ld (q := 292) (i := 0) D431_291 rfl rfl rfl ?_
          refine im_rng (j := 85) sf_6952 (by decide) (by decide) (fun hr39 => ?_)
          refine im_gfI (q := 295) D431_292 (im_fl cn_431 fl_12_864) sf_6952 rfl rfl tI_12_85 rfl ?_
          refine im_ifc (q := 298) (t := 302) D431_295 rfl hr39 (fun hc40 => ?_) (fun hc40 => ?_)
          · exact (kJ42  (Or.inr ⟨(Decidable.not_not.mp hc38), hc40⟩)).wk ⟨rfl, rfl, rfl, trivial⟩
          · replace hP := hP (Decidable.not_not.mp hc40)
            refine im_iconst (q := 299) D431_298 ?_
            refine im_goto (q := 302) (t := 311) D431_299 rfl ?_
            obtain ⟨hg50, hP⟩ := hP
            refine im_iast (q := 312) D431_311 sf_7071 hg50.1 hg50.2 (by decide) (by decide) ?_
            refine im_ld (q := 313) (i := 0) D431_312 rfl rfl rfl ?_
            refine im_gfR (q := 316) (b := 7072) D431_313 (im_fl cn_431 fl_12_372) sf_6952 rfl rfl tR_12_166 rf_6952_166 ?_
            refine im_ld (q := 317) (i := 1) D431_316 rfl rfl rfl ?_
            refine im_ld (q := 318) (i := 3) D431_317 rfl rfl rfl ?_
            refine im_ifc (q := 321) (t := 333) D431_318 rfl (by decide) (fun hc => absurd hc (show ¬ ((1 : Int) = 0) by decide)) (fun _ => ?_)
            refine im_ld (q := 322) (i := 0) D431_321 rfl rfl rfl ?_
            refine im_gfR (q := 325) (b := 6964) D431_322 (im_fl cn_431 fl_12_45) sf_6952 rfl rfl tR_12_25 rf_6952_25 ?_
            refine im_ld (q := 326) (i := 0) D431_325 rfl rfl rfl ?_
            refine im_rng (j := 83) sf_6952 (by decide) (by decide) (fun hr52 => ?_)
            refine im_gfI (q := 329) D431_326 (im_fl cn_431 fl_12_858) sf_6952 rfl rfl tI_12_83 (im_rdn _ _ _ _ (by decide)) ?_
            obtain ⟨hg53, hP⟩ := hP
            refine im_rng (j := (M23 6952 83)) sf_6964 hg53.1 hg53.2 (fun hr54 => ?_)
            refine im_iald (q := 330) D431_329 sf_6964 hg53.1 hg53.2 (by decide) (im_rdn _ _ _ _ (by decide)) ?_
            refine im_goto (q := 333) (t := 334) D431_330 rfl ?_
            refine im_iast (q := 335) D431_334 sf_7072 hg50.1 hg50.2 (by decide) (im_rgc hr54 (im_rdn _ _ _ _ (by decide))) ?_
            refine im_ld (q := 336) (i := 0) D431_335 rfl rfl rfl ?_
            refine im_gfR (q := 339) (b := 7073) D431_336 (im_fl cn_431 fl_12_375) sf_6952 rfl rfl tR_12_167 rf_6952_167 ?_
            refine im_ld (q := 340) (i := 1) D431_339 rfl rfl rfl ?_
            refine im_iconst (q := 341) D431_340 ?_
            refine im_iast (q := 342) D431_341 sf_7073 hg50.1 hg50.2 (by decide) (by decide) ?_
            exact im_vret (q := 343) D431_342 rfl hP
  · replace hP := hP.2 (Int.not_le.mp hc3)
    refine im_ld (q := 205) (i := 0) D431_204 rfl rfl rfl ?_
    refine im_gfR (q := 208) (b := 7069) D431_205 (im_fl cn_431 fl_12_363) sf_6952 rfl rfl tR_12_163 rf_6952_163 ?_
    refine im_bipush (q := 210) D431_208 rfl ?_
    refine im_ld (q := 211) (i := 1) D431_210 rfl rfl rfl ?_
    refine im_imul (q := 212) D431_211 ?_
    refine im_ld (q := 213) (i := 2) D431_212 rfl rfl rfl ?_
    refine im_iadd (q := 214) D431_213 ?_
    refine im_ld (q := 215) (i := 0) D431_214 rfl rfl rfl ?_
    refine im_gfR (q := 218) (b := 7017) D431_215 (im_fl cn_431 fl_12_207) sf_6952 rfl rfl tR_12_94 rf_6952_94 ?_
    refine im_ld (q := 219) (i := 2) D431_218 rfl rfl rfl ?_
    obtain ⟨hg7, hP⟩ := hP
    refine im_rng (j := p2) sf_7017 hg7.1 hg7.2 (fun hr8 => ?_)
    refine im_lald (q := 220) D431_219 sf_7017 hg7.1 hg7.2 (by decide) rfl ?_
    obtain ⟨hg56, hP⟩ := hP
    refine im_last (q := 221) D431_220 sf_7069 hg56.1 hg56.2 (by decide) hr8 ?_
    refine im_ld (q := 222) (i := 0) D431_221 rfl rfl rfl ?_
    refine im_gfR (q := 225) (b := 7070) D431_222 (im_fl cn_431 fl_12_366) sf_6952 rfl rfl tR_12_164 rf_6952_164 ?_
    refine im_bipush (q := 227) D431_225 rfl ?_
    refine im_ld (q := 228) (i := 1) D431_227 rfl rfl rfl ?_
    refine im_imul (q := 229) D431_228 ?_
    refine im_ld (q := 230) (i := 2) D431_229 rfl rfl rfl ?_
    refine im_iadd (q := 231) D431_230 ?_
    refine im_ld (q := 232) (i := 0) D431_231 rfl rfl rfl ?_
    refine im_gfR (q := 235) (b := 7018) D431_232 (im_fl cn_431 fl_12_210) sf_6952 rfl rfl tR_12_95 rf_6952_95 ?_
    refine im_ld (q := 236) (i := 2) D431_235 rfl rfl rfl ?_
    refine im_rng (j := p2) sf_7018 hg7.1 hg7.2 (fun hr57 => ?_)
    refine im_iald (q := 237) D431_236 sf_7018 hg7.1 hg7.2 (by decide) (im_rdn _ _ _ _ (by decide)) ?_
    refine im_iast (q := 238) D431_237 sf_7070 hg56.1 hg56.2 (by decide) (im_rgc hr57 (im_rdn _ _ _ _ (by decide))) ?_
    refine im_iinc (q := 241) (i := 2) (L' := [some (.ref 6952), some (vI p1), some (vI (p2 + 1)), none]) D431_238 rfl (Nat.le_of_ble_eq_true rfl) rfl ?_
    refine im_goto (q := 244) (t := 196) D431_241 rfl ?_
    exact hP.wk ⟨rfl, rfl, rfl, trivial⟩
set_option maxRecDepth 20000 in
set_option maxHeartbeats 4000000 in
theorem b_takeLevel_0 {g : im_g} {d : Nat} {e : im_E} {M : im_M} {K : im_K} {p1 : Int} (hP : (0 ≤ p1 ∧ p1 < 402) ∧ im_T g d 432 62 [some (.ref 6952), some (vI p1), some (vI 0)] [] e (im_u (im_u (im_u (im_u (im_u (im_u M 6952 83 (M 7057 p1)) 6952 84 (M 7058 p1)) 6952 7 (M 7059 p1)) 6952 85 (M 7060 p1)) 6952 89 (M 7064 p1)) 6952 93 (M 7068 p1)) K) : im_T g d 432 0 [some (.ref 6952), some (vI p1), none] [] e M K := by
  refine im_ld (q := 1) (i := 0) D432_0 rfl rfl rfl ?_
  refine im_ld (q := 2) (i := 0) D432_1 rfl rfl rfl ?_
  refine im_gfR (q := 5) (b := 7057) D432_2 (im_fl cn_432 fl_12_327) sf_6952 rfl rfl tR_12_151 rf_6952_151 ?_
  refine im_ld (q := 6) (i := 1) D432_5 rfl rfl rfl ?_
  obtain ⟨hg1, hP⟩ := hP
  refine im_rng (j := p1) sf_7057 hg1.1 hg1.2 (fun hr2 => ?_)
  refine im_iald (q := 7) D432_6 sf_7057 hg1.1 hg1.2 (by decide) rfl ?_
  refine im_pfI (q := 10) D432_7 (im_fl cn_432 fl_12_858) sf_6952 rfl rfl ti_12_83 hr2 ?_
  refine im_ld (q := 11) (i := 0) D432_10 rfl rfl rfl ?_
  refine im_ld (q := 12) (i := 0) D432_11 rfl rfl rfl ?_
  refine im_gfR (q := 15) (b := 7058) D432_12 (im_fl cn_432 fl_12_330) sf_6952 rfl rfl tR_12_152 rf_6952_152 ?_
  refine im_ld (q := 16) (i := 1) D432_15 rfl rfl rfl ?_
  refine im_rng (j := p1) sf_7058 hg1.1 hg1.2 (fun hr3 => ?_)
  refine im_lald (q := 17) D432_16 sf_7058 hg1.1 hg1.2 (by decide) (im_rdn _ _ _ _ (by decide)) ?_
  refine im_pfL (q := 20) D432_17 (im_fl cn_432 fl_12_861) sf_6952 rfl rfl tl_12_84 (im_rgc hr3 (im_rdn _ _ _ _ (by decide))) ?_
  refine im_ld (q := 21) (i := 0) D432_20 rfl rfl rfl ?_
  refine im_ld (q := 22) (i := 0) D432_21 rfl rfl rfl ?_
  refine im_gfR (q := 25) (b := 7059) D432_22 (im_fl cn_432 fl_12_333) sf_6952 rfl rfl tR_12_153 rf_6952_153 ?_
  refine im_ld (q := 26) (i := 1) D432_25 rfl rfl rfl ?_
  refine im_rng (j := p1) sf_7059 hg1.1 hg1.2 (fun hr4 => ?_)
  refine im_iald (q := 27) D432_26 sf_7059 hg1.1 hg1.2 (by decide) ((im_rdn _ _ _ _ (by decide)).trans (im_rdn _ _ _ _ (by decide))) ?_
  refine im_pfI (q := 30) D432_27 (im_fl cn_432 fl_12_449) sf_6952 rfl rfl ti_12_7 (im_rgc hr4 ((im_rdn _ _ _ _ (by decide)).trans (im_rdn _ _ _ _ (by decide)))) ?_
  refine im_ld (q := 31) (i := 0) D432_30 rfl rfl rfl ?_
  refine im_ld (q := 32) (i := 0) D432_31 rfl rfl rfl ?_
  refine im_gfR (q := 35) (b := 7060) D432_32 (im_fl cn_432 fl_12_336) sf_6952 rfl rfl tR_12_154 rf_6952_154 ?_
  refine im_ld (q := 36) (i := 1) D432_35 rfl rfl rfl ?_
  refine im_rng (j := p1) sf_7060 hg1.1 hg1.2 (fun hr5 => ?_)
  refine im_iald (q := 37) D432_36 sf_7060 hg1.1 hg1.2 (by decide) ((im_rdn _ _ _ _ (by decide)).trans ((im_rdn _ _ _ _ (by decide)).trans (im_rdn _ _ _ _ (by decide)))) ?_
  refine im_pfI (q := 40) D432_37 (im_fl cn_432 fl_12_864) sf_6952 rfl rfl ti_12_85 (im_rgc hr5 ((im_rdn _ _ _ _ (by decide)).trans ((im_rdn _ _ _ _ (by decide)).trans (im_rdn _ _ _ _ (by decide))))) ?_
  refine im_ld (q := 41) (i := 0) D432_40 rfl rfl rfl ?_
  refine im_ld (q := 42) (i := 0) D432_41 rfl rfl rfl ?_
  refine im_gfR (q := 45) (b := 7064) D432_42 (im_fl cn_432 fl_12_348) sf_6952 rfl rfl tR_12_158 rf_6952_158 ?_
  refine im_ld (q := 46) (i := 1) D432_45 rfl rfl rfl ?_
  refine im_rng (j := p1) sf_7064 hg1.1 hg1.2 (fun hr6 => ?_)
  refine im_iald (q := 47) D432_46 sf_7064 hg1.1 hg1.2 (by decide) ((im_rdn _ _ _ _ (by decide)).trans ((im_rdn _ _ _ _ (by decide)).trans ((im_rdn _ _ _ _ (by decide)).trans (im_rdn _ _ _ _ (by decide))))) ?_
  refine im_pfI (q := 50) D432_47 (im_fl cn_432 fl_12_867) sf_6952 rfl rfl ti_12_89 (im_rgc hr6 ((im_rdn _ _ _ _ (by decide)).trans ((im_rdn _ _ _ _ (by decide)).trans ((im_rdn _ _ _ _ (by decide)).trans (im_rdn _ _ _ _ (by decide)))))) ?_
  refine im_ld (q := 51) (i := 0) D432_50 rfl rfl rfl ?_
  refine im_ld (q := 52) (i := 0) D432_51 rfl rfl rfl ?_
  refine im_gfR (q := 55) (b := 7068) D432_52 (im_fl cn_432 fl_12_360) sf_6952 rfl rfl tR_12_162 rf_6952_162 ?_
  refine im_ld (q := 56) (i := 1) D432_55 rfl rfl rfl ?_
  refine im_rng (j := p1) sf_7068 hg1.1 hg1.2 (fun hr7 => ?_)
  refine im_iald (q := 57) D432_56 sf_7068 hg1.1 hg1.2 (by decide) ((im_rdn _ _ _ _ (by decide)).trans ((im_rdn _ _ _ _ (by decide)).trans ((im_rdn _ _ _ _ (by decide)).trans ((im_rdn _ _ _ _ (by decide)).trans (im_rdn _ _ _ _ (by decide)))))) ?_
  refine im_pfI (q := 60) D432_57 (im_fl cn_432 fl_12_870) sf_6952 rfl rfl ti_12_93 (im_rgc hr7 ((im_rdn _ _ _ _ (by decide)).trans ((im_rdn _ _ _ _ (by decide)).trans ((im_rdn _ _ _ _ (by decide)).trans ((im_rdn _ _ _ _ (by decide)).trans (im_rdn _ _ _ _ (by decide))))))) ?_
  refine im_iconst (q := 61) D432_60 ?_
  refine im_st1 (q := 62) (i := 2) (L' := [some (.ref 6952), some (vI p1), some (vI 0)]) D432_61 (Or.inl ⟨_, rfl, rfl⟩) (Nat.le_of_ble_eq_true rfl) rfl ?_
  exact hP.wk ⟨rfl, rfl, rfl, trivial⟩
set_option maxRecDepth 20000 in
set_option maxHeartbeats 4000000 in
theorem b_takeLevel_62 {g : im_g} {d : Nat} {e : im_E} {M : im_M} {K : im_K} {p1 p2 : Int} (hP : (im_i32 p2) ∧ (((M 6952 85) ≤ p2 → im_T g d 432 129 [some (.ref 6952), some (vI p1), some (vI 0)] [] e M K) ∧ (p2 < (M 6952 85) → (0 ≤ ((40 * p1) + p2) ∧ ((40 * p1) + p2) < 16080) ∧ (0 ≤ p2 ∧ p2 < 41) ∧ im_T g d 432 62 [some (.ref 6952), some (vI p1), some (vI (p2 + 1))] [] e (im_u (im_u (im_u M 7011 p2 (M 7061 ((40 * p1) + p2))) 7012 p2 (M 7062 ((40 * p1) + p2))) 7013 p2 (M 7063 ((40 * p1) + p2))) K))) : im_T g d 432 62 [some (.ref 6952), some (vI p1), some (vI p2)] [] e M K := by
  refine im_ld (q := 63) (i := 2) D432_62 rfl rfl rfl ?_
  refine im_ld (q := 64) (i := 0) D432_63 rfl rfl rfl ?_
  refine im_rng (j := 85) sf_6952 (by decide) (by decide) (fun hr1 => ?_)
  refine im_gfI (q := 67) D432_64 (im_fl cn_432 fl_12_864) sf_6952 rfl rfl tI_12_85 rfl ?_
  obtain ⟨hg2, hP⟩ := hP
  refine im_icmp (q := 70) (t := 127) D432_67 rfl hg2 hr1 (fun hc3 => ?_) (fun hc3 => ?_)
  · replace hP := hP.1 hc3
    refine im_iconst (q := 128) D432_127 ?_
    refine im_st1 (q := 129) (i := 2) (L' := [some (.ref 6952), some (vI p1), some (vI 0)]) D432_128 (Or.inl ⟨_, rfl, rfl⟩) (Nat.le_of_ble_eq_true rfl) rfl ?_
    exact hP.wk ⟨rfl, rfl, rfl, trivial⟩
  · replace hP := hP.2 (Int.not_le.mp hc3)
    refine im_ld (q := 71) (i := 0) D432_70 rfl rfl rfl ?_
    refine im_gfR (q := 74) (b := 7011) D432_71 (im_fl cn_432 fl_12_189) sf_6952 rfl rfl tR_12_86 rf_6952_86 ?_
    refine im_ld (q := 75) (i := 2) D432_74 rfl rfl rfl ?_
    refine im_ld (q := 76) (i := 0) D432_75 rfl rfl rfl ?_
    refine im_gfR (q := 79) (b := 7061) D432_76 (im_fl cn_432 fl_12_339) sf_6952 rfl rfl tR_12_155 rf_6952_155 ?_
    refine im_bipush (q := 81) D432_79 rfl ?_
    refine im_ld (q := 82) (i := 1) D432_81 rfl rfl rfl ?_
    refine im_imul (q := 83) D432_82 ?_
    refine im_ld (q := 84) (i := 2) D432_83 rfl rfl rfl ?_
    refine im_iadd (q := 85) D432_84 ?_
    obtain ⟨hg4, hP⟩ := hP
    refine im_rng (j := ((40 * p1) + p2)) sf_7061 hg4.1 hg4.2 (fun hr5 => ?_)
    refine im_lald (q := 86) D432_85 sf_7061 hg4.1 hg4.2 (by decide) rfl ?_
    obtain ⟨hg6, hP⟩ := hP
    refine im_last (q := 87) D432_86 sf_7011 hg6.1 hg6.2 (by decide) hr5 ?_
    refine im_ld (q := 88) (i := 0) D432_87 rfl rfl rfl ?_
    refine im_gfR (q := 91) (b := 7012) D432_88 (im_fl cn_432 fl_12_192) sf_6952 rfl rfl tR_12_87 rf_6952_87 ?_
    refine im_ld (q := 92) (i := 2) D432_91 rfl rfl rfl ?_
    refine im_ld (q := 93) (i := 0) D432_92 rfl rfl rfl ?_
    refine im_gfR (q := 96) (b := 7062) D432_93 (im_fl cn_432 fl_12_342) sf_6952 rfl rfl tR_12_156 rf_6952_156 ?_
    refine im_bipush (q := 98) D432_96 rfl ?_
    refine im_ld (q := 99) (i := 1) D432_98 rfl rfl rfl ?_
    refine im_imul (q := 100) D432_99 ?_
    refine im_ld (q := 101) (i := 2) D432_100 rfl rfl rfl ?_
    refine im_iadd (q := 102) D432_101 ?_
    refine im_rng (j := ((40 * p1) + p2)) sf_7062 hg4.1 hg4.2 (fun hr7 => ?_)
    refine im_lald (q := 103) D432_102 sf_7062 hg4.1 hg4.2 (by decide) (im_rdn _ _ _ _ (by decide)) ?_
    refine im_last (q := 104) D432_103 sf_7012 hg6.1 hg6.2 (by decide) (im_rgc hr7 (im_rdn _ _ _ _ (by decide))) ?_
    refine im_ld (q := 105) (i := 0) D432_104 rfl rfl rfl ?_
    refine im_gfR (q := 108) (b := 7013) D432_105 (im_fl cn_432 fl_12_195) sf_6952 rfl rfl tR_12_88 rf_6952_88 ?_
    refine im_ld (q := 109) (i := 2) D432_108 rfl rfl rfl ?_
    refine im_ld (q := 110) (i := 0) D432_109 rfl rfl rfl ?_
    refine im_gfR (q := 113) (b := 7063) D432_110 (im_fl cn_432 fl_12_345) sf_6952 rfl rfl tR_12_157 rf_6952_157 ?_
    refine im_bipush (q := 115) D432_113 rfl ?_
    refine im_ld (q := 116) (i := 1) D432_115 rfl rfl rfl ?_
    refine im_imul (q := 117) D432_116 ?_
    refine im_ld (q := 118) (i := 2) D432_117 rfl rfl rfl ?_
    refine im_iadd (q := 119) D432_118 ?_
    refine im_rng (j := ((40 * p1) + p2)) sf_7063 hg4.1 hg4.2 (fun hr8 => ?_)
    refine im_iald (q := 120) D432_119 sf_7063 hg4.1 hg4.2 (by decide) ((im_rdn _ _ _ _ (by decide)).trans (im_rdn _ _ _ _ (by decide))) ?_
    refine im_iast (q := 121) D432_120 sf_7013 hg6.1 hg6.2 (by decide) (im_rgc hr8 ((im_rdn _ _ _ _ (by decide)).trans (im_rdn _ _ _ _ (by decide)))) ?_
    refine im_iinc (q := 124) (i := 2) (L' := [some (.ref 6952), some (vI p1), some (vI (p2 + 1))]) D432_121 rfl (Nat.le_of_ble_eq_true rfl) rfl ?_
    refine im_goto (q := 127) (t := 62) D432_124 rfl ?_
    exact hP.wk ⟨rfl, rfl, rfl, trivial⟩
set_option maxRecDepth 20000 in
set_option maxHeartbeats 4000000 in
theorem b_takeLevel_129 {g : im_g} {d : Nat} {e : im_E} {M : im_M} {K : im_K} {p1 p2 : Int} (hP : (im_i32 p2) ∧ (((M 6952 89) ≤ p2 → im_T g d 432 196 [some (.ref 6952), some (vI p1), some (vI 0)] [] e M K) ∧ (p2 < (M 6952 89) → (0 ≤ ((40 * p1) + p2) ∧ ((40 * p1) + p2) < 16080) ∧ (0 ≤ p2 ∧ p2 < 41) ∧ im_T g d 432 129 [some (.ref 6952), some (vI p1), some (vI (p2 + 1))] [] e (im_u (im_u (im_u M 7014 p2 (M 7065 ((40 * p1) + p2))) 7015 p2 (M 7066 ((40 * p1) + p2))) 7016 p2 (M 7067 ((40 * p1) + p2))) K))) : im_T g d 432 129 [some (.ref 6952), some (vI p1), some (vI p2)] [] e M K := by
  refine im_ld (q := 130) (i := 2) D432_129 rfl rfl rfl ?_
  refine im_ld (q := 131) (i := 0) D432_130 rfl rfl rfl ?_
  refine im_rng (j := 89) sf_6952 (by decide) (by decide) (fun hr1 => ?_)
  refine im_gfI (q := 134) D432_131 (im_fl cn_432 fl_12_867) sf_6952 rfl rfl tI_12_89 rfl ?_
  obtain ⟨hg2, hP⟩ := hP
  refine im_icmp (q := 137) (t := 194) D432_134 rfl hg2 hr1 (fun hc3 => ?_) (fun hc3 => ?_)
  · replace hP := hP.1 hc3
    refine im_iconst (q := 195) D432_194 ?_
    refine im_st1 (q := 196) (i := 2) (L' := [some (.ref 6952), some (vI p1), some (vI 0)]) D432_195 (Or.inl ⟨_, rfl, rfl⟩) (Nat.le_of_ble_eq_true rfl) rfl ?_
    exact hP.wk ⟨rfl, rfl, rfl, trivial⟩
  · replace hP := hP.2 (Int.not_le.mp hc3)
    refine im_ld (q := 138) (i := 0) D432_137 rfl rfl rfl ?_
    refine im_gfR (q := 141) (b := 7014) D432_138 (im_fl cn_432 fl_12_198) sf_6952 rfl rfl tR_12_90 rf_6952_90 ?_
    refine im_ld (q := 142) (i := 2) D432_141 rfl rfl rfl ?_
    refine im_ld (q := 143) (i := 0) D432_142 rfl rfl rfl ?_
    refine im_gfR (q := 146) (b := 7065) D432_143 (im_fl cn_432 fl_12_351) sf_6952 rfl rfl tR_12_159 rf_6952_159 ?_
    refine im_bipush (q := 148) D432_146 rfl ?_
    refine im_ld (q := 149) (i := 1) D432_148 rfl rfl rfl ?_
    refine im_imul (q := 150) D432_149 ?_
    refine im_ld (q := 151) (i := 2) D432_150 rfl rfl rfl ?_
    refine im_iadd (q := 152) D432_151 ?_
    obtain ⟨hg4, hP⟩ := hP
    refine im_rng (j := ((40 * p1) + p2)) sf_7065 hg4.1 hg4.2 (fun hr5 => ?_)
    refine im_lald (q := 153) D432_152 sf_7065 hg4.1 hg4.2 (by decide) rfl ?_
    obtain ⟨hg6, hP⟩ := hP
    refine im_last (q := 154) D432_153 sf_7014 hg6.1 hg6.2 (by decide) hr5 ?_
    refine im_ld (q := 155) (i := 0) D432_154 rfl rfl rfl ?_
    refine im_gfR (q := 158) (b := 7015) D432_155 (im_fl cn_432 fl_12_201) sf_6952 rfl rfl tR_12_91 rf_6952_91 ?_
    refine im_ld (q := 159) (i := 2) D432_158 rfl rfl rfl ?_
    refine im_ld (q := 160) (i := 0) D432_159 rfl rfl rfl ?_
    refine im_gfR (q := 163) (b := 7066) D432_160 (im_fl cn_432 fl_12_354) sf_6952 rfl rfl tR_12_160 rf_6952_160 ?_
    refine im_bipush (q := 165) D432_163 rfl ?_
    refine im_ld (q := 166) (i := 1) D432_165 rfl rfl rfl ?_
    refine im_imul (q := 167) D432_166 ?_
    refine im_ld (q := 168) (i := 2) D432_167 rfl rfl rfl ?_
    refine im_iadd (q := 169) D432_168 ?_
    refine im_rng (j := ((40 * p1) + p2)) sf_7066 hg4.1 hg4.2 (fun hr7 => ?_)
    refine im_lald (q := 170) D432_169 sf_7066 hg4.1 hg4.2 (by decide) (im_rdn _ _ _ _ (by decide)) ?_
    refine im_last (q := 171) D432_170 sf_7015 hg6.1 hg6.2 (by decide) (im_rgc hr7 (im_rdn _ _ _ _ (by decide))) ?_
    refine im_ld (q := 172) (i := 0) D432_171 rfl rfl rfl ?_
    refine im_gfR (q := 175) (b := 7016) D432_172 (im_fl cn_432 fl_12_204) sf_6952 rfl rfl tR_12_92 rf_6952_92 ?_
    refine im_ld (q := 176) (i := 2) D432_175 rfl rfl rfl ?_
    refine im_ld (q := 177) (i := 0) D432_176 rfl rfl rfl ?_
    refine im_gfR (q := 180) (b := 7067) D432_177 (im_fl cn_432 fl_12_357) sf_6952 rfl rfl tR_12_161 rf_6952_161 ?_
    refine im_bipush (q := 182) D432_180 rfl ?_
    refine im_ld (q := 183) (i := 1) D432_182 rfl rfl rfl ?_
    refine im_imul (q := 184) D432_183 ?_
    refine im_ld (q := 185) (i := 2) D432_184 rfl rfl rfl ?_
    refine im_iadd (q := 186) D432_185 ?_
    refine im_rng (j := ((40 * p1) + p2)) sf_7067 hg4.1 hg4.2 (fun hr8 => ?_)
    refine im_iald (q := 187) D432_186 sf_7067 hg4.1 hg4.2 (by decide) ((im_rdn _ _ _ _ (by decide)).trans (im_rdn _ _ _ _ (by decide))) ?_
    refine im_iast (q := 188) D432_187 sf_7016 hg6.1 hg6.2 (by decide) (im_rgc hr8 ((im_rdn _ _ _ _ (by decide)).trans (im_rdn _ _ _ _ (by decide)))) ?_
    refine im_iinc (q := 191) (i := 2) (L' := [some (.ref 6952), some (vI p1), some (vI (p2 + 1))]) D432_188 rfl (Nat.le_of_ble_eq_true rfl) rfl ?_
    refine im_goto (q := 194) (t := 129) D432_191 rfl ?_
    exact hP.wk ⟨rfl, rfl, rfl, trivial⟩
set_option maxRecDepth 20000 in
set_option maxHeartbeats 4000000 in
theorem b_takeLevel_196 {g : im_g} {d : Nat} {e : im_E} {M : im_M} {K : im_K} {p1 p2 : Int} (hP : (im_i32 p2) ∧ (((M 6952 93) ≤ p2 → K (.inl none) e (im_u (im_u (im_u (im_u M 6952 99 (M 6952 84)) 6952 100 (M 6952 84)) 6952 46 0) 6952 174 (M 6952 84))) ∧ (p2 < (M 6952 93) → (0 ≤ ((40 * p1) + p2) ∧ ((40 * p1) + p2) < 16080) ∧ (0 ≤ p2 ∧ p2 < 41) ∧ im_T g d 432 196 [some (.ref 6952), some (vI p1), some (vI (p2 + 1))] [] e (im_u (im_u M 7017 p2 (M 7069 ((40 * p1) + p2))) 7018 p2 (M 7070 ((40 * p1) + p2))) K))) : im_T g d 432 196 [some (.ref 6952), some (vI p1), some (vI p2)] [] e M K := by
  refine im_ld (q := 197) (i := 2) D432_196 rfl rfl rfl ?_
  refine im_ld (q := 198) (i := 0) D432_197 rfl rfl rfl ?_
  refine im_rng (j := 93) sf_6952 (by decide) (by decide) (fun hr1 => ?_)
  refine im_gfI (q := 201) D432_198 (im_fl cn_432 fl_12_870) sf_6952 rfl rfl tI_12_93 rfl ?_
  obtain ⟨hg2, hP⟩ := hP
  refine im_icmp (q := 204) (t := 244) D432_201 rfl hg2 hr1 (fun hc3 => ?_) (fun hc3 => ?_)
  · replace hP := hP.1 hc3
    refine im_ld (q := 245) (i := 0) D432_244 rfl rfl rfl ?_
    refine im_ld (q := 246) (i := 0) D432_245 rfl rfl rfl ?_
    refine im_rng (j := 84) sf_6952 (by decide) (by decide) (fun hr4 => ?_)
    refine im_gfL (q := 249) D432_246 (im_fl cn_432 fl_12_861) sf_6952 rfl rfl tL_12_84 rfl ?_
    refine im_pfL (q := 252) D432_249 (im_fl cn_432 fl_12_905) sf_6952 rfl rfl tl_12_99 hr4 ?_
    refine im_ld (q := 253) (i := 0) D432_252 rfl rfl rfl ?_
    refine im_ld (q := 254) (i := 0) D432_253 rfl rfl rfl ?_
    refine im_gfL (q := 257) D432_254 (im_fl cn_432 fl_12_861) sf_6952 rfl rfl tL_12_84 (im_rdk _ _ _ (by decide)) ?_
    refine im_pfL (q := 260) D432_257 (im_fl cn_432 fl_12_911) sf_6952 rfl rfl tl_12_100 hr4 ?_
    refine im_ld (q := 261) (i := 0) D432_260 rfl rfl rfl ?_
    refine im_iconst (q := 262) D432_261 ?_
    refine im_pfI (q := 265) D432_262 (im_fl cn_432 fl_12_723) sf_6952 rfl rfl ti_12_46 (by decide) ?_
    refine im_ld (q := 266) (i := 0) D432_265 rfl rfl rfl ?_
    refine im_ld (q := 267) (i := 0) D432_266 rfl rfl rfl ?_
    refine im_gfL (q := 270) D432_267 (im_fl cn_432 fl_12_861) sf_6952 rfl rfl tL_12_84 ((im_rdk _ _ _ (by decide)).trans ((im_rdk _ _ _ (by decide)).trans (im_rdk _ _ _ (by decide)))) ?_
    refine im_pfL (q := 273) D432_270 (im_fl cn_432 fl_12_1089) sf_6952 rfl rfl tl_12_174 hr4 ?_
    exact im_vret (q := 274) D432_273 rfl hP
  · replace hP := hP.2 (Int.not_le.mp hc3)
    refine im_ld (q := 205) (i := 0) D432_204 rfl rfl rfl ?_
    refine im_gfR (q := 208) (b := 7017) D432_205 (im_fl cn_432 fl_12_207) sf_6952 rfl rfl tR_12_94 rf_6952_94 ?_
    refine im_ld (q := 209) (i := 2) D432_208 rfl rfl rfl ?_
    refine im_ld (q := 210) (i := 0) D432_209 rfl rfl rfl ?_
    refine im_gfR (q := 213) (b := 7069) D432_210 (im_fl cn_432 fl_12_363) sf_6952 rfl rfl tR_12_163 rf_6952_163 ?_
    refine im_bipush (q := 215) D432_213 rfl ?_
    refine im_ld (q := 216) (i := 1) D432_215 rfl rfl rfl ?_
    refine im_imul (q := 217) D432_216 ?_
    refine im_ld (q := 218) (i := 2) D432_217 rfl rfl rfl ?_
    refine im_iadd (q := 219) D432_218 ?_
    obtain ⟨hg5, hP⟩ := hP
    refine im_rng (j := ((40 * p1) + p2)) sf_7069 hg5.1 hg5.2 (fun hr6 => ?_)
    refine im_lald (q := 220) D432_219 sf_7069 hg5.1 hg5.2 (by decide) rfl ?_
    obtain ⟨hg9, hP⟩ := hP
    refine im_last (q := 221) D432_220 sf_7017 hg9.1 hg9.2 (by decide) hr6 ?_
    refine im_ld (q := 222) (i := 0) D432_221 rfl rfl rfl ?_
    refine im_gfR (q := 225) (b := 7018) D432_222 (im_fl cn_432 fl_12_210) sf_6952 rfl rfl tR_12_95 rf_6952_95 ?_
    refine im_ld (q := 226) (i := 2) D432_225 rfl rfl rfl ?_
    refine im_ld (q := 227) (i := 0) D432_226 rfl rfl rfl ?_
    refine im_gfR (q := 230) (b := 7070) D432_227 (im_fl cn_432 fl_12_366) sf_6952 rfl rfl tR_12_164 rf_6952_164 ?_
    refine im_bipush (q := 232) D432_230 rfl ?_
    refine im_ld (q := 233) (i := 1) D432_232 rfl rfl rfl ?_
    refine im_imul (q := 234) D432_233 ?_
    refine im_ld (q := 235) (i := 2) D432_234 rfl rfl rfl ?_
    refine im_iadd (q := 236) D432_235 ?_
    refine im_rng (j := ((40 * p1) + p2)) sf_7070 hg5.1 hg5.2 (fun hr10 => ?_)
    refine im_iald (q := 237) D432_236 sf_7070 hg5.1 hg5.2 (by decide) (im_rdn _ _ _ _ (by decide)) ?_
    refine im_iast (q := 238) D432_237 sf_7018 hg9.1 hg9.2 (by decide) (im_rgc hr10 (im_rdn _ _ _ _ (by decide))) ?_
    refine im_iinc (q := 241) (i := 2) (L' := [some (.ref 6952), some (vI p1), some (vI (p2 + 1))]) D432_238 rfl (Nat.le_of_ble_eq_true rfl) rfl ?_
    refine im_goto (q := 244) (t := 196) D432_241 rfl ?_
    exact hP.wk ⟨rfl, rfl, rfl, trivial⟩
set_option maxRecDepth 20000 in
set_option maxHeartbeats 4000000 in
theorem b_offer_0 {g : im_g} {d : Nat} {e : im_E} {M : im_M} {K : im_K} {p1 : Int} (hd : 1 ≤ d) (hP : (0 ≤ p1 ∧ p1 < 402) ∧ ((¬ (M 7071 p1) = 0 → ((¬ (M 7071 p1) = 1 → ((¬ (M 7071 p1) = 2 → K (.inl (some (vI 0))) e M) ∧ ((M 7071 p1) = 2 → im_T g (d - 1) 406 0 [some (.ref 6952), some (vI (M 6952 83)), none, none, none] [] e (im_u M 7071 p1 3) (im_rl (fun x10 e_ M9 => e = e_ ∧ (im_i64 x10) ∧ K (.inl (some (vI 1))) e (im_u M9 6952 174 x10)))))) ∧ ((M 7071 p1) = 1 → im_T g d 433 28 [some (.ref 6952), some (vI p1)] [] e M K))) ∧ ((M 7071 p1) = 0 → K (.inl (some (vI 1))) e (im_u M 7071 p1 3)))) : im_T g d 433 0 [some (.ref 6952), some (vI p1)] [] e M K := by
  refine im_ld (q := 1) (i := 0) D433_0 rfl rfl rfl ?_
  refine im_gfR (q := 4) (b := 7071) D433_1 (im_fl cn_433 fl_12_369) sf_6952 rfl rfl tR_12_165 rf_6952_165 ?_
  refine im_ld (q := 5) (i := 1) D433_4 rfl rfl rfl ?_
  obtain ⟨hg1, hP⟩ := hP
  refine im_rng (j := p1) sf_7071 hg1.1 hg1.2 (fun hr2 => ?_)
  refine im_iald (q := 6) D433_5 sf_7071 hg1.1 hg1.2 (by decide) rfl ?_
  refine im_ifc (q := 9) (t := 18) D433_6 rfl hr2 (fun hc3 => ?_) (fun hc3 => ?_)
  · replace hP := hP.1 hc3
    refine im_ld (q := 19) (i := 0) D433_18 rfl rfl rfl ?_
    refine im_gfR (q := 22) (b := 7071) D433_19 (im_fl cn_433 fl_12_369) sf_6952 rfl rfl tR_12_165 rf_6952_165 ?_
    refine im_ld (q := 23) (i := 1) D433_22 rfl rfl rfl ?_
    refine im_iald (q := 24) D433_23 sf_7071 hg1.1 hg1.2 (by decide) rfl ?_
    refine im_iconst (q := 25) D433_24 ?_
    refine im_icmp (q := 28) (t := 61) D433_25 rfl hr2 (by decide) (fun hc5 => ?_) (fun hc5 => ?_)
    · replace hP := hP.1 hc5
      refine im_ld (q := 62) (i := 0) D433_61 rfl rfl rfl ?_
      refine im_gfR (q := 65) (b := 7071) D433_62 (im_fl cn_433 fl_12_369) sf_6952 rfl rfl tR_12_165 rf_6952_165 ?_
      refine im_ld (q := 66) (i := 1) D433_65 rfl rfl rfl ?_
      refine im_iald (q := 67) D433_66 sf_7071 hg1.1 hg1.2 (by decide) rfl ?_
      refine im_iconst (q := 68) D433_67 ?_
      refine im_icmp (q := 71) (t := 92) D433_68 rfl hr2 (by decide) (fun hc7 => ?_) (fun hc7 => ?_)
      · replace hP := hP.1 hc7
        refine im_iconst (q := 93) D433_92 ?_
        exact im_zret (q := 94) D433_93 rfl (by decide) hP
      · replace hP := hP.2 (Decidable.not_not.mp hc7)
        refine im_ld (q := 72) (i := 0) D433_71 rfl rfl rfl ?_
        refine im_gfR (q := 75) (b := 7071) D433_72 (im_fl cn_433 fl_12_369) sf_6952 rfl rfl tR_12_165 rf_6952_165 ?_
        refine im_ld (q := 76) (i := 1) D433_75 rfl rfl rfl ?_
        refine im_iconst (q := 77) D433_76 ?_
        refine im_iast (q := 78) D433_77 sf_7071 hg1.1 hg1.2 (by decide) (by decide) ?_
        refine im_ld (q := 79) (i := 0) D433_78 rfl rfl rfl ?_
        refine im_ld (q := 80) (i := 0) D433_79 rfl rfl rfl ?_
        refine im_ld (q := 81) (i := 0) D433_80 rfl rfl rfl ?_
        refine im_rng (j := 83) sf_6952 (by decide) (by decide) (fun hr8 => ?_)
        refine im_gfI (q := 84) D433_81 (im_fl cn_433 fl_12_858) sf_6952 rfl rfl tI_12_83 (im_rdn _ _ _ _ (by decide)) ?_
        refine im_callV (q := 87) (kd := 1) (y := 406) (n := 1) (ci := 12) (a := 6952) (vs := [.ref 6952, vI (M 6952 83)]) (r := [.ref 6952]) (L2 := [some (.ref 6952), some (vI (M 6952 83)), none, none, none]) D433_84 (im_cal cn_433 cl_12_1003) (Or.inl rfl) rfl sf_6952 rfl rfl rfl rfl hd ⟨rfl, rfl, trivial⟩ ?_
        refine hP.mono ?_
        rintro _ e12 M9 ⟨x10, rfl, rfl, hP⟩
        refine im_bkS ?_
        obtain ⟨hg11, hP⟩ := hP
        refine im_pfL (q := 90) D433_87 (im_fl cn_433 fl_12_1089) sf_6952 rfl rfl tl_12_174 hg11 ?_
        refine im_iconst (q := 91) D433_90 ?_
        exact im_zret (q := 92) D433_91 rfl (by decide) hP
    · replace hP := hP.2 (Decidable.not_not.mp hc5)
      exact hP.wk ⟨rfl, rfl, trivial⟩
  · replace hP := hP.2 (Decidable.not_not.mp hc3)
    refine im_ld (q := 10) (i := 0) D433_9 rfl rfl rfl ?_
    refine im_gfR (q := 13) (b := 7071) D433_10 (im_fl cn_433 fl_12_369) sf_6952 rfl rfl tR_12_165 rf_6952_165 ?_
    refine im_ld (q := 14) (i := 1) D433_13 rfl rfl rfl ?_
    refine im_iconst (q := 15) D433_14 ?_
    refine im_iast (q := 16) D433_15 sf_7071 hg1.1 hg1.2 (by decide) (by decide) ?_
    refine im_iconst (q := 17) D433_16 ?_
    exact im_zret (q := 18) D433_17 rfl (by decide) hP
set_option maxRecDepth 20000 in
set_option maxHeartbeats 4000000 in
theorem b_offer_28 {g : im_g} {d : Nat} {e : im_E} {M : im_M} {K : im_K} {p1 : Int} (hd : 1 ≤ d) (hP : (0 ≤ p1 ∧ p1 < 402) ∧ (((M 7072 p1) = (-1) → im_T g (d - 1) 406 0 [some (.ref 6952), some (vI (M 6952 83)), none, none, none] [] e (im_u (im_u M 7071 p1 2) 7071 p1 3) (im_rl (fun x9 e_ M8 => e = e_ ∧ (im_i64 x9) ∧ K (.inl (some (vI 1))) e (im_u M8 6952 174 x9)))) ∧ (¬ (M 7072 p1) = (-1) → im_T g (d - 1) 434 0 [some (.ref 6952), some (vI p1), some (vI (M 7072 p1)), none, none, none] [] e M (im_ri (fun x13 e_ M12 => e = e_ ∧ (im_i32 x13) ∧ ((x13 = 0 → im_T g d 433 28 [some (.ref 6952), some (vI p1)] [] e M12 K) ∧ (¬ x13 = 0 → K (.inl (some (vI 1))) e M12))))))) : im_T g d 433 28 [some (.ref 6952), some (vI p1)] [] e M K := by
  refine im_ld (q := 29) (i := 0) D433_28 rfl rfl rfl ?_
  refine im_gfR (q := 32) (b := 7072) D433_29 (im_fl cn_433 fl_12_372) sf_6952 rfl rfl tR_12_166 rf_6952_166 ?_
  refine im_ld (q := 33) (i := 1) D433_32 rfl rfl rfl ?_
  obtain ⟨hg1, hP⟩ := hP
  refine im_rng (j := p1) sf_7072 hg1.1 hg1.2 (fun hr2 => ?_)
  refine im_iald (q := 34) D433_33 sf_7072 hg1.1 hg1.2 (by decide) rfl ?_
  refine im_iconst (q := 35) D433_34 ?_
  refine im_icmp (q := 38) (t := 54) D433_35 rfl hr2 (by decide) (fun hc3 => ?_) (fun hc3 => ?_)
  · replace hP := hP.1 hc3
    refine im_ld (q := 55) (i := 0) D433_54 rfl rfl rfl ?_
    refine im_gfR (q := 58) (b := 7071) D433_55 (im_fl cn_433 fl_12_369) sf_6952 rfl rfl tR_12_165 rf_6952_165 ?_
    refine im_ld (q := 59) (i := 1) D433_58 rfl rfl rfl ?_
    refine im_iconst (q := 60) D433_59 ?_
    refine im_iast (q := 61) D433_60 sf_7071 hg1.1 hg1.2 (by decide) (by decide) ?_
    refine im_ld (q := 62) (i := 0) D433_61 rfl rfl rfl ?_
    refine im_gfR (q := 65) (b := 7071) D433_62 (im_fl cn_433 fl_12_369) sf_6952 rfl rfl tR_12_165 rf_6952_165 ?_
    refine im_ld (q := 66) (i := 1) D433_65 rfl rfl rfl ?_
    refine im_iald (q := 67) D433_66 sf_7071 hg1.1 hg1.2 (by decide) (im_rds _ _ _ _) ?_
    refine im_iconst (q := 68) D433_67 ?_
    refine im_icmp (q := 71) (t := 92) D433_68 rfl (by decide) (by decide) (fun hc => absurd hc (show ¬ (¬ (2 : Int) = 2) by decide)) (fun _ => ?_)
    refine im_ld (q := 72) (i := 0) D433_71 rfl rfl rfl ?_
    refine im_gfR (q := 75) (b := 7071) D433_72 (im_fl cn_433 fl_12_369) sf_6952 rfl rfl tR_12_165 rf_6952_165 ?_
    refine im_ld (q := 76) (i := 1) D433_75 rfl rfl rfl ?_
    refine im_iconst (q := 77) D433_76 ?_
    refine im_iast (q := 78) D433_77 sf_7071 hg1.1 hg1.2 (by decide) (by decide) ?_
    refine im_ld (q := 79) (i := 0) D433_78 rfl rfl rfl ?_
    refine im_ld (q := 80) (i := 0) D433_79 rfl rfl rfl ?_
    refine im_ld (q := 81) (i := 0) D433_80 rfl rfl rfl ?_
    refine im_rng (j := 83) sf_6952 (by decide) (by decide) (fun hr7 => ?_)
    refine im_gfI (q := 84) D433_81 (im_fl cn_433 fl_12_858) sf_6952 rfl rfl tI_12_83 ((im_rdn _ _ _ _ (by decide)).trans (im_rdn _ _ _ _ (by decide))) ?_
    refine im_callV (q := 87) (kd := 1) (y := 406) (n := 1) (ci := 12) (a := 6952) (vs := [.ref 6952, vI (M 6952 83)]) (r := [.ref 6952]) (L2 := [some (.ref 6952), some (vI (M 6952 83)), none, none, none]) D433_84 (im_cal cn_433 cl_12_1003) (Or.inl rfl) rfl sf_6952 rfl rfl rfl rfl hd ⟨rfl, rfl, trivial⟩ ?_
    refine hP.mono ?_
    rintro _ e11 M8 ⟨x9, rfl, rfl, hP⟩
    refine im_bkS ?_
    obtain ⟨hg10, hP⟩ := hP
    refine im_pfL (q := 90) D433_87 (im_fl cn_433 fl_12_1089) sf_6952 rfl rfl tl_12_174 hg10 ?_
    refine im_iconst (q := 91) D433_90 ?_
    exact im_zret (q := 92) D433_91 rfl (by decide) hP
  · replace hP := hP.2 hc3
    refine im_ld (q := 39) (i := 0) D433_38 rfl rfl rfl ?_
    refine im_ld (q := 40) (i := 1) D433_39 rfl rfl rfl ?_
    refine im_ld (q := 41) (i := 0) D433_40 rfl rfl rfl ?_
    refine im_gfR (q := 44) (b := 7072) D433_41 (im_fl cn_433 fl_12_372) sf_6952 rfl rfl tR_12_166 rf_6952_166 ?_
    refine im_ld (q := 45) (i := 1) D433_44 rfl rfl rfl ?_
    refine im_iald (q := 46) D433_45 sf_7072 hg1.1 hg1.2 (by decide) rfl ?_
    refine im_callV (q := 49) (kd := 1) (y := 434) (n := 2) (ci := 12) (a := 6952) (vs := [.ref 6952, vI p1, vI (M 7072 p1)]) (r := []) (L2 := [some (.ref 6952), some (vI p1), some (vI (M 7072 p1)), none, none, none]) D433_46 (im_cal cn_433 cl_12_1095) (Or.inl rfl) rfl sf_6952 rfl rfl rfl rfl hd ⟨rfl, rfl, rfl, trivial⟩ ?_
    refine hP.mono ?_
    rintro _ e16 M12 ⟨x13, rfl, rfl, hP⟩
    refine im_bkS ?_
    obtain ⟨hg14, hP⟩ := hP
    refine im_ifc (q := 52) (t := 28) D433_49 rfl hg14 (fun hc15 => ?_) (fun hc15 => ?_)
    · replace hP := hP.1 hc15
      exact hP.wk ⟨rfl, rfl, trivial⟩
    · replace hP := hP.2 hc15
      refine im_iconst (q := 53) D433_52 ?_
      exact im_zret (q := 54) D433_53 rfl (by decide) hP
set_option maxRecDepth 20000 in
set_option maxHeartbeats 4000000 in
theorem b_offerCase_0 {g : im_g} {d : Nat} {e : im_E} {M : im_M} {K : im_K} {p1 p2 : Int} (hd : 1 ≤ d) (hP : (0 ≤ p2 ∧ p2 < 5100) ∧ (((M 6960 p2) = 9 → (0 ≤ p1 ∧ p1 < 402) ∧ (im_i32 ((M 7073 p1).tmod 2)) ∧ ((∀ x11 : Int, (((¬ ((M 7073 p1).tmod 2) = 1) ∧ x11 = 0) ∨ ((((M 7073 p1).tmod 2) = 1) ∧ x11 = 1)) → (im_i32 ((M 7073 p1) + 1)) ∧ (im_i32 (2 * (M 6972 p2))) ∧ ((¬ ((M 7073 p1) + 1) = (2 * (M 6972 p2)) → ((x11 = 0 → ((((x11 = 0 → (0 ≤ ((M 6971 p2) + ((M 7073 p1).tdiv 2)) ∧ ((M 6971 p2) + ((M 7073 p1).tdiv 2)) < 20400)) ∧ (¬ x11 = 0 → (0 ≤ ((M 6971 p2) + ((M 7073 p1).tdiv 2)) ∧ ((M 6971 p2) + ((M 7073 p1).tdiv 2)) < 20400)))) ∧ (∀ x31 : Int, (((x11 = 0) ∧ x31 = (M 6973 ((M 6971 p2) + ((M 7073 p1).tdiv 2)))) ∨ ((¬ x11 = 0) ∧ x31 = (M 6974 ((M 6971 p2) + ((M 7073 p1).tdiv 2))))) → im_T g (d - 1) 435 0 [some (.ref 6952), some (vI p2), some (vI x31)] [] e (im_u M 7073 p1 ((M 7073 p1) + 1)) (im_r0 (fun  e_ M35 => e = e_ ∧ K (.inl (some (vI 1))) e M35))))) ∧ (¬ x11 = 0 → (0 ≤ ((M 6971 p2) + ((M 7073 p1).tdiv 2)) ∧ ((M 6971 p2) + ((M 7073 p1).tdiv 2)) < 20400) ∧ im_T g (d - 1) 302 0 [some (.ref 6952), some (vI (M 6973 ((M 6971 p2) + ((M 7073 p1).tdiv 2)))), some (vI (M 6974 ((M 6971 p2) + ((M 7073 p1).tdiv 2))))] [] e (im_u M 7073 p1 ((M 7073 p1) + 1)) (im_ri (fun x38 e_ M37 => e = e_ ∧ (im_i32 x38) ∧ ((x38 = 0 → K (.inl (some (vI 0))) e M37) ∧ (¬ x38 = 0 → ((∀ x46 : Int, (((x11 = 0) ∧ x46 = (M37 6973 ((M 6971 p2) + ((M 7073 p1).tdiv 2)))) ∨ ((¬ x11 = 0) ∧ x46 = (M37 6974 ((M 6971 p2) + ((M 7073 p1).tdiv 2))))) → im_T g (d - 1) 435 0 [some (.ref 6952), some (vI p2), some (vI x46)] [] e M37 (im_r0 (fun  e_ M50 => e = e_ ∧ K (.inl (some (vI 1))) e M50))))))))))) ∧ (((M 7073 p1) + 1) = (2 * (M 6972 p2)) → ((x11 = 0 → ((((x11 = 0 → (0 ≤ ((M 6971 p2) + ((M 7073 p1).tdiv 2)) ∧ ((M 6971 p2) + ((M 7073 p1).tdiv 2)) < 20400)) ∧ (¬ x11 = 0 → (0 ≤ ((M 6971 p2) + ((M 7073 p1).tdiv 2)) ∧ ((M 6971 p2) + ((M 7073 p1).tdiv 2)) < 20400)))) ∧ (∀ x64 : Int, (((x11 = 0) ∧ x64 = (M 6973 ((M 6971 p2) + ((M 7073 p1).tdiv 2)))) ∨ ((¬ x11 = 0) ∧ x64 = (M 6974 ((M 6971 p2) + ((M 7073 p1).tdiv 2))))) → im_T g (d - 1) 435 0 [some (.ref 6952), some (vI p2), some (vI x64)] [] e (im_u (im_u (im_u M 7073 p1 ((M 7073 p1) + 1)) 7073 p1 0) 7072 p1 (M 6967 p2)) (im_r0 (fun  e_ M68 => e = e_ ∧ K (.inl (some (vI 1))) e M68))))) ∧ (¬ x11 = 0 → (0 ≤ ((M 6971 p2) + ((M 7073 p1).tdiv 2)) ∧ ((M 6971 p2) + ((M 7073 p1).tdiv 2)) < 20400) ∧ im_T g (d - 1) 302 0 [some (.ref 6952), some (vI (M 6973 ((M 6971 p2) + ((M 7073 p1).tdiv 2)))), some (vI (M 6974 ((M 6971 p2) + ((M 7073 p1).tdiv 2))))] [] e (im_u (im_u (im_u M 7073 p1 ((M 7073 p1) + 1)) 7073 p1 0) 7072 p1 (M 6967 p2)) (im_ri (fun x71 e_ M70 => e = e_ ∧ (im_i32 x71) ∧ ((x71 = 0 → K (.inl (some (vI 0))) e M70) ∧ (¬ x71 = 0 → ((∀ x79 : Int, (((x11 = 0) ∧ x79 = (M70 6973 ((M 6971 p2) + ((M 7073 p1).tdiv 2)))) ∨ ((¬ x11 = 0) ∧ x79 = (M70 6974 ((M 6971 p2) + ((M 7073 p1).tdiv 2))))) → im_T g (d - 1) 435 0 [some (.ref 6952), some (vI p2), some (vI x79)] [] e M70 (im_r0 (fun  e_ M83 => e = e_ ∧ K (.inl (some (vI 1))) e M83))))))))))))))) ∧ (¬ (M 6960 p2) = 9 → (0 ≤ p1 ∧ p1 < 402) ∧ im_T g (d - 1) 379 0 [some (.ref 6952), some (vI (M 6964 p2)), none, none, none, none] [] e (im_u M 7072 p1 (M 6967 p2)) (im_ri (fun x89 e_ M88 => e = e_ ∧ (((((M88 6952 8) = 0 → ((¬ (M88 6960 p2) = 8 → (im_i32 x89)))))) ∧ (((((M88 6952 8) = 0) ∧ ((M88 6960 p2) = 8)) ∨ (((M88 6952 8) = 0) ∧ (¬ (M88 6960 p2) = 8) ∧ (x89 = 1))) → ((∀ x102 : Int, (((¬ (M88 6960 p2) = 8) ∧ x102 = (-1)) ∨ (((M88 6960 p2) = 8) ∧ x102 = x89)) → im_T g (d - 1) 435 0 [some (.ref 6952), some (vI p2), some (vI x102)] [] e M88 (im_r0 (fun  e_ M106 => e = e_ ∧ K (.inl (some (vI 1))) e M106))))) ∧ ((((¬ (M88 6952 8) = 0)) ∨ (((M88 6952 8) = 0) ∧ (¬ (M88 6960 p2) = 8) ∧ (¬ x89 = 1))) → K (.inl (some (vI 0))) e M88))))))) : im_T g d 434 0 [some (.ref 6952), some (vI p1), some (vI p2), none, none, none] [] e M K := by
  refine im_ld (q := 1) (i := 0) D434_0 rfl rfl rfl ?_
  refine im_gfR (q := 4) (b := 6960) D434_1 (im_fl cn_434 fl_12_33) sf_6952 rfl rfl tR_12_21 rf_6952_21 ?_
  refine im_ld (q := 5) (i := 2) D434_4 rfl rfl rfl ?_
  obtain ⟨hg1, hP⟩ := hP
  refine im_rng (j := p2) sf_6960 hg1.1 hg1.2 (fun hr2 => ?_)
  refine im_iald (q := 6) D434_5 sf_6960 hg1.1 hg1.2 (by decide) rfl ?_
  refine im_bipush (q := 8) D434_6 rfl ?_
  refine im_icmp (q := 11) (t := 93) D434_8 rfl hr2 (by decide) (fun hc3 => ?_) (fun hc3 => ?_)
  · replace hP := hP.1 hc3
    refine im_ld (q := 94) (i := 0) D434_93 rfl rfl rfl ?_
    refine im_gfR (q := 97) (b := 6971) D434_94 (im_fl cn_434 fl_12_67) sf_6952 rfl rfl tR_12_32 rf_6952_32 ?_
    refine im_ld (q := 98) (i := 2) D434_97 rfl rfl rfl ?_
    refine im_rng (j := p2) sf_6971 hg1.1 hg1.2 (fun hr4 => ?_)
    refine im_iald (q := 99) D434_98 sf_6971 hg1.1 hg1.2 (by decide) rfl ?_
    refine im_ld (q := 100) (i := 0) D434_99 rfl rfl rfl ?_
    refine im_gfR (q := 103) (b := 7073) D434_100 (im_fl cn_434 fl_12_375) sf_6952 rfl rfl tR_12_167 rf_6952_167 ?_
    refine im_ld (q := 104) (i := 1) D434_103 rfl rfl rfl ?_
    obtain ⟨hg5, hP⟩ := hP
    refine im_rng (j := p1) sf_7073 hg5.1 hg5.2 (fun hr6 => ?_)
    refine im_iald (q := 105) D434_104 sf_7073 hg5.1 hg5.2 (by decide) rfl ?_
    refine im_iconst (q := 106) D434_105 ?_
    refine im_idiv (q := 107) D434_106 hr6 (by decide) (by decide) ?_
    refine im_iadd (q := 108) D434_107 ?_
    refine im_st1 (q := 109) (i := 3) (L' := [some (.ref 6952), some (vI p1), some (vI p2), some (vI ((M 6971 p2) + ((M 7073 p1).tdiv 2))), none, none]) D434_108 (Or.inl ⟨_, rfl, rfl⟩) (Nat.le_of_ble_eq_true rfl) rfl ?_
    refine im_ld (q := 110) (i := 0) D434_109 rfl rfl rfl ?_
    refine im_gfR (q := 113) (b := 7073) D434_110 (im_fl cn_434 fl_12_375) sf_6952 rfl rfl tR_12_167 rf_6952_167 ?_
    refine im_ld (q := 114) (i := 1) D434_113 rfl rfl rfl ?_
    refine im_iald (q := 115) D434_114 sf_7073 hg5.1 hg5.2 (by decide) rfl ?_
    refine im_iconst (q := 116) D434_115 ?_
    refine im_irem (q := 117) D434_116 hr6 (by decide) (by decide) ?_
    refine im_iconst (q := 118) D434_117 ?_
    obtain ⟨hg9, hP⟩ := hP
    have hJ12 := hP
    have kJ13 : ∀ x11 : Int, (((¬ ((M 7073 p1).tmod 2) = 1) ∧ x11 = 0) ∨ ((((M 7073 p1).tmod 2) = 1) ∧ x11 = 1)) → im_T g d 434 126 [some (.ref 6952), some (vI p1), some (vI p2), some (vI ((M 6971 p2) + ((M 7073 p1).tdiv 2))), none, none] [vI x11] e M K := by
      intro x11 hx14
      have hP := hJ12 x11 hx14
      refine im_st1 (q := 128) (i := 4) (L' := [some (.ref 6952), some (vI p1), some (vI p2), some (vI ((M 6971 p2) + ((M 7073 p1).tdiv 2))), some (vI x11), none]) D434_126 (Or.inr rfl) (Nat.le_of_ble_eq_true rfl) rfl ?_
      refine im_ld (q := 129) (i := 0) D434_128 rfl rfl rfl ?_
      refine im_gfR (q := 132) (b := 7073) D434_129 (im_fl cn_434 fl_12_375) sf_6952 rfl rfl tR_12_167 rf_6952_167 ?_
      refine im_ld (q := 133) (i := 1) D434_132 rfl rfl rfl ?_
      refine im_dup2 (q := 134) D434_133 rfl rfl ?_
      refine im_iald (q := 135) D434_134 sf_7073 hg5.1 hg5.2 (by decide) rfl ?_
      refine im_iconst (q := 136) D434_135 ?_
      refine im_iadd (q := 137) D434_136 ?_
      obtain ⟨hg16, hP⟩ := hP
      refine im_iast (q := 138) D434_137 sf_7073 hg5.1 hg5.2 (by decide) hg16 ?_
      refine im_ld (q := 139) (i := 0) D434_138 rfl rfl rfl ?_
      refine im_gfR (q := 142) (b := 7073) D434_139 (im_fl cn_434 fl_12_375) sf_6952 rfl rfl tR_12_167 rf_6952_167 ?_
      refine im_ld (q := 143) (i := 1) D434_142 rfl rfl rfl ?_
      refine im_iald (q := 144) D434_143 sf_7073 hg5.1 hg5.2 (by decide) (im_rds _ _ _ _) ?_
      refine im_iconst (q := 145) D434_144 ?_
      refine im_ld (q := 146) (i := 0) D434_145 rfl rfl rfl ?_
      refine im_gfR (q := 149) (b := 6972) D434_146 (im_fl cn_434 fl_12_70) sf_6952 rfl rfl tR_12_33 rf_6952_33 ?_
      refine im_ld (q := 150) (i := 2) D434_149 rfl rfl rfl ?_
      refine im_rng (j := p2) sf_6972 hg1.1 hg1.2 (fun hr18 => ?_)
      refine im_iald (q := 151) D434_150 sf_6972 hg1.1 hg1.2 (by decide) (im_rdn _ _ _ _ (by decide)) ?_
      refine im_imul (q := 152) D434_151 ?_
      obtain ⟨hg19, hP⟩ := hP
      refine im_icmp (q := 155) (t := 174) D434_152 rfl hg16 hg19 (fun hc20 => ?_) (fun hc20 => ?_)
      · replace hP := hP.1 hc20
        refine im_ld (q := 176) (i := 4) D434_174 rfl rfl rfl ?_
        refine im_ifc (q := 179) (t := 198) D434_176 rfl (by omega) (fun hc21 => ?_) (fun hc21 => ?_)
        · replace hP := hP.1 hc21
          refine im_iconst (q := 199) D434_198 ?_
          refine im_goto (q := 202) (t := 203) D434_199 rfl ?_
          refine im_st1 (q := 205) (i := 5) (L' := [some (.ref 6952), some (vI p1), some (vI p2), some (vI ((M 6971 p2) + ((M 7073 p1).tdiv 2))), some (vI x11), some (vI 1)]) D434_203 (Or.inr rfl) (Nat.le_of_ble_eq_true rfl) rfl ?_
          refine im_ld (q := 207) (i := 5) D434_205 rfl rfl rfl ?_
          refine im_ifc (q := 210) (t := 235) D434_207 rfl (by decide) (fun hc => absurd hc (show ¬ ((1 : Int) = 0) by decide)) (fun _ => ?_)
          refine im_ld (q := 211) (i := 0) D434_210 rfl rfl rfl ?_
          refine im_ld (q := 212) (i := 2) D434_211 rfl rfl rfl ?_
          refine im_ld (q := 214) (i := 4) D434_212 rfl rfl rfl ?_
          obtain ⟨hP, hJ32⟩ := hP
          have kJ33 : ∀ x31 : Int, (((x11 = 0) ∧ x31 = (M 6973 ((M 6971 p2) + ((M 7073 p1).tdiv 2)))) ∨ ((¬ x11 = 0) ∧ x31 = (M 6974 ((M 6971 p2) + ((M 7073 p1).tdiv 2))))) → im_T g d 434 232 [none, none, none, none, none, some (vI 1)] [vI x31, vI p2, .ref 6952] e (im_u M 7073 p1 ((M 7073 p1) + 1)) K := by
            intro x31 hx34
            have hP := hJ32 x31 hx34
            refine im_callV (q := 235) (kd := 1) (y := 435) (n := 2) (ci := 12) (a := 6952) (vs := [.ref 6952, vI p2, vI x31]) (r := []) (L2 := [some (.ref 6952), some (vI p2), some (vI x31)]) D434_232 (im_cal cn_434 cl_12_1092) (Or.inl rfl) rfl sf_6952 rfl rfl rfl rfl hd ⟨rfl, rfl, rfl, trivial⟩ ?_
            refine hP.mono ?_
            rintro _ e36 M35 ⟨rfl, rfl, hP⟩
            refine im_bkN ?_
            refine im_ld (q := 237) (i := 5) D434_235 rfl rfl rfl ?_
            exact im_zret (q := 238) D434_237 rfl (by decide) hP
          refine im_ifc (q := 217) (t := 226) D434_214 rfl (by omega) (fun hc26 => ?_) (fun hc26 => ?_)
          · replace hP := hP.1 hc26
            refine im_ld (q := 227) (i := 0) D434_226 rfl rfl rfl ?_
            refine im_gfR (q := 230) (b := 6973) D434_227 (im_fl cn_434 fl_12_73) sf_6952 rfl rfl tR_12_34 rf_6952_34 ?_
            refine im_ld (q := 231) (i := 3) D434_230 rfl rfl rfl ?_
            have hg27 := hP
            refine im_rng (j := ((M 6971 p2) + ((M 7073 p1).tdiv 2))) sf_6973 hg27.1 hg27.2 (fun hr28 => ?_)
            refine im_iald (q := 232) D434_231 sf_6973 hg27.1 hg27.2 (by decide) (im_rdn _ _ _ _ (by decide)) ?_
            exact (kJ33 ((M 6973 ((M 6971 p2) + ((M 7073 p1).tdiv 2)))) (Or.inl ⟨hc26, rfl⟩)).wk ⟨rfl, trivial⟩
          · replace hP := hP.2 hc26
            refine im_ld (q := 218) (i := 0) D434_217 rfl rfl rfl ?_
            refine im_gfR (q := 221) (b := 6974) D434_218 (im_fl cn_434 fl_12_76) sf_6952 rfl rfl tR_12_35 rf_6952_35 ?_
            refine im_ld (q := 222) (i := 3) D434_221 rfl rfl rfl ?_
            have hg29 := hP
            refine im_rng (j := ((M 6971 p2) + ((M 7073 p1).tdiv 2))) sf_6974 hg29.1 hg29.2 (fun hr30 => ?_)
            refine im_iald (q := 223) D434_222 sf_6974 hg29.1 hg29.2 (by decide) (im_rdn _ _ _ _ (by decide)) ?_
            refine im_goto (q := 226) (t := 232) D434_223 rfl ?_
            exact (kJ33 ((M 6974 ((M 6971 p2) + ((M 7073 p1).tdiv 2)))) (Or.inr ⟨hc26, rfl⟩)).wk ⟨rfl, trivial⟩
        · replace hP := hP.2 hc21
          refine im_ld (q := 180) (i := 0) D434_179 rfl rfl rfl ?_
          refine im_ld (q := 181) (i := 0) D434_180 rfl rfl rfl ?_
          refine im_gfR (q := 184) (b := 6973) D434_181 (im_fl cn_434 fl_12_73) sf_6952 rfl rfl tR_12_34 rf_6952_34 ?_
          refine im_ld (q := 185) (i := 3) D434_184 rfl rfl rfl ?_
          obtain ⟨hg22, hP⟩ := hP
          refine im_rng (j := ((M 6971 p2) + ((M 7073 p1).tdiv 2))) sf_6973 hg22.1 hg22.2 (fun hr23 => ?_)
          refine im_iald (q := 186) D434_185 sf_6973 hg22.1 hg22.2 (by decide) (im_rdn _ _ _ _ (by decide)) ?_
          refine im_ld (q := 187) (i := 0) D434_186 rfl rfl rfl ?_
          refine im_gfR (q := 190) (b := 6974) D434_187 (im_fl cn_434 fl_12_76) sf_6952 rfl rfl tR_12_35 rf_6952_35 ?_
          refine im_ld (q := 191) (i := 3) D434_190 rfl rfl rfl ?_
          refine im_rng (j := ((M 6971 p2) + ((M 7073 p1).tdiv 2))) sf_6974 hg22.1 hg22.2 (fun hr24 => ?_)
          refine im_iald (q := 192) D434_191 sf_6974 hg22.1 hg22.2 (by decide) (im_rdn _ _ _ _ (by decide)) ?_
          refine im_callV (q := 195) (kd := 1) (y := 302) (n := 2) (ci := 12) (a := 6952) (vs := [.ref 6952, vI (M 6973 ((M 6971 p2) + ((M 7073 p1).tdiv 2))), vI (M 6974 ((M 6971 p2) + ((M 7073 p1).tdiv 2)))]) (r := []) (L2 := [some (.ref 6952), some (vI (M 6973 ((M 6971 p2) + ((M 7073 p1).tdiv 2)))), some (vI (M 6974 ((M 6971 p2) + ((M 7073 p1).tdiv 2))))]) D434_192 (im_cal cn_434 cl_12_674) (Or.inl rfl) rfl sf_6952 rfl rfl rfl rfl hd ⟨rfl, rfl, rfl, trivial⟩ ?_
          refine hP.mono ?_
          rintro _ e52 M37 ⟨x38, rfl, rfl, hP⟩
          refine im_bkS ?_
          obtain ⟨hg39, hP⟩ := hP
          refine im_ifc (q := 198) (t := 202) D434_195 rfl hg39 (fun hc40 => ?_) (fun hc40 => ?_)
          · replace hP := hP.1 hc40
            refine im_iconst (q := 203) D434_202 ?_
            refine im_st1 (q := 205) (i := 5) (L' := [some (.ref 6952), some (vI p1), some (vI p2), some (vI ((M 6971 p2) + ((M 7073 p1).tdiv 2))), some (vI x11), some (vI 0)]) D434_203 (Or.inr rfl) (Nat.le_of_ble_eq_true rfl) rfl ?_
            refine im_ld (q := 207) (i := 5) D434_205 rfl rfl rfl ?_
            refine im_ifc (q := 210) (t := 235) D434_207 rfl (by decide) (fun _ => ?_) (fun hc => absurd (show (0 : Int) = 0 by decide) hc)
            refine im_ld (q := 237) (i := 5) D434_235 rfl rfl rfl ?_
            exact im_zret (q := 238) D434_237 rfl (by decide) hP
          · replace hP := hP.2 hc40
            refine im_iconst (q := 199) D434_198 ?_
            refine im_goto (q := 202) (t := 203) D434_199 rfl ?_
            refine im_st1 (q := 205) (i := 5) (L' := [some (.ref 6952), some (vI p1), some (vI p2), some (vI ((M 6971 p2) + ((M 7073 p1).tdiv 2))), some (vI x11), some (vI 1)]) D434_203 (Or.inr rfl) (Nat.le_of_ble_eq_true rfl) rfl ?_
            refine im_ld (q := 207) (i := 5) D434_205 rfl rfl rfl ?_
            refine im_ifc (q := 210) (t := 235) D434_207 rfl (by decide) (fun hc => absurd hc (show ¬ ((1 : Int) = 0) by decide)) (fun _ => ?_)
            refine im_ld (q := 211) (i := 0) D434_210 rfl rfl rfl ?_
            refine im_ld (q := 212) (i := 2) D434_211 rfl rfl rfl ?_
            refine im_ld (q := 214) (i := 4) D434_212 rfl rfl rfl ?_
            have hJ47 := hP
            have kJ48 : ∀ x46 : Int, (((x11 = 0) ∧ x46 = (M37 6973 ((M 6971 p2) + ((M 7073 p1).tdiv 2)))) ∨ ((¬ x11 = 0) ∧ x46 = (M37 6974 ((M 6971 p2) + ((M 7073 p1).tdiv 2))))) → im_T g d 434 232 [none, none, none, none, none, some (vI 1)] [vI x46, vI p2, .ref 6952] e M37 K := by
              intro x46 hx49
              have hP := hJ47 x46 hx49
              refine im_callV (q := 235) (kd := 1) (y := 435) (n := 2) (ci := 12) (a := 6952) (vs := [.ref 6952, vI p2, vI x46]) (r := []) (L2 := [some (.ref 6952), some (vI p2), some (vI x46)]) D434_232 (im_cal cn_434 cl_12_1092) (Or.inl rfl) rfl sf_6952 rfl rfl rfl rfl hd ⟨rfl, rfl, rfl, trivial⟩ ?_
              refine hP.mono ?_
              rintro _ e51 M50 ⟨rfl, rfl, hP⟩
              refine im_bkN ?_
              refine im_ld (q := 237) (i := 5) D434_235 rfl rfl rfl ?_
              exact im_zret (q := 238) D434_237 rfl (by decide) hP
            refine im_ifc (q := 217) (t := 226) D434_214 rfl (by omega) (fun hc43 => ?_) (fun hc43 => ?_)
            · refine im_ld (q := 227) (i := 0) D434_226 rfl rfl rfl ?_
              refine im_gfR (q := 230) (b := 6973) D434_227 (im_fl cn_434 fl_12_73) sf_6952 rfl rfl tR_12_34 rf_6952_34 ?_
              refine im_ld (q := 231) (i := 3) D434_230 rfl rfl rfl ?_
              refine im_rng (j := ((M 6971 p2) + ((M 7073 p1).tdiv 2))) sf_6973 hg22.1 hg22.2 (fun hr44 => ?_)
              refine im_iald (q := 232) D434_231 sf_6973 hg22.1 hg22.2 (by decide) rfl ?_
              exact (kJ48 ((M37 6973 ((M 6971 p2) + ((M 7073 p1).tdiv 2)))) (Or.inl ⟨hc43, rfl⟩)).wk ⟨rfl, trivial⟩
            · refine im_ld (q := 218) (i := 0) D434_217 rfl rfl rfl ?_
              refine im_gfR (q := 221) (b := 6974) D434_218 (im_fl cn_434 fl_12_76) sf_6952 rfl rfl tR_12_35 rf_6952_35 ?_
              refine im_ld (q := 222) (i := 3) D434_221 rfl rfl rfl ?_
              refine im_rng (j := ((M 6971 p2) + ((M 7073 p1).tdiv 2))) sf_6974 hg22.1 hg22.2 (fun hr45 => ?_)
              refine im_iald (q := 223) D434_222 sf_6974 hg22.1 hg22.2 (by decide) rfl ?_
              refine im_goto (q := 226) (t := 232) D434_223 rfl ?_
              exact (kJ48 ((M37 6974 ((M 6971 p2) + ((M 7073 p1).tdiv 2)))) (Or.inr ⟨hc43, rfl⟩)).wk ⟨rfl, trivial⟩
      · replace hP := hP.2 (Decidable.not_not.mp hc20)
        refine im_ld (q := 156) (i := 0) D434_155 rfl rfl rfl ?_
        refine im_gfR (q := 159) (b := 7073) D434_156 (im_fl cn_434 fl_12_375) sf_6952 rfl rfl tR_12_167 rf_6952_167 ?_
        refine im_ld (q := 160) (i := 1) D434_159 rfl rfl rfl ?_
        refine im_iconst (q := 161) D434_160 ?_
        refine im_iast (q := 162) D434_161 sf_7073 hg5.1 hg5.2 (by decide) (by decide) ?_
        refine im_ld (q := 163) (i := 0) D434_162 rfl rfl rfl ?_
        refine im_gfR (q := 166) (b := 7072) D434_163 (im_fl cn_434 fl_12_372) sf_6952 rfl rfl tR_12_166 rf_6952_166 ?_
        refine im_ld (q := 167) (i := 1) D434_166 rfl rfl rfl ?_
        refine im_ld (q := 168) (i := 0) D434_167 rfl rfl rfl ?_
        refine im_gfR (q := 171) (b := 6967) D434_168 (im_fl cn_434 fl_12_54) sf_6952 rfl rfl tR_12_28 rf_6952_28 ?_
        refine im_ld (q := 172) (i := 2) D434_171 rfl rfl rfl ?_
        refine im_rng (j := p2) sf_6967 hg1.1 hg1.2 (fun hr53 => ?_)
        refine im_iald (q := 173) D434_172 sf_6967 hg1.1 hg1.2 (by decide) ((im_rdn _ _ _ _ (by decide)).trans (im_rdn _ _ _ _ (by decide))) ?_
        refine im_iast (q := 174) D434_173 sf_7072 hg5.1 hg5.2 (by decide) (im_rgc hr53 ((im_rdn _ _ _ _ (by decide)).trans (im_rdn _ _ _ _ (by decide)))) ?_
        refine im_ld (q := 176) (i := 4) D434_174 rfl rfl rfl ?_
        refine im_ifc (q := 179) (t := 198) D434_176 rfl (by omega) (fun hc54 => ?_) (fun hc54 => ?_)
        · replace hP := hP.1 hc54
          refine im_iconst (q := 199) D434_198 ?_
          refine im_goto (q := 202) (t := 203) D434_199 rfl ?_
          refine im_st1 (q := 205) (i := 5) (L' := [some (.ref 6952), some (vI p1), some (vI p2), some (vI ((M 6971 p2) + ((M 7073 p1).tdiv 2))), some (vI x11), some (vI 1)]) D434_203 (Or.inr rfl) (Nat.le_of_ble_eq_true rfl) rfl ?_
          refine im_ld (q := 207) (i := 5) D434_205 rfl rfl rfl ?_
          refine im_ifc (q := 210) (t := 235) D434_207 rfl (by decide) (fun hc => absurd hc (show ¬ ((1 : Int) = 0) by decide)) (fun _ => ?_)
          refine im_ld (q := 211) (i := 0) D434_210 rfl rfl rfl ?_
          refine im_ld (q := 212) (i := 2) D434_211 rfl rfl rfl ?_
          refine im_ld (q := 214) (i := 4) D434_212 rfl rfl rfl ?_
          obtain ⟨hP, hJ65⟩ := hP
          have kJ66 : ∀ x64 : Int, (((x11 = 0) ∧ x64 = (M 6973 ((M 6971 p2) + ((M 7073 p1).tdiv 2)))) ∨ ((¬ x11 = 0) ∧ x64 = (M 6974 ((M 6971 p2) + ((M 7073 p1).tdiv 2))))) → im_T g d 434 232 [none, none, none, none, none, some (vI 1)] [vI x64, vI p2, .ref 6952] e (im_u (im_u (im_u M 7073 p1 ((M 7073 p1) + 1)) 7073 p1 0) 7072 p1 (M 6967 p2)) K := by
            intro x64 hx67
            have hP := hJ65 x64 hx67
            refine im_callV (q := 235) (kd := 1) (y := 435) (n := 2) (ci := 12) (a := 6952) (vs := [.ref 6952, vI p2, vI x64]) (r := []) (L2 := [some (.ref 6952), some (vI p2), some (vI x64)]) D434_232 (im_cal cn_434 cl_12_1092) (Or.inl rfl) rfl sf_6952 rfl rfl rfl rfl hd ⟨rfl, rfl, rfl, trivial⟩ ?_
            refine hP.mono ?_
            rintro _ e69 M68 ⟨rfl, rfl, hP⟩
            refine im_bkN ?_
            refine im_ld (q := 237) (i := 5) D434_235 rfl rfl rfl ?_
            exact im_zret (q := 238) D434_237 rfl (by decide) hP
          refine im_ifc (q := 217) (t := 226) D434_214 rfl (by omega) (fun hc59 => ?_) (fun hc59 => ?_)
          · replace hP := hP.1 hc59
            refine im_ld (q := 227) (i := 0) D434_226 rfl rfl rfl ?_
            refine im_gfR (q := 230) (b := 6973) D434_227 (im_fl cn_434 fl_12_73) sf_6952 rfl rfl tR_12_34 rf_6952_34 ?_
            refine im_ld (q := 231) (i := 3) D434_230 rfl rfl rfl ?_
            have hg60 := hP
            refine im_rng (j := ((M 6971 p2) + ((M 7073 p1).tdiv 2))) sf_6973 hg60.1 hg60.2 (fun hr61 => ?_)
            refine im_iald (q := 232) D434_231 sf_6973 hg60.1 hg60.2 (by decide) ((im_rdn _ _ _ _ (by decide)).trans ((im_rdn _ _ _ _ (by decide)).trans (im_rdn _ _ _ _ (by decide)))) ?_
            exact (kJ66 ((M 6973 ((M 6971 p2) + ((M 7073 p1).tdiv 2)))) (Or.inl ⟨hc59, rfl⟩)).wk ⟨rfl, trivial⟩
          · replace hP := hP.2 hc59
            refine im_ld (q := 218) (i := 0) D434_217 rfl rfl rfl ?_
            refine im_gfR (q := 221) (b := 6974) D434_218 (im_fl cn_434 fl_12_76) sf_6952 rfl rfl tR_12_35 rf_6952_35 ?_
            refine im_ld (q := 222) (i := 3) D434_221 rfl rfl rfl ?_
            have hg62 := hP
            refine im_rng (j := ((M 6971 p2) + ((M 7073 p1).tdiv 2))) sf_6974 hg62.1 hg62.2 (fun hr63 => ?_)
            refine im_iald (q := 223) D434_222 sf_6974 hg62.1 hg62.2 (by decide) ((im_rdn _ _ _ _ (by decide)).trans ((im_rdn _ _ _ _ (by decide)).trans (im_rdn _ _ _ _ (by decide)))) ?_
            refine im_goto (q := 226) (t := 232) D434_223 rfl ?_
            exact (kJ66 ((M 6974 ((M 6971 p2) + ((M 7073 p1).tdiv 2)))) (Or.inr ⟨hc59, rfl⟩)).wk ⟨rfl, trivial⟩
        · replace hP := hP.2 hc54
          refine im_ld (q := 180) (i := 0) D434_179 rfl rfl rfl ?_
          refine im_ld (q := 181) (i := 0) D434_180 rfl rfl rfl ?_
          refine im_gfR (q := 184) (b := 6973) D434_181 (im_fl cn_434 fl_12_73) sf_6952 rfl rfl tR_12_34 rf_6952_34 ?_
          refine im_ld (q := 185) (i := 3) D434_184 rfl rfl rfl ?_
          obtain ⟨hg55, hP⟩ := hP
          refine im_rng (j := ((M 6971 p2) + ((M 7073 p1).tdiv 2))) sf_6973 hg55.1 hg55.2 (fun hr56 => ?_)
          refine im_iald (q := 186) D434_185 sf_6973 hg55.1 hg55.2 (by decide) ((im_rdn _ _ _ _ (by decide)).trans ((im_rdn _ _ _ _ (by decide)).trans (im_rdn _ _ _ _ (by decide)))) ?_
          refine im_ld (q := 187) (i := 0) D434_186 rfl rfl rfl ?_
          refine im_gfR (q := 190) (b := 6974) D434_187 (im_fl cn_434 fl_12_76) sf_6952 rfl rfl tR_12_35 rf_6952_35 ?_
          refine im_ld (q := 191) (i := 3) D434_190 rfl rfl rfl ?_
          refine im_rng (j := ((M 6971 p2) + ((M 7073 p1).tdiv 2))) sf_6974 hg55.1 hg55.2 (fun hr57 => ?_)
          refine im_iald (q := 192) D434_191 sf_6974 hg55.1 hg55.2 (by decide) ((im_rdn _ _ _ _ (by decide)).trans ((im_rdn _ _ _ _ (by decide)).trans (im_rdn _ _ _ _ (by decide)))) ?_
          refine im_callV (q := 195) (kd := 1) (y := 302) (n := 2) (ci := 12) (a := 6952) (vs := [.ref 6952, vI (M 6973 ((M 6971 p2) + ((M 7073 p1).tdiv 2))), vI (M 6974 ((M 6971 p2) + ((M 7073 p1).tdiv 2)))]) (r := []) (L2 := [some (.ref 6952), some (vI (M 6973 ((M 6971 p2) + ((M 7073 p1).tdiv 2)))), some (vI (M 6974 ((M 6971 p2) + ((M 7073 p1).tdiv 2))))]) D434_192 (im_cal cn_434 cl_12_674) (Or.inl rfl) rfl sf_6952 rfl rfl rfl rfl hd ⟨rfl, rfl, rfl, trivial⟩ ?_
          refine hP.mono ?_
          rintro _ e85 M70 ⟨x71, rfl, rfl, hP⟩
          refine im_bkS ?_
          obtain ⟨hg72, hP⟩ := hP
          refine im_ifc (q := 198) (t := 202) D434_195 rfl hg72 (fun hc73 => ?_) (fun hc73 => ?_)
          · replace hP := hP.1 hc73
            refine im_iconst (q := 203) D434_202 ?_
            refine im_st1 (q := 205) (i := 5) (L' := [some (.ref 6952), some (vI p1), some (vI p2), some (vI ((M 6971 p2) + ((M 7073 p1).tdiv 2))), some (vI x11), some (vI 0)]) D434_203 (Or.inr rfl) (Nat.le_of_ble_eq_true rfl) rfl ?_
            refine im_ld (q := 207) (i := 5) D434_205 rfl rfl rfl ?_
            refine im_ifc (q := 210) (t := 235) D434_207 rfl (by decide) (fun _ => ?_) (fun hc => absurd (show (0 : Int) = 0 by decide) hc)
            refine im_ld (q := 237) (i := 5) D434_235 rfl rfl rfl ?_
            exact im_zret (q := 238) D434_237 rfl (by decide) hP
          · replace hP := hP.2 hc73
            refine im_iconst (q := 199) D434_198 ?_
            refine im_goto (q := 202) (t := 203) D434_199 rfl ?_
            refine im_st1 (q := 205) (i := 5) (L' := [some (.ref 6952), some (vI p1), some (vI p2), some (vI ((M 6971 p2) + ((M 7073 p1).tdiv 2))), some (vI x11), some (vI 1)]) D434_203 (Or.inr rfl) (Nat.le_of_ble_eq_true rfl) rfl ?_
            refine im_ld (q := 207) (i := 5) D434_205 rfl rfl rfl ?_
            refine im_ifc (q := 210) (t := 235) D434_207 rfl (by decide) (fun hc => absurd hc (show ¬ ((1 : Int) = 0) by decide)) (fun _ => ?_)
            refine im_ld (q := 211) (i := 0) D434_210 rfl rfl rfl ?_
            refine im_ld (q := 212) (i := 2) D434_211 rfl rfl rfl ?_
            refine im_ld (q := 214) (i := 4) D434_212 rfl rfl rfl ?_
            have hJ80 := hP
            have kJ81 : ∀ x79 : Int, (((x11 = 0) ∧ x79 = (M70 6973 ((M 6971 p2) + ((M 7073 p1).tdiv 2)))) ∨ ((¬ x11 = 0) ∧ x79 = (M70 6974 ((M 6971 p2) + ((M 7073 p1).tdiv 2))))) → im_T g d 434 232 [none, none, none, none, none, some (vI 1)] [vI x79, vI p2, .ref 6952] e M70 K := by
              intro x79 hx82
              have hP := hJ80 x79 hx82
              refine im_callV (q := 235) (kd := 1) (y := 435) (n := 2) (ci := 12) (a := 6952) (vs := [.ref 6952, vI p2, vI x79]) (r := []) (L2 := [some (.ref 6952), some (vI p2), some (vI x79)]) D434_232 (im_cal cn_434 cl_12_1092) (Or.inl rfl) rfl sf_6952 rfl rfl rfl rfl hd ⟨rfl, rfl, rfl, trivial⟩ ?_
              refine hP.mono ?_
              rintro _ e84 M83 ⟨rfl, rfl, hP⟩
              refine im_bkN ?_
              refine im_ld (q := 237) (i := 5) D434_235 rfl rfl rfl ?_
              exact im_zret (q := 238) D434_237 rfl (by decide) hP
            refine im_ifc (q := 217) (t := 226) D434_214 rfl (by omega) (fun hc76 => ?_) (fun hc76 => ?_)
            · refine im_ld (q := 227) (i := 0) D434_226 rfl rfl rfl ?_
              refine im_gfR (q := 230) (b := 6973) D434_227 (im_fl cn_434 fl_12_73) sf_6952 rfl rfl tR_12_34 rf_6952_34 ?_
              refine im_ld (q := 231) (i := 3) D434_230 rfl rfl rfl ?_
              refine im_rng (j := ((M 6971 p2) + ((M 7073 p1).tdiv 2))) sf_6973 hg55.1 hg55.2 (fun hr77 => ?_)
              refine im_iald (q := 232) D434_231 sf_6973 hg55.1 hg55.2 (by decide) rfl ?_
              exact (kJ81 ((M70 6973 ((M 6971 p2) + ((M 7073 p1).tdiv 2)))) (Or.inl ⟨hc76, rfl⟩)).wk ⟨rfl, trivial⟩
            · refine im_ld (q := 218) (i := 0) D434_217 rfl rfl rfl ?_
              refine im_gfR (q := 221) (b := 6974) D434_218 (im_fl cn_434 fl_12_76) sf_6952 rfl rfl tR_12_35 rf_6952_35 ?_
              refine im_ld (q := 222) (i := 3) D434_221 rfl rfl rfl ?_
              refine im_rng (j := ((M 6971 p2) + ((M 7073 p1).tdiv 2))) sf_6974 hg55.1 hg55.2 (fun hr78 => ?_)
              refine im_iald (q := 223) D434_222 sf_6974 hg55.1 hg55.2 (by decide) rfl ?_
              refine im_goto (q := 226) (t := 232) D434_223 rfl ?_
              exact (kJ81 ((M70 6974 ((M 6971 p2) + ((M 7073 p1).tdiv 2)))) (Or.inr ⟨hc76, rfl⟩)).wk ⟨rfl, trivial⟩
    refine im_icmp (q := 121) (t := 125) D434_118 rfl hg9 (by decide) (fun hc10 => ?_) (fun hc10 => ?_)
    · refine im_iconst (q := 126) D434_125 ?_
      exact (kJ13 (0) (Or.inl ⟨hc10, rfl⟩)).wk ⟨rfl, rfl, rfl, rfl, trivial⟩
    · refine im_iconst (q := 122) D434_121 ?_
      refine im_goto (q := 125) (t := 126) D434_122 rfl ?_
      exact (kJ13 (1) (Or.inr ⟨(Decidable.not_not.mp hc10), rfl⟩)).wk ⟨rfl, rfl, rfl, rfl, trivial⟩
  · replace hP := hP.2 hc3
    refine im_ld (q := 12) (i := 0) D434_11 rfl rfl rfl ?_
    refine im_gfR (q := 15) (b := 7072) D434_12 (im_fl cn_434 fl_12_372) sf_6952 rfl rfl tR_12_166 rf_6952_166 ?_
    refine im_ld (q := 16) (i := 1) D434_15 rfl rfl rfl ?_
    refine im_ld (q := 17) (i := 0) D434_16 rfl rfl rfl ?_
    refine im_gfR (q := 20) (b := 6967) D434_17 (im_fl cn_434 fl_12_54) sf_6952 rfl rfl tR_12_28 rf_6952_28 ?_
    refine im_ld (q := 21) (i := 2) D434_20 rfl rfl rfl ?_
    refine im_rng (j := p2) sf_6967 hg1.1 hg1.2 (fun hr7 => ?_)
    refine im_iald (q := 22) D434_21 sf_6967 hg1.1 hg1.2 (by decide) rfl ?_
    obtain ⟨hg86, hP⟩ := hP
    refine im_iast (q := 23) D434_22 sf_7072 hg86.1 hg86.2 (by decide) hr7 ?_
    refine im_ld (q := 24) (i := 0) D434_23 rfl rfl rfl ?_
    refine im_ld (q := 25) (i := 0) D434_24 rfl rfl rfl ?_
    refine im_gfR (q := 28) (b := 6964) D434_25 (im_fl cn_434 fl_12_45) sf_6952 rfl rfl tR_12_25 rf_6952_25 ?_
    refine im_ld (q := 29) (i := 2) D434_28 rfl rfl rfl ?_
    refine im_rng (j := p2) sf_6964 hg1.1 hg1.2 (fun hr87 => ?_)
    refine im_iald (q := 30) D434_29 sf_6964 hg1.1 hg1.2 (by decide) (im_rdn _ _ _ _ (by decide)) ?_
    refine im_callV (q := 33) (kd := 1) (y := 379) (n := 1) (ci := 12) (a := 6952) (vs := [.ref 6952, vI (M 6964 p2)]) (r := []) (L2 := [some (.ref 6952), some (vI (M 6964 p2)), none, none, none, none]) D434_30 (im_cal cn_434 cl_12_956) (Or.inl rfl) rfl sf_6952 rfl rfl rfl rfl hd ⟨rfl, rfl, trivial⟩ ?_
    refine hP.mono ?_
    rintro _ e112 M88 ⟨x89, rfl, rfl, hP⟩
    refine im_bkS ?_
    refine im_st1 (q := 34) (i := 3) (L' := [some (.ref 6952), some (vI p1), some (vI p2), some (vI x89), none, none]) D434_33 (Or.inl ⟨_, rfl, rfl⟩) (Nat.le_of_ble_eq_true rfl) rfl ?_
    refine im_ld (q := 35) (i := 0) D434_34 rfl rfl rfl ?_
    refine im_rng (j := 8) sf_6952 (by decide) (by decide) (fun hr90 => ?_)
    refine im_gfI (q := 38) D434_35 (im_fl cn_434 fl_12_452) sf_6952 rfl rfl tI_12_8 rfl ?_
    obtain ⟨hP, hJ96, hJ108⟩ := hP
    have kJ97 : ((((M88 6952 8) = 0) ∧ ((M88 6960 p2) = 8)) ∨ (((M88 6952 8) = 0) ∧ (¬ (M88 6960 p2) = 8) ∧ (x89 = 1))) → im_T g d 434 57 [some (.ref 6952), none, some (vI p2), some (vI x89), none, none] [] e M88 K := by
      intro  hx98
      have hP := hJ96  hx98
      refine im_iconst (q := 58) D434_57 ?_
      refine im_goto (q := 61) (t := 62) D434_58 rfl ?_
      refine im_st1 (q := 64) (i := 4) (L' := [some (.ref 6952), none, some (vI p2), some (vI x89), some (vI 1), none]) D434_62 (Or.inr rfl) (Nat.le_of_ble_eq_true rfl) rfl ?_
      refine im_ld (q := 66) (i := 4) D434_64 rfl rfl rfl ?_
      refine im_ifc (q := 69) (t := 90) D434_66 rfl (by decide) (fun hc => absurd hc (show ¬ ((1 : Int) = 0) by decide)) (fun _ => ?_)
      refine im_ld (q := 70) (i := 0) D434_69 rfl rfl rfl ?_
      refine im_ld (q := 71) (i := 2) D434_70 rfl rfl rfl ?_
      refine im_ld (q := 72) (i := 0) D434_71 rfl rfl rfl ?_
      refine im_gfR (q := 75) (b := 6960) D434_72 (im_fl cn_434 fl_12_33) sf_6952 rfl rfl tR_12_21 rf_6952_21 ?_
      refine im_ld (q := 76) (i := 2) D434_75 rfl rfl rfl ?_
      refine im_rng (j := p2) sf_6960 hg1.1 hg1.2 (fun hr100 => ?_)
      refine im_iald (q := 77) D434_76 sf_6960 hg1.1 hg1.2 (by decide) rfl ?_
      refine im_bipush (q := 79) D434_77 rfl ?_
      have hJ103 := hP
      have kJ104 : ∀ x102 : Int, (((¬ (M88 6960 p2) = 8) ∧ x102 = (-1)) ∨ (((M88 6960 p2) = 8) ∧ x102 = x89)) → im_T g d 434 87 [none, none, none, none, some (vI 1), none] [vI x102, vI p2, .ref 6952] e M88 K := by
        intro x102 hx105
        have hP := hJ103 x102 hx105
        refine im_callV (q := 90) (kd := 1) (y := 435) (n := 2) (ci := 12) (a := 6952) (vs := [.ref 6952, vI p2, vI x102]) (r := []) (L2 := [some (.ref 6952), some (vI p2), some (vI x102)]) D434_87 (im_cal cn_434 cl_12_1092) (Or.inl rfl) rfl sf_6952 rfl rfl rfl rfl hd ⟨rfl, rfl, rfl, trivial⟩ ?_
        refine hP.mono ?_
        rintro _ e107 M106 ⟨rfl, rfl, hP⟩
        refine im_bkN ?_
        refine im_ld (q := 92) (i := 4) D434_90 rfl rfl rfl ?_
        exact im_zret (q := 93) D434_92 rfl (by decide) hP
      refine im_icmp (q := 82) (t := 86) D434_79 rfl hr100 (by decide) (fun hc101 => ?_) (fun hc101 => ?_)
      · refine im_iconst (q := 87) D434_86 ?_
        exact (kJ104 ((-1)) (Or.inl ⟨hc101, rfl⟩)).wk ⟨rfl, trivial⟩
      · refine im_ld (q := 83) (i := 3) D434_82 rfl rfl rfl ?_
        refine im_goto (q := 86) (t := 87) D434_83 rfl ?_
        exact (kJ104 (x89) (Or.inr ⟨(Decidable.not_not.mp hc101), rfl⟩)).wk ⟨rfl, trivial⟩
    have kJ109 : (((¬ (M88 6952 8) = 0)) ∨ (((M88 6952 8) = 0) ∧ (¬ (M88 6960 p2) = 8) ∧ (¬ x89 = 1))) → im_T g d 434 61 [some (.ref 6952), none, some (vI p2), some (vI x89), none, none] [] e M88 K := by
      intro  hx110
      have hP := hJ108  hx110
      refine im_iconst (q := 62) D434_61 ?_
      refine im_st1 (q := 64) (i := 4) (L' := [some (.ref 6952), none, some (vI p2), some (vI x89), some (vI 0), none]) D434_62 (Or.inr rfl) (Nat.le_of_ble_eq_true rfl) rfl ?_
      refine im_ld (q := 66) (i := 4) D434_64 rfl rfl rfl ?_
      refine im_ifc (q := 69) (t := 90) D434_66 rfl (by decide) (fun _ => ?_) (fun hc => absurd (show (0 : Int) = 0 by decide) hc)
      refine im_ld (q := 92) (i := 4) D434_90 rfl rfl rfl ?_
      exact im_zret (q := 93) D434_92 rfl (by decide) hP
    refine im_ifc (q := 41) (t := 61) D434_38 rfl (im_z32 hr90) (fun hc91 => ?_) (fun hc91 => ?_)
    · exact (kJ109  (Or.inl hc91)).wk ⟨rfl, rfl, rfl, trivial⟩
    · replace hP := hP (Decidable.not_not.mp hc91)
      refine im_ld (q := 42) (i := 0) D434_41 rfl rfl rfl ?_
      refine im_gfR (q := 45) (b := 6960) D434_42 (im_fl cn_434 fl_12_33) sf_6952 rfl rfl tR_12_21 rf_6952_21 ?_
      refine im_ld (q := 46) (i := 2) D434_45 rfl rfl rfl ?_
      refine im_rng (j := p2) sf_6960 hg1.1 hg1.2 (fun hr92 => ?_)
      refine im_iald (q := 47) D434_46 sf_6960 hg1.1 hg1.2 (by decide) rfl ?_
      refine im_bipush (q := 49) D434_47 rfl ?_
      refine im_icmp (q := 52) (t := 57) D434_49 rfl hr92 (by decide) (fun hc93 => ?_) (fun hc93 => ?_)
      · exact (kJ97  (Or.inl ⟨(Decidable.not_not.mp hc91), hc93⟩)).wk ⟨rfl, rfl, rfl, trivial⟩
      · replace hP := hP hc93
        refine im_ld (q := 53) (i := 3) D434_52 rfl rfl rfl ?_
        refine im_iconst (q := 54) D434_53 ?_
        have hg94 := hP
        refine im_icmp (q := 57) (t := 61) D434_54 rfl hg94 (by decide) (fun hc95 => ?_) (fun hc95 => ?_)
        · exact (kJ109  (Or.inr ⟨(Decidable.not_not.mp hc91), hc93, hc95⟩)).wk ⟨rfl, rfl, rfl, trivial⟩
        · exact (kJ97  (Or.inr ⟨(Decidable.not_not.mp hc91), hc93, (Decidable.not_not.mp hc95)⟩)).wk ⟨rfl, rfl, rfl, trivial⟩
set_option maxRecDepth 20000 in
set_option maxHeartbeats 4000000 in
theorem b_input_0 {g : im_g} {d : Nat} {e : im_E} {M : im_M} {K : im_K} {p1 p2 : Int} (hP : (0 ≤ p1 ∧ p1 < 5100) ∧ (im_i32 p2) ∧ K (.inl none) e (im_u (im_u (im_u (im_u (im_u (im_u M 6952 46 1) 6979 0 (M 6960 p1)) 6980 0 (M 6961 p1)) 6981 0 (M 6962 p1)) 6982 0 (M 6963 p1)) 6983 0 p2)) : im_T g d 435 0 [some (.ref 6952), some (vI p1), some (vI p2)] [] e M K := by
  refine im_ld (q := 1) (i := 0) D435_0 rfl rfl rfl ?_
  refine im_iconst (q := 2) D435_1 ?_
  refine im_pfI (q := 5) D435_2 (im_fl cn_435 fl_12_723) sf_6952 rfl rfl ti_12_46 (by decide) ?_
  refine im_ld (q := 6) (i := 0) D435_5 rfl rfl rfl ?_
  refine im_gfR (q := 9) (b := 6979) D435_6 (im_fl cn_435 fl_12_91) sf_6952 rfl rfl tR_12_47 rf_6952_47 ?_
  refine im_iconst (q := 10) D435_9 ?_
  refine im_ld (q := 11) (i := 0) D435_10 rfl rfl rfl ?_
  refine im_gfR (q := 14) (b := 6960) D435_11 (im_fl cn_435 fl_12_33) sf_6952 rfl rfl tR_12_21 rf_6952_21 ?_
  refine im_ld (q := 15) (i := 1) D435_14 rfl rfl rfl ?_
  obtain ⟨hg1, hP⟩ := hP
  refine im_rng (j := p1) sf_6960 hg1.1 hg1.2 (fun hr2 => ?_)
  refine im_iald (q := 16) D435_15 sf_6960 hg1.1 hg1.2 (by decide) (im_rdn _ _ _ _ (by decide)) ?_
  refine im_iast (q := 17) D435_16 sf_6979 (by decide) (by decide) (by decide) (im_rgc hr2 (im_rdn _ _ _ _ (by decide))) ?_
  refine im_ld (q := 18) (i := 0) D435_17 rfl rfl rfl ?_
  refine im_gfR (q := 21) (b := 6980) D435_18 (im_fl cn_435 fl_12_94) sf_6952 rfl rfl tR_12_48 rf_6952_48 ?_
  refine im_iconst (q := 22) D435_21 ?_
  refine im_ld (q := 23) (i := 0) D435_22 rfl rfl rfl ?_
  refine im_gfR (q := 26) (b := 6961) D435_23 (im_fl cn_435 fl_12_36) sf_6952 rfl rfl tR_12_22 rf_6952_22 ?_
  refine im_ld (q := 27) (i := 1) D435_26 rfl rfl rfl ?_
  refine im_rng (j := p1) sf_6961 hg1.1 hg1.2 (fun hr3 => ?_)
  refine im_lald (q := 28) D435_27 sf_6961 hg1.1 hg1.2 (by decide) ((im_rdn _ _ _ _ (by decide)).trans (im_rdn _ _ _ _ (by decide))) ?_
  refine im_last (q := 29) D435_28 sf_6980 (by decide) (by decide) (by decide) (im_rgc hr3 ((im_rdn _ _ _ _ (by decide)).trans (im_rdn _ _ _ _ (by decide)))) ?_
  refine im_ld (q := 30) (i := 0) D435_29 rfl rfl rfl ?_
  refine im_gfR (q := 33) (b := 6981) D435_30 (im_fl cn_435 fl_12_97) sf_6952 rfl rfl tR_12_49 rf_6952_49 ?_
  refine im_iconst (q := 34) D435_33 ?_
  refine im_ld (q := 35) (i := 0) D435_34 rfl rfl rfl ?_
  refine im_gfR (q := 38) (b := 6962) D435_35 (im_fl cn_435 fl_12_39) sf_6952 rfl rfl tR_12_23 rf_6952_23 ?_
  refine im_ld (q := 39) (i := 1) D435_38 rfl rfl rfl ?_
  refine im_rng (j := p1) sf_6962 hg1.1 hg1.2 (fun hr4 => ?_)
  refine im_lald (q := 40) D435_39 sf_6962 hg1.1 hg1.2 (by decide) ((im_rdn _ _ _ _ (by decide)).trans ((im_rdn _ _ _ _ (by decide)).trans (im_rdn _ _ _ _ (by decide)))) ?_
  refine im_last (q := 41) D435_40 sf_6981 (by decide) (by decide) (by decide) (im_rgc hr4 ((im_rdn _ _ _ _ (by decide)).trans ((im_rdn _ _ _ _ (by decide)).trans (im_rdn _ _ _ _ (by decide))))) ?_
  refine im_ld (q := 42) (i := 0) D435_41 rfl rfl rfl ?_
  refine im_gfR (q := 45) (b := 6982) D435_42 (im_fl cn_435 fl_12_100) sf_6952 rfl rfl tR_12_50 rf_6952_50 ?_
  refine im_iconst (q := 46) D435_45 ?_
  refine im_ld (q := 47) (i := 0) D435_46 rfl rfl rfl ?_
  refine im_gfR (q := 50) (b := 6963) D435_47 (im_fl cn_435 fl_12_42) sf_6952 rfl rfl tR_12_24 rf_6952_24 ?_
  refine im_ld (q := 51) (i := 1) D435_50 rfl rfl rfl ?_
  refine im_rng (j := p1) sf_6963 hg1.1 hg1.2 (fun hr5 => ?_)
  refine im_lald (q := 52) D435_51 sf_6963 hg1.1 hg1.2 (by decide) ((im_rdn _ _ _ _ (by decide)).trans ((im_rdn _ _ _ _ (by decide)).trans ((im_rdn _ _ _ _ (by decide)).trans (im_rdn _ _ _ _ (by decide))))) ?_
  refine im_last (q := 53) D435_52 sf_6982 (by decide) (by decide) (by decide) (im_rgc hr5 ((im_rdn _ _ _ _ (by decide)).trans ((im_rdn _ _ _ _ (by decide)).trans ((im_rdn _ _ _ _ (by decide)).trans (im_rdn _ _ _ _ (by decide)))))) ?_
  refine im_ld (q := 54) (i := 0) D435_53 rfl rfl rfl ?_
  refine im_gfR (q := 57) (b := 6983) D435_54 (im_fl cn_435 fl_12_103) sf_6952 rfl rfl tR_12_51 rf_6952_51 ?_
  refine im_iconst (q := 58) D435_57 ?_
  refine im_ld (q := 59) (i := 2) D435_58 rfl rfl rfl ?_
  obtain ⟨hg6, hP⟩ := hP
  refine im_iast (q := 60) D435_59 sf_6983 (by decide) (by decide) (by decide) hg6 ?_
  exact im_vret (q := 61) D435_60 rfl hP
set_option maxRecDepth 20000 in
set_option maxHeartbeats 4000000 in
theorem b_keepTry_0 {g : im_g} {d : Nat} {e : im_E} {M : im_M} {K : im_K} {p1 : Int} (hP : ((∀ x4 : Int, (((¬ (M 6952 46) = 0) ∧ x4 = (M 6979 0)) ∨ (((M 6952 46) = 0) ∧ x4 = 0)) → (0 ≤ p1 ∧ p1 < 402) ∧ (im_i32 x4) ∧ K (.inl none) e (im_u (im_u (im_u (im_u (im_u (im_u M 7074 p1 x4) 7075 p1 (M 6980 0)) 7076 p1 (M 6981 0)) 7077 p1 (M 6982 0)) 7078 p1 (M 6983 0)) 7079 p1 (M 6952 174))))) : im_T g d 436 0 [some (.ref 6952), some (vI p1)] [] e M K := by
  refine im_ld (q := 1) (i := 0) D436_0 rfl rfl rfl ?_
  refine im_gfR (q := 4) (b := 7074) D436_1 (im_fl cn_436 fl_12_378) sf_6952 rfl rfl tR_12_168 rf_6952_168 ?_
  refine im_ld (q := 5) (i := 1) D436_4 rfl rfl rfl ?_
  refine im_ld (q := 6) (i := 0) D436_5 rfl rfl rfl ?_
  refine im_rng (j := 46) sf_6952 (by decide) (by decide) (fun hr1 => ?_)
  refine im_gfI (q := 9) D436_6 (im_fl cn_436 fl_12_723) sf_6952 rfl rfl tI_12_46 rfl ?_
  have hJ5 := hP
  have kJ6 : ∀ x4 : Int, (((¬ (M 6952 46) = 0) ∧ x4 = (M 6979 0)) ∨ (((M 6952 46) = 0) ∧ x4 = 0)) → im_T g d 436 22 [some (.ref 6952), some (vI p1)] [vI x4, vI p1, .ref 7074] e M K := by
    intro x4 hx7
    have hP := hJ5 x4 hx7
    obtain ⟨hg8, hP⟩ := hP
    obtain ⟨hg9, hP⟩ := hP
    refine im_iast (q := 23) D436_22 sf_7074 hg8.1 hg8.2 (by decide) hg9 ?_
    refine im_ld (q := 24) (i := 0) D436_23 rfl rfl rfl ?_
    refine im_gfR (q := 27) (b := 7075) D436_24 (im_fl cn_436 fl_12_381) sf_6952 rfl rfl tR_12_169 rf_6952_169 ?_
    refine im_ld (q := 28) (i := 1) D436_27 rfl rfl rfl ?_
    refine im_ld (q := 29) (i := 0) D436_28 rfl rfl rfl ?_
    refine im_gfR (q := 32) (b := 6980) D436_29 (im_fl cn_436 fl_12_94) sf_6952 rfl rfl tR_12_48 rf_6952_48 ?_
    refine im_iconst (q := 33) D436_32 ?_
    refine im_rng (j := 0) sf_6980 (by decide) (by decide) (fun hr10 => ?_)
    refine im_lald (q := 34) D436_33 sf_6980 (by decide) (by decide) (by decide) (im_rdn _ _ _ _ (by decide)) ?_
    refine im_last (q := 35) D436_34 sf_7075 hg8.1 hg8.2 (by decide) (im_rgc hr10 (im_rdn _ _ _ _ (by decide))) ?_
    refine im_ld (q := 36) (i := 0) D436_35 rfl rfl rfl ?_
    refine im_gfR (q := 39) (b := 7076) D436_36 (im_fl cn_436 fl_12_384) sf_6952 rfl rfl tR_12_170 rf_6952_170 ?_
    refine im_ld (q := 40) (i := 1) D436_39 rfl rfl rfl ?_
    refine im_ld (q := 41) (i := 0) D436_40 rfl rfl rfl ?_
    refine im_gfR (q := 44) (b := 6981) D436_41 (im_fl cn_436 fl_12_97) sf_6952 rfl rfl tR_12_49 rf_6952_49 ?_
    refine im_iconst (q := 45) D436_44 ?_
    refine im_rng (j := 0) sf_6981 (by decide) (by decide) (fun hr11 => ?_)
    refine im_lald (q := 46) D436_45 sf_6981 (by decide) (by decide) (by decide) ((im_rdn _ _ _ _ (by decide)).trans (im_rdn _ _ _ _ (by decide))) ?_
    refine im_last (q := 47) D436_46 sf_7076 hg8.1 hg8.2 (by decide) (im_rgc hr11 ((im_rdn _ _ _ _ (by decide)).trans (im_rdn _ _ _ _ (by decide)))) ?_
    refine im_ld (q := 48) (i := 0) D436_47 rfl rfl rfl ?_
    refine im_gfR (q := 51) (b := 7077) D436_48 (im_fl cn_436 fl_12_387) sf_6952 rfl rfl tR_12_171 rf_6952_171 ?_
    refine im_ld (q := 52) (i := 1) D436_51 rfl rfl rfl ?_
    refine im_ld (q := 53) (i := 0) D436_52 rfl rfl rfl ?_
    refine im_gfR (q := 56) (b := 6982) D436_53 (im_fl cn_436 fl_12_100) sf_6952 rfl rfl tR_12_50 rf_6952_50 ?_
    refine im_iconst (q := 57) D436_56 ?_
    refine im_rng (j := 0) sf_6982 (by decide) (by decide) (fun hr12 => ?_)
    refine im_lald (q := 58) D436_57 sf_6982 (by decide) (by decide) (by decide) ((im_rdn _ _ _ _ (by decide)).trans ((im_rdn _ _ _ _ (by decide)).trans (im_rdn _ _ _ _ (by decide)))) ?_
    refine im_last (q := 59) D436_58 sf_7077 hg8.1 hg8.2 (by decide) (im_rgc hr12 ((im_rdn _ _ _ _ (by decide)).trans ((im_rdn _ _ _ _ (by decide)).trans (im_rdn _ _ _ _ (by decide))))) ?_
    refine im_ld (q := 60) (i := 0) D436_59 rfl rfl rfl ?_
    refine im_gfR (q := 63) (b := 7078) D436_60 (im_fl cn_436 fl_12_390) sf_6952 rfl rfl tR_12_172 rf_6952_172 ?_
    refine im_ld (q := 64) (i := 1) D436_63 rfl rfl rfl ?_
    refine im_ld (q := 65) (i := 0) D436_64 rfl rfl rfl ?_
    refine im_gfR (q := 68) (b := 6983) D436_65 (im_fl cn_436 fl_12_103) sf_6952 rfl rfl tR_12_51 rf_6952_51 ?_
    refine im_iconst (q := 69) D436_68 ?_
    refine im_rng (j := 0) sf_6983 (by decide) (by decide) (fun hr13 => ?_)
    refine im_iald (q := 70) D436_69 sf_6983 (by decide) (by decide) (by decide) ((im_rdn _ _ _ _ (by decide)).trans ((im_rdn _ _ _ _ (by decide)).trans ((im_rdn _ _ _ _ (by decide)).trans (im_rdn _ _ _ _ (by decide))))) ?_
    refine im_iast (q := 71) D436_70 sf_7078 hg8.1 hg8.2 (by decide) (im_rgc hr13 ((im_rdn _ _ _ _ (by decide)).trans ((im_rdn _ _ _ _ (by decide)).trans ((im_rdn _ _ _ _ (by decide)).trans (im_rdn _ _ _ _ (by decide)))))) ?_
    refine im_ld (q := 72) (i := 0) D436_71 rfl rfl rfl ?_
    refine im_gfR (q := 75) (b := 7079) D436_72 (im_fl cn_436 fl_12_393) sf_6952 rfl rfl tR_12_173 rf_6952_173 ?_
    refine im_ld (q := 76) (i := 1) D436_75 rfl rfl rfl ?_
    refine im_ld (q := 77) (i := 0) D436_76 rfl rfl rfl ?_
    refine im_rng (j := 174) sf_6952 (by decide) (by decide) (fun hr14 => ?_)
    refine im_gfL (q := 80) D436_77 (im_fl cn_436 fl_12_1089) sf_6952 rfl rfl tL_12_174 ((im_rdn _ _ _ _ (by decide)).trans ((im_rdn _ _ _ _ (by decide)).trans ((im_rdn _ _ _ _ (by decide)).trans ((im_rdn _ _ _ _ (by decide)).trans (im_rdn _ _ _ _ (by decide)))))) ?_
    refine im_last (q := 81) D436_80 sf_7079 hg8.1 hg8.2 (by decide) (im_rgc hr14 ((im_rdn _ _ _ _ (by decide)).trans ((im_rdn _ _ _ _ (by decide)).trans ((im_rdn _ _ _ _ (by decide)).trans ((im_rdn _ _ _ _ (by decide)).trans (im_rdn _ _ _ _ (by decide))))))) ?_
    exact im_vret (q := 82) D436_81 rfl hP
  refine im_ifc (q := 12) (t := 16) D436_9 rfl hr1 (fun hc2 => ?_) (fun hc2 => ?_)
  · refine im_ld (q := 17) (i := 0) D436_16 rfl rfl rfl ?_
    refine im_gfR (q := 20) (b := 6979) D436_17 (im_fl cn_436 fl_12_91) sf_6952 rfl rfl tR_12_47 rf_6952_47 ?_
    refine im_iconst (q := 21) D436_20 ?_
    refine im_rng (j := 0) sf_6979 (by decide) (by decide) (fun hr3 => ?_)
    refine im_iald (q := 22) D436_21 sf_6979 (by decide) (by decide) (by decide) rfl ?_
    exact (kJ6 ((M 6979 0)) (Or.inl ⟨hc2, rfl⟩)).wk ⟨rfl, rfl, trivial⟩
  · refine im_iconst (q := 13) D436_12 ?_
    refine im_goto (q := 16) (t := 22) D436_13 rfl ?_
    exact (kJ6 (0) (Or.inr ⟨(Decidable.not_not.mp hc2), rfl⟩)).wk ⟨rfl, rfl, trivial⟩
set_option maxRecDepth 20000 in
set_option maxHeartbeats 4000000 in
theorem b_isFound_0 {g : im_g} {d : Nat} {e : im_E} {M : im_M} {K : im_K} {p1 : Int} (hP : im_T g d 437 4 [some (.ref 6952), some (vI p1), some (vI 0), some (vI 0)] [] e M K) : im_T g d 437 0 [some (.ref 6952), some (vI p1), none, none] [] e M K := by
  refine im_iconst (q := 1) D437_0 ?_
  refine im_st1 (q := 2) (i := 2) (L' := [some (.ref 6952), some (vI p1), some (vI 0), none]) D437_1 (Or.inl ⟨_, rfl, rfl⟩) (Nat.le_of_ble_eq_true rfl) rfl ?_
  refine im_iconst (q := 3) D437_2 ?_
  refine im_st1 (q := 4) (i := 3) (L' := [some (.ref 6952), some (vI p1), some (vI 0), some (vI 0)]) D437_3 (Or.inl ⟨_, rfl, rfl⟩) (Nat.le_of_ble_eq_true rfl) rfl ?_
  exact hP.wk ⟨rfl, rfl, rfl, rfl, trivial⟩
set_option maxRecDepth 20000 in
set_option maxHeartbeats 4000000 in
theorem b_isFound_4 {g : im_g} {d : Nat} {e : im_E} {M : im_M} {K : im_K} {p1 p2 p3 : Int} (hP : (im_i32 p3) ∧ (((((M 6952 110) ≤ p3 → (0 ≤ p2 ∧ p2 ≤ 1) ∧ K (.inl (some (vI p2))) e M) ∧ (p3 < (M 6952 110) → (im_i32 p2) ∧ ((p2 = 0 → (0 ≤ p3 ∧ p3 < 60) ∧ ((¬ (xiand (xishr p1 ((M 7026 p3) - 1)) 1) = 1 → im_T g d 437 4 [some (.ref 6952), some (vI p1), some (vI 0), some (vI (p3 + 1))] [] e M K))))))) ∧ ((((p3 < (M 6952 110)) ∧ (¬ p2 = 0)) ∨ ((p3 < (M 6952 110)) ∧ (p2 = 0) ∧ ((xiand (xishr p1 ((M 7026 p3) - 1)) 1) = 1))) → im_T g d 437 4 [some (.ref 6952), some (vI p1), some (vI 1), some (vI (p3 + 1))] [] e M K))) : im_T g d 437 4 [some (.ref 6952), some (vI p1), some (vI p2), some (vI p3)] [] e M K := by
  refine im_ld (q := 5) (i := 3) D437_4 rfl rfl rfl ?_
  refine im_ld (q := 6) (i := 0) D437_5 rfl rfl rfl ?_
  refine im_rng (j := 110) sf_6952 (by decide) (by decide) (fun hr1 => ?_)
  refine im_gfI (q := 9) D437_6 (im_fl cn_437 fl_12_981) sf_6952 rfl rfl tI_12_110 rfl ?_
  obtain ⟨hg2, hP⟩ := hP
  obtain ⟨hP, hJ9⟩ := hP
  have kJ10 : (((p3 < (M 6952 110)) ∧ (¬ p2 = 0)) ∨ ((p3 < (M 6952 110)) ∧ (p2 = 0) ∧ ((xiand (xishr p1 ((M 7026 p3) - 1)) 1) = 1))) → im_T g d 437 32 [some (.ref 6952), some (vI p1), none, some (vI p3)] [] e M K := by
    intro  hx11
    have hP := hJ9  hx11
    refine im_iconst (q := 33) D437_32 ?_
    refine im_goto (q := 36) (t := 37) D437_33 rfl ?_
    refine im_st1 (q := 38) (i := 2) (L' := [some (.ref 6952), some (vI p1), some (vI 1), some (vI p3)]) D437_37 (Or.inl ⟨_, rfl, rfl⟩) (Nat.le_of_ble_eq_true rfl) rfl ?_
    refine im_iinc (q := 41) (i := 3) (L' := [some (.ref 6952), some (vI p1), some (vI 1), some (vI (p3 + 1))]) D437_38 rfl (Nat.le_of_ble_eq_true rfl) rfl ?_
    refine im_goto (q := 44) (t := 4) D437_41 rfl ?_
    exact hP.wk ⟨rfl, rfl, rfl, rfl, trivial⟩
  refine im_icmp (q := 12) (t := 44) D437_9 rfl hg2 hr1 (fun hc3 => ?_) (fun hc3 => ?_)
  · replace hP := hP.1 hc3
    refine im_ld (q := 45) (i := 2) D437_44 rfl rfl rfl ?_
    obtain ⟨hg12, hP⟩ := hP
    exact im_zret (q := 46) D437_45 rfl hg12 hP
  · replace hP := hP.2 (Int.not_le.mp hc3)
    refine im_ld (q := 13) (i := 2) D437_12 rfl rfl rfl ?_
    obtain ⟨hg4, hP⟩ := hP
    refine im_ifc (q := 16) (t := 32) D437_13 rfl hg4 (fun hc5 => ?_) (fun hc5 => ?_)
    · exact (kJ10  (Or.inl ⟨(Int.not_le.mp hc3), hc5⟩)).wk ⟨rfl, rfl, rfl, trivial⟩
    · replace hP := hP (Decidable.not_not.mp hc5)
      refine im_ld (q := 17) (i := 1) D437_16 rfl rfl rfl ?_
      refine im_ld (q := 18) (i := 0) D437_17 rfl rfl rfl ?_
      refine im_gfR (q := 21) (b := 7026) D437_18 (im_fl cn_437 fl_12_234) sf_6952 rfl rfl tR_12_111 rf_6952_111 ?_
      refine im_ld (q := 22) (i := 3) D437_21 rfl rfl rfl ?_
      obtain ⟨hg6, hP⟩ := hP
      refine im_rng (j := p3) sf_7026 hg6.1 hg6.2 (fun hr7 => ?_)
      refine im_iald (q := 23) D437_22 sf_7026 hg6.1 hg6.2 (by decide) rfl ?_
      refine im_iconst (q := 24) D437_23 ?_
      refine im_isub (q := 25) D437_24 ?_
      refine im_ishr (q := 26) D437_25 ?_
      refine im_iconst (q := 27) D437_26 ?_
      refine im_iand (q := 28) D437_27 ?_
      refine im_iconst (q := 29) D437_28 ?_
      refine im_icmp (q := 32) (t := 36) D437_29 rfl (xiand_r _ _) (by decide) (fun hc8 => ?_) (fun hc8 => ?_)
      · replace hP := hP hc8
        refine im_iconst (q := 37) D437_36 ?_
        refine im_st1 (q := 38) (i := 2) (L' := [some (.ref 6952), some (vI p1), some (vI 0), some (vI p3)]) D437_37 (Or.inl ⟨_, rfl, rfl⟩) (Nat.le_of_ble_eq_true rfl) rfl ?_
        refine im_iinc (q := 41) (i := 3) (L' := [some (.ref 6952), some (vI p1), some (vI 0), some (vI (p3 + 1))]) D437_38 rfl (Nat.le_of_ble_eq_true rfl) rfl ?_
        refine im_goto (q := 44) (t := 4) D437_41 rfl ?_
        exact hP.wk ⟨rfl, rfl, rfl, rfl, trivial⟩
      · exact (kJ10  (Or.inr ⟨(Int.not_le.mp hc3), (Decidable.not_not.mp hc5), (Decidable.not_not.mp hc8)⟩)).wk ⟨rfl, rfl, rfl, trivial⟩

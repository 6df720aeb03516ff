/-! blocks of the reference -/
theorem D361_0 {g : im_g} : im_D g 361 0 (.aload_n 0) 1 := im_D.of (by decide +kernel)
theorem D361_1 {g : im_g} : im_D g 361 1 (.aload_n 0) 2 := im_D.of (by decide +kernel)
theorem D361_2 {g : im_g} : im_D g 361 2 (.getfield 139) 5 := im_D.of (by decide +kernel)
theorem D361_5 {g : im_g} : im_D g 361 5 (.iload_n 1) 6 := im_D.of (by decide +kernel)
theorem D361_6 {g : im_g} : im_D g 361 6 (.iaload) 7 := im_D.of (by decide +kernel)
theorem D361_7 {g : im_g} : im_D g 361 7 (.putfield 858) 10 := im_D.of (by decide +kernel)
theorem D361_10 {g : im_g} : im_D g 361 10 (.aload_n 0) 11 := im_D.of (by decide +kernel)
theorem D361_11 {g : im_g} : im_D g 361 11 (.aload_n 0) 12 := im_D.of (by decide +kernel)
theorem D361_12 {g : im_g} : im_D g 361 12 (.getfield 142) 15 := im_D.of (by decide +kernel)
theorem D361_15 {g : im_g} : im_D g 361 15 (.iload_n 1) 16 := im_D.of (by decide +kernel)
theorem D361_16 {g : im_g} : im_D g 361 16 (.laload) 17 := im_D.of (by decide +kernel)
theorem D361_17 {g : im_g} : im_D g 361 17 (.putfield 861) 20 := im_D.of (by decide +kernel)
theorem D361_20 {g : im_g} : im_D g 361 20 (.aload_n 0) 21 := im_D.of (by decide +kernel)
theorem D361_21 {g : im_g} : im_D g 361 21 (.aload_n 0) 22 := im_D.of (by decide +kernel)
theorem D361_22 {g : im_g} : im_D g 361 22 (.getfield 145) 25 := im_D.of (by decide +kernel)
theorem D361_25 {g : im_g} : im_D g 361 25 (.iload_n 1) 26 := im_D.of (by decide +kernel)
theorem D361_26 {g : im_g} : im_D g 361 26 (.iaload) 27 := im_D.of (by decide +kernel)
theorem D361_27 {g : im_g} : im_D g 361 27 (.putfield 864) 30 := im_D.of (by decide +kernel)
theorem D361_30 {g : im_g} : im_D g 361 30 (.iconst 0) 31 := im_D.of (by decide +kernel)
theorem D361_31 {g : im_g} : im_D g 361 31 (.istore_n 2) 32 := im_D.of (by decide +kernel)
theorem D361_32 {g : im_g} : im_D g 361 32 (.iload_n 2) 33 := im_D.of (by decide +kernel)
theorem D361_33 {g : im_g} : im_D g 361 33 (.aload_n 0) 34 := im_D.of (by decide +kernel)
theorem D361_34 {g : im_g} : im_D g 361 34 (.getfield 145) 37 := im_D.of (by decide +kernel)
theorem D361_37 {g : im_g} : im_D g 361 37 (.iload_n 1) 38 := im_D.of (by decide +kernel)
theorem D361_38 {g : im_g} : im_D g 361 38 (.iaload) 39 := im_D.of (by decide +kernel)
theorem D361_39 {g : im_g} : im_D g 361 39 (.if_icmp .ge 63) 42 := im_D.of (by decide +kernel)
theorem D361_42 {g : im_g} : im_D g 361 42 (.aload_n 0) 43 := im_D.of (by decide +kernel)
theorem D361_43 {g : im_g} : im_D g 361 43 (.getfield 189) 46 := im_D.of (by decide +kernel)
theorem D361_46 {g : im_g} : im_D g 361 46 (.iload_n 2) 47 := im_D.of (by decide +kernel)
theorem D361_47 {g : im_g} : im_D g 361 47 (.aload_n 0) 48 := im_D.of (by decide +kernel)
theorem D361_48 {g : im_g} : im_D g 361 48 (.getfield 148) 51 := im_D.of (by decide +kernel)
theorem D361_51 {g : im_g} : im_D g 361 51 (.bipush 40) 53 := im_D.of (by decide +kernel)
theorem D361_53 {g : im_g} : im_D g 361 53 (.iload_n 1) 54 := im_D.of (by decide +kernel)
theorem D361_54 {g : im_g} : im_D g 361 54 (.imul) 55 := im_D.of (by decide +kernel)
theorem D361_55 {g : im_g} : im_D g 361 55 (.iload_n 2) 56 := im_D.of (by decide +kernel)
theorem D361_56 {g : im_g} : im_D g 361 56 (.iadd) 57 := im_D.of (by decide +kernel)
theorem D361_57 {g : im_g} : im_D g 361 57 (.laload) 58 := im_D.of (by decide +kernel)
theorem D361_58 {g : im_g} : im_D g 361 58 (.lastore) 59 := im_D.of (by decide +kernel)
theorem D361_59 {g : im_g} : im_D g 361 59 (.aload_n 0) 60 := im_D.of (by decide +kernel)
theorem D361_60 {g : im_g} : im_D g 361 60 (.getfield 192) 63 := im_D.of (by decide +kernel)
theorem D361_63 {g : im_g} : im_D g 361 63 (.iload_n 2) 64 := im_D.of (by decide +kernel)
theorem D361_64 {g : im_g} : im_D g 361 64 (.aload_n 0) 65 := im_D.of (by decide +kernel)
theorem D361_65 {g : im_g} : im_D g 361 65 (.getfield 151) 68 := im_D.of (by decide +kernel)
theorem D361_68 {g : im_g} : im_D g 361 68 (.bipush 40) 70 := im_D.of (by decide +kernel)
theorem D361_70 {g : im_g} : im_D g 361 70 (.iload_n 1) 71 := im_D.of (by decide +kernel)
theorem D361_71 {g : im_g} : im_D g 361 71 (.imul) 72 := im_D.of (by decide +kernel)
theorem D361_72 {g : im_g} : im_D g 361 72 (.iload_n 2) 73 := im_D.of (by decide +kernel)
theorem D361_73 {g : im_g} : im_D g 361 73 (.iadd) 74 := im_D.of (by decide +kernel)
theorem D361_74 {g : im_g} : im_D g 361 74 (.laload) 75 := im_D.of (by decide +kernel)
theorem D361_75 {g : im_g} : im_D g 361 75 (.lastore) 76 := im_D.of (by decide +kernel)
theorem D361_76 {g : im_g} : im_D g 361 76 (.aload_n 0) 77 := im_D.of (by decide +kernel)
theorem D361_77 {g : im_g} : im_D g 361 77 (.getfield 195) 80 := im_D.of (by decide +kernel)
theorem D361_80 {g : im_g} : im_D g 361 80 (.iload_n 2) 81 := im_D.of (by decide +kernel)
theorem D361_81 {g : im_g} : im_D g 361 81 (.aload_n 0) 82 := im_D.of (by decide +kernel)
theorem D361_82 {g : im_g} : im_D g 361 82 (.aload_n 0) 83 := im_D.of (by decide +kernel)
theorem D361_83 {g : im_g} : im_D g 361 83 (.getfield 155) 86 := im_D.of (by decide +kernel)
theorem D361_86 {g : im_g} : im_D g 361 86 (.bipush 40) 88 := im_D.of (by decide +kernel)
theorem D361_88 {g : im_g} : im_D g 361 88 (.iload_n 1) 89 := im_D.of (by decide +kernel)
theorem D361_89 {g : im_g} : im_D g 361 89 (.imul) 90 := im_D.of (by decide +kernel)
theorem D361_90 {g : im_g} : im_D g 361 90 (.iload_n 2) 91 := im_D.of (by decide +kernel)
theorem D361_91 {g : im_g} : im_D g 361 91 (.iadd) 92 := im_D.of (by decide +kernel)
theorem D361_92 {g : im_g} : im_D g 361 92 (.invokevirtual 825) 95 := im_D.of (by decide +kernel)
theorem D361_95 {g : im_g} : im_D g 361 95 (.iastore) 96 := im_D.of (by decide +kernel)
theorem D361_96 {g : im_g} : im_D g 361 96 (.iinc 2 1) 99 := im_D.of (by decide +kernel)
theorem D361_99 {g : im_g} : im_D g 361 99 (.goto (-67)) 102 := im_D.of (by decide +kernel)
theorem D361_102 {g : im_g} : im_D g 361 102 (.aload_n 0) 103 := im_D.of (by decide +kernel)
theorem D361_103 {g : im_g} : im_D g 361 103 (.aload_n 0) 104 := im_D.of (by decide +kernel)
theorem D361_104 {g : im_g} : im_D g 361 104 (.getfield 158) 107 := im_D.of (by decide +kernel)
theorem D361_107 {g : im_g} : im_D g 361 107 (.iload_n 1) 108 := im_D.of (by decide +kernel)
theorem D361_108 {g : im_g} : im_D g 361 108 (.iaload) 109 := im_D.of (by decide +kernel)
theorem D361_109 {g : im_g} : im_D g 361 109 (.putfield 867) 112 := im_D.of (by decide +kernel)
theorem D361_112 {g : im_g} : im_D g 361 112 (.iconst 0) 113 := im_D.of (by decide +kernel)
theorem D361_113 {g : im_g} : im_D g 361 113 (.istore_n 2) 114 := im_D.of (by decide +kernel)
theorem D361_114 {g : im_g} : im_D g 361 114 (.iload_n 2) 115 := im_D.of (by decide +kernel)
theorem D361_115 {g : im_g} : im_D g 361 115 (.aload_n 0) 116 := im_D.of (by decide +kernel)
theorem D361_116 {g : im_g} : im_D g 361 116 (.getfield 158) 119 := im_D.of (by decide +kernel)
theorem D361_119 {g : im_g} : im_D g 361 119 (.iload_n 1) 120 := im_D.of (by decide +kernel)
theorem D361_120 {g : im_g} : im_D g 361 120 (.iaload) 121 := im_D.of (by decide +kernel)
theorem D361_121 {g : im_g} : im_D g 361 121 (.if_icmp .ge 63) 124 := im_D.of (by decide +kernel)
theorem D361_124 {g : im_g} : im_D g 361 124 (.aload_n 0) 125 := im_D.of (by decide +kernel)
theorem D361_125 {g : im_g} : im_D g 361 125 (.getfield 198) 128 := im_D.of (by decide +kernel)
theorem D361_128 {g : im_g} : im_D g 361 128 (.iload_n 2) 129 := im_D.of (by decide +kernel)
theorem D361_129 {g : im_g} : im_D g 361 129 (.aload_n 0) 130 := im_D.of (by decide +kernel)
theorem D361_130 {g : im_g} : im_D g 361 130 (.getfield 161) 133 := im_D.of (by decide +kernel)
theorem D361_133 {g : im_g} : im_D g 361 133 (.bipush 40) 135 := im_D.of (by decide +kernel)
theorem D361_135 {g : im_g} : im_D g 361 135 (.iload_n 1) 136 := im_D.of (by decide +kernel)
theorem D361_136 {g : im_g} : im_D g 361 136 (.imul) 137 := im_D.of (by decide +kernel)
theorem D361_137 {g : im_g} : im_D g 361 137 (.iload_n 2) 138 := im_D.of (by decide +kernel)
theorem D361_138 {g : im_g} : im_D g 361 138 (.iadd) 139 := im_D.of (by decide +kernel)
theorem D361_139 {g : im_g} : im_D g 361 139 (.laload) 140 := im_D.of (by decide +kernel)
theorem D361_140 {g : im_g} : im_D g 361 140 (.lastore) 141 := im_D.of (by decide +kernel)
theorem D361_141 {g : im_g} : im_D g 361 141 (.aload_n 0) 142 := im_D.of (by decide +kernel)
theorem D361_142 {g : im_g} : im_D g 361 142 (.getfield 201) 145 := im_D.of (by decide +kernel)
theorem D361_145 {g : im_g} : im_D g 361 145 (.iload_n 2) 146 := im_D.of (by decide +kernel)
theorem D361_146 {g : im_g} : im_D g 361 146 (.aload_n 0) 147 := im_D.of (by decide +kernel)
theorem D361_147 {g : im_g} : im_D g 361 147 (.getfield 164) 150 := im_D.of (by decide +kernel)
theorem D361_150 {g : im_g} : im_D g 361 150 (.bipush 40) 152 := im_D.of (by decide +kernel)
theorem D361_152 {g : im_g} : im_D g 361 152 (.iload_n 1) 153 := im_D.of (by decide +kernel)
theorem D361_153 {g : im_g} : im_D g 361 153 (.imul) 154 := im_D.of (by decide +kernel)
theorem D361_154 {g : im_g} : im_D g 361 154 (.iload_n 2) 155 := im_D.of (by decide +kernel)
theorem D361_155 {g : im_g} : im_D g 361 155 (.iadd) 156 := im_D.of (by decide +kernel)
theorem D361_156 {g : im_g} : im_D g 361 156 (.laload) 157 := im_D.of (by decide +kernel)
theorem D361_157 {g : im_g} : im_D g 361 157 (.lastore) 158 := im_D.of (by decide +kernel)
theorem D361_158 {g : im_g} : im_D g 361 158 (.aload_n 0) 159 := im_D.of (by decide +kernel)
theorem D361_159 {g : im_g} : im_D g 361 159 (.getfield 204) 162 := im_D.of (by decide +kernel)
theorem D361_162 {g : im_g} : im_D g 361 162 (.iload_n 2) 163 := im_D.of (by decide +kernel)
theorem D361_163 {g : im_g} : im_D g 361 163 (.aload_n 0) 164 := im_D.of (by decide +kernel)
theorem D361_164 {g : im_g} : im_D g 361 164 (.aload_n 0) 165 := im_D.of (by decide +kernel)
theorem D361_165 {g : im_g} : im_D g 361 165 (.getfield 167) 168 := im_D.of (by decide +kernel)
theorem D361_168 {g : im_g} : im_D g 361 168 (.bipush 40) 170 := im_D.of (by decide +kernel)
theorem D361_170 {g : im_g} : im_D g 361 170 (.iload_n 1) 171 := im_D.of (by decide +kernel)
theorem D361_171 {g : im_g} : im_D g 361 171 (.imul) 172 := im_D.of (by decide +kernel)
theorem D361_172 {g : im_g} : im_D g 361 172 (.iload_n 2) 173 := im_D.of (by decide +kernel)
theorem D361_173 {g : im_g} : im_D g 361 173 (.iadd) 174 := im_D.of (by decide +kernel)
theorem D361_174 {g : im_g} : im_D g 361 174 (.invokevirtual 825) 177 := im_D.of (by decide +kernel)
theorem D361_177 {g : im_g} : im_D g 361 177 (.iastore) 178 := im_D.of (by decide +kernel)
theorem D361_178 {g : im_g} : im_D g 361 178 (.iinc 2 1) 181 := im_D.of (by decide +kernel)
theorem D361_181 {g : im_g} : im_D g 361 181 (.goto (-67)) 184 := im_D.of (by decide +kernel)
theorem D361_184 {g : im_g} : im_D g 361 184 (.aload_n 0) 185 := im_D.of (by decide +kernel)
theorem D361_185 {g : im_g} : im_D g 361 185 (.aload_n 0) 186 := im_D.of (by decide +kernel)
theorem D361_186 {g : im_g} : im_D g 361 186 (.getfield 170) 189 := im_D.of (by decide +kernel)
theorem D361_189 {g : im_g} : im_D g 361 189 (.iload_n 1) 190 := im_D.of (by decide +kernel)
theorem D361_190 {g : im_g} : im_D g 361 190 (.iaload) 191 := im_D.of (by decide +kernel)
theorem D361_191 {g : im_g} : im_D g 361 191 (.putfield 870) 194 := im_D.of (by decide +kernel)
theorem D361_194 {g : im_g} : im_D g 361 194 (.iconst 0) 195 := im_D.of (by decide +kernel)
theorem D361_195 {g : im_g} : im_D g 361 195 (.istore_n 2) 196 := im_D.of (by decide +kernel)
theorem D361_196 {g : im_g} : im_D g 361 196 (.iload_n 2) 197 := im_D.of (by decide +kernel)
theorem D361_197 {g : im_g} : im_D g 361 197 (.aload_n 0) 198 := im_D.of (by decide +kernel)
theorem D361_198 {g : im_g} : im_D g 361 198 (.getfield 170) 201 := im_D.of (by decide +kernel)
theorem D361_201 {g : im_g} : im_D g 361 201 (.iload_n 1) 202 := im_D.of (by decide +kernel)
theorem D361_202 {g : im_g} : im_D g 361 202 (.iaload) 203 := im_D.of (by decide +kernel)
theorem D361_203 {g : im_g} : im_D g 361 203 (.if_icmp .ge 46) 206 := im_D.of (by decide +kernel)
theorem D361_206 {g : im_g} : im_D g 361 206 (.aload_n 0) 207 := im_D.of (by decide +kernel)
theorem D361_207 {g : im_g} : im_D g 361 207 (.getfield 207) 210 := im_D.of (by decide +kernel)
theorem D361_210 {g : im_g} : im_D g 361 210 (.iload_n 2) 211 := im_D.of (by decide +kernel)
theorem D361_211 {g : im_g} : im_D g 361 211 (.aload_n 0) 212 := im_D.of (by decide +kernel)
theorem D361_212 {g : im_g} : im_D g 361 212 (.getfield 173) 215 := im_D.of (by decide +kernel)
theorem D361_215 {g : im_g} : im_D g 361 215 (.bipush 40) 217 := im_D.of (by decide +kernel)
theorem D361_217 {g : im_g} : im_D g 361 217 (.iload_n 1) 218 := im_D.of (by decide +kernel)
theorem D361_218 {g : im_g} : im_D g 361 218 (.imul) 219 := im_D.of (by decide +kernel)
theorem D361_219 {g : im_g} : im_D g 361 219 (.iload_n 2) 220 := im_D.of (by decide +kernel)
theorem D361_220 {g : im_g} : im_D g 361 220 (.iadd) 221 := im_D.of (by decide +kernel)
theorem D361_221 {g : im_g} : im_D g 361 221 (.laload) 222 := im_D.of (by decide +kernel)
theorem D361_222 {g : im_g} : im_D g 361 222 (.lastore) 223 := im_D.of (by decide +kernel)
theorem D361_223 {g : im_g} : im_D g 361 223 (.aload_n 0) 224 := im_D.of (by decide +kernel)
theorem D361_224 {g : im_g} : im_D g 361 224 (.getfield 210) 227 := im_D.of (by decide +kernel)
theorem D361_227 {g : im_g} : im_D g 361 227 (.iload_n 2) 228 := im_D.of (by decide +kernel)
theorem D361_228 {g : im_g} : im_D g 361 228 (.aload_n 0) 229 := im_D.of (by decide +kernel)
theorem D361_229 {g : im_g} : im_D g 361 229 (.aload_n 0) 230 := im_D.of (by decide +kernel)
theorem D361_230 {g : im_g} : im_D g 361 230 (.getfield 176) 233 := im_D.of (by decide +kernel)
theorem D361_233 {g : im_g} : im_D g 361 233 (.bipush 40) 235 := im_D.of (by decide +kernel)
theorem D361_235 {g : im_g} : im_D g 361 235 (.iload_n 1) 236 := im_D.of (by decide +kernel)
theorem D361_236 {g : im_g} : im_D g 361 236 (.imul) 237 := im_D.of (by decide +kernel)
theorem D361_237 {g : im_g} : im_D g 361 237 (.iload_n 2) 238 := im_D.of (by decide +kernel)
theorem D361_238 {g : im_g} : im_D g 361 238 (.iadd) 239 := im_D.of (by decide +kernel)
theorem D361_239 {g : im_g} : im_D g 361 239 (.invokevirtual 825) 242 := im_D.of (by decide +kernel)
theorem D361_242 {g : im_g} : im_D g 361 242 (.iastore) 243 := im_D.of (by decide +kernel)
theorem D361_243 {g : im_g} : im_D g 361 243 (.iinc 2 1) 246 := im_D.of (by decide +kernel)
theorem D361_246 {g : im_g} : im_D g 361 246 (.goto (-50)) 249 := im_D.of (by decide +kernel)
theorem D361_249 {g : im_g} : im_D g 361 249 (.aload_n 0) 250 := im_D.of (by decide +kernel)
theorem D361_250 {g : im_g} : im_D g 361 250 (.aload_n 0) 251 := im_D.of (by decide +kernel)
theorem D361_251 {g : im_g} : im_D g 361 251 (.getfield 179) 254 := im_D.of (by decide +kernel)
theorem D361_254 {g : im_g} : im_D g 361 254 (.iload_n 1) 255 := im_D.of (by decide +kernel)
theorem D361_255 {g : im_g} : im_D g 361 255 (.iaload) 256 := im_D.of (by decide +kernel)
theorem D361_256 {g : im_g} : im_D g 361 256 (.putfield 873) 259 := im_D.of (by decide +kernel)
theorem D361_259 {g : im_g} : im_D g 361 259 (.iconst 0) 260 := im_D.of (by decide +kernel)
theorem D361_260 {g : im_g} : im_D g 361 260 (.istore_n 2) 261 := im_D.of (by decide +kernel)
theorem D361_261 {g : im_g} : im_D g 361 261 (.iload_n 2) 262 := im_D.of (by decide +kernel)
theorem D361_262 {g : im_g} : im_D g 361 262 (.aload_n 0) 263 := im_D.of (by decide +kernel)
theorem D361_263 {g : im_g} : im_D g 361 263 (.getfield 179) 266 := im_D.of (by decide +kernel)
theorem D361_266 {g : im_g} : im_D g 361 266 (.iload_n 1) 267 := im_D.of (by decide +kernel)
theorem D361_267 {g : im_g} : im_D g 361 267 (.iaload) 268 := im_D.of (by decide +kernel)
theorem D361_268 {g : im_g} : im_D g 361 268 (.if_icmp .ge 46) 271 := im_D.of (by decide +kernel)
theorem D361_271 {g : im_g} : im_D g 361 271 (.aload_n 0) 272 := im_D.of (by decide +kernel)
theorem D361_272 {g : im_g} : im_D g 361 272 (.getfield 213) 275 := im_D.of (by decide +kernel)
theorem D361_275 {g : im_g} : im_D g 361 275 (.iload_n 2) 276 := im_D.of (by decide +kernel)
theorem D361_276 {g : im_g} : im_D g 361 276 (.aload_n 0) 277 := im_D.of (by decide +kernel)
theorem D361_277 {g : im_g} : im_D g 361 277 (.getfield 182) 280 := im_D.of (by decide +kernel)
theorem D361_280 {g : im_g} : im_D g 361 280 (.bipush 20) 282 := im_D.of (by decide +kernel)
theorem D361_282 {g : im_g} : im_D g 361 282 (.iload_n 1) 283 := im_D.of (by decide +kernel)
theorem D361_283 {g : im_g} : im_D g 361 283 (.imul) 284 := im_D.of (by decide +kernel)
theorem D361_284 {g : im_g} : im_D g 361 284 (.iload_n 2) 285 := im_D.of (by decide +kernel)
theorem D361_285 {g : im_g} : im_D g 361 285 (.iadd) 286 := im_D.of (by decide +kernel)
theorem D361_286 {g : im_g} : im_D g 361 286 (.laload) 287 := im_D.of (by decide +kernel)
theorem D361_287 {g : im_g} : im_D g 361 287 (.lastore) 288 := im_D.of (by decide +kernel)
theorem D361_288 {g : im_g} : im_D g 361 288 (.aload_n 0) 289 := im_D.of (by decide +kernel)
theorem D361_289 {g : im_g} : im_D g 361 289 (.getfield 216) 292 := im_D.of (by decide +kernel)
theorem D361_292 {g : im_g} : im_D g 361 292 (.iload_n 2) 293 := im_D.of (by decide +kernel)
theorem D361_293 {g : im_g} : im_D g 361 293 (.aload_n 0) 294 := im_D.of (by decide +kernel)
theorem D361_294 {g : im_g} : im_D g 361 294 (.aload_n 0) 295 := im_D.of (by decide +kernel)
theorem D361_295 {g : im_g} : im_D g 361 295 (.getfield 186) 298 := im_D.of (by decide +kernel)
theorem D361_298 {g : im_g} : im_D g 361 298 (.bipush 20) 300 := im_D.of (by decide +kernel)
theorem D361_300 {g : im_g} : im_D g 361 300 (.iload_n 1) 301 := im_D.of (by decide +kernel)
theorem D361_301 {g : im_g} : im_D g 361 301 (.imul) 302 := im_D.of (by decide +kernel)
theorem D361_302 {g : im_g} : im_D g 361 302 (.iload_n 2) 303 := im_D.of (by decide +kernel)
theorem D361_303 {g : im_g} : im_D g 361 303 (.iadd) 304 := im_D.of (by decide +kernel)
theorem D361_304 {g : im_g} : im_D g 361 304 (.invokevirtual 825) 307 := im_D.of (by decide +kernel)
theorem D361_307 {g : im_g} : im_D g 361 307 (.iastore) 308 := im_D.of (by decide +kernel)
theorem D361_308 {g : im_g} : im_D g 361 308 (.iinc 2 1) 311 := im_D.of (by decide +kernel)
theorem D361_311 {g : im_g} : im_D g 361 311 (.goto (-50)) 314 := im_D.of (by decide +kernel)
theorem D361_314 {g : im_g} : im_D g 361 314 (.return_) 315 := im_D.of (by decide +kernel)
theorem D362_0 {g : im_g} : im_D g 362 0 (.aload_n 0) 1 := im_D.of (by decide +kernel)
theorem D362_1 {g : im_g} : im_D g 362 1 (.aload_n 0) 2 := im_D.of (by decide +kernel)
theorem D362_2 {g : im_g} : im_D g 362 2 (.getfield 1032) 5 := im_D.of (by decide +kernel)
theorem D362_5 {g : im_g} : im_D g 362 5 (.putfield 965) 8 := im_D.of (by decide +kernel)
theorem D362_8 {g : im_g} : im_D g 362 8 (.iconst 0) 9 := im_D.of (by decide +kernel)
theorem D362_9 {g : im_g} : im_D g 362 9 (.istore_n 1) 10 := im_D.of (by decide +kernel)
theorem D362_10 {g : im_g} : im_D g 362 10 (.iload_n 1) 11 := im_D.of (by decide +kernel)
theorem D362_11 {g : im_g} : im_D g 362 11 (.aload_n 0) 12 := im_D.of (by decide +kernel)
theorem D362_12 {g : im_g} : im_D g 362 12 (.getfield 1032) 15 := im_D.of (by decide +kernel)
theorem D362_15 {g : im_g} : im_D g 362 15 (.if_icmp .ge 48) 18 := im_D.of (by decide +kernel)
theorem D362_18 {g : im_g} : im_D g 362 18 (.aload_n 0) 19 := im_D.of (by decide +kernel)
theorem D362_19 {g : im_g} : im_D g 362 19 (.getfield 249) 22 := im_D.of (by decide +kernel)
theorem D362_22 {g : im_g} : im_D g 362 22 (.iload_n 1) 23 := im_D.of (by decide +kernel)
theorem D362_23 {g : im_g} : im_D g 362 23 (.aload_n 0) 24 := im_D.of (by decide +kernel)
theorem D362_24 {g : im_g} : im_D g 362 24 (.getfield 282) 27 := im_D.of (by decide +kernel)
theorem D362_27 {g : im_g} : im_D g 362 27 (.iload_n 1) 28 := im_D.of (by decide +kernel)
theorem D362_28 {g : im_g} : im_D g 362 28 (.laload) 29 := im_D.of (by decide +kernel)
theorem D362_29 {g : im_g} : im_D g 362 29 (.lastore) 30 := im_D.of (by decide +kernel)
theorem D362_30 {g : im_g} : im_D g 362 30 (.aload_n 0) 31 := im_D.of (by decide +kernel)
theorem D362_31 {g : im_g} : im_D g 362 31 (.getfield 252) 34 := im_D.of (by decide +kernel)
theorem D362_34 {g : im_g} : im_D g 362 34 (.iload_n 1) 35 := im_D.of (by decide +kernel)
theorem D362_35 {g : im_g} : im_D g 362 35 (.aload_n 0) 36 := im_D.of (by decide +kernel)
theorem D362_36 {g : im_g} : im_D g 362 36 (.getfield 285) 39 := im_D.of (by decide +kernel)
theorem D362_39 {g : im_g} : im_D g 362 39 (.iload_n 1) 40 := im_D.of (by decide +kernel)
theorem D362_40 {g : im_g} : im_D g 362 40 (.laload) 41 := im_D.of (by decide +kernel)
theorem D362_41 {g : im_g} : im_D g 362 41 (.lastore) 42 := im_D.of (by decide +kernel)
theorem D362_42 {g : im_g} : im_D g 362 42 (.aload_n 0) 43 := im_D.of (by decide +kernel)
theorem D362_43 {g : im_g} : im_D g 362 43 (.getfield 255) 46 := im_D.of (by decide +kernel)
theorem D362_46 {g : im_g} : im_D g 362 46 (.iload_n 1) 47 := im_D.of (by decide +kernel)
theorem D362_47 {g : im_g} : im_D g 362 47 (.aload_n 0) 48 := im_D.of (by decide +kernel)
theorem D362_48 {g : im_g} : im_D g 362 48 (.aload_n 0) 49 := im_D.of (by decide +kernel)
theorem D362_49 {g : im_g} : im_D g 362 49 (.getfield 288) 52 := im_D.of (by decide +kernel)
theorem D362_52 {g : im_g} : im_D g 362 52 (.iload_n 1) 53 := im_D.of (by decide +kernel)
theorem D362_53 {g : im_g} : im_D g 362 53 (.invokevirtual 825) 56 := im_D.of (by decide +kernel)
theorem D362_56 {g : im_g} : im_D g 362 56 (.iastore) 57 := im_D.of (by decide +kernel)
theorem D362_57 {g : im_g} : im_D g 362 57 (.iinc 1 1) 60 := im_D.of (by decide +kernel)
theorem D362_60 {g : im_g} : im_D g 362 60 (.goto (-50)) 63 := im_D.of (by decide +kernel)
theorem D362_63 {g : im_g} : im_D g 362 63 (.return_) 64 := im_D.of (by decide +kernel)
theorem D363_0 {g : im_g} : im_D g 363 0 (.aload_n 0) 1 := im_D.of (by decide +kernel)
theorem D363_1 {g : im_g} : im_D g 363 1 (.iconst 0) 2 := im_D.of (by decide +kernel)
theorem D363_2 {g : im_g} : im_D g 363 2 (.putfield 855) 5 := im_D.of (by decide +kernel)
theorem D363_5 {g : im_g} : im_D g 363 5 (.aload_n 0) 6 := im_D.of (by decide +kernel)
theorem D363_6 {g : im_g} : im_D g 363 6 (.iconst 0) 7 := im_D.of (by decide +kernel)
theorem D363_7 {g : im_g} : im_D g 363 7 (.putfield 971) 10 := im_D.of (by decide +kernel)
theorem D363_10 {g : im_g} : im_D g 363 10 (.aload_n 0) 11 := im_D.of (by decide +kernel)
theorem D363_11 {g : im_g} : im_D g 363 11 (.iconst 0) 12 := im_D.of (by decide +kernel)
theorem D363_12 {g : im_g} : im_D g 363 12 (.putfield 981) 15 := im_D.of (by decide +kernel)
theorem D363_15 {g : im_g} : im_D g 363 15 (.aload_n 0) 16 := im_D.of (by decide +kernel)
theorem D363_16 {g : im_g} : im_D g 363 16 (.iconst 0) 17 := im_D.of (by decide +kernel)
theorem D363_17 {g : im_g} : im_D g 363 17 (.putfield 997) 20 := im_D.of (by decide +kernel)
theorem D363_20 {g : im_g} : im_D g 363 20 (.lload_n 1) 21 := im_D.of (by decide +kernel)
theorem D363_21 {g : im_g} : im_D g 363 21 (.lload_n 3) 22 := im_D.of (by decide +kernel)
theorem D363_22 {g : im_g} : im_D g 363 22 (.lcmp) 23 := im_D.of (by decide +kernel)
theorem D363_23 {g : im_g} : im_D g 363 23 (.ifCond .gt 25) 26 := im_D.of (by decide +kernel)
theorem D363_26 {g : im_g} : im_D g 363 26 (.lload_n 1) 27 := im_D.of (by decide +kernel)
theorem D363_27 {g : im_g} : im_D g 363 27 (.lconst 0) 28 := im_D.of (by decide +kernel)
theorem D363_28 {g : im_g} : im_D g 363 28 (.ldc2_w 672) 31 := im_D.of (by decide +kernel)
theorem D363_31 {g : im_g} : im_D g 363 31 (.invokestatic 428) 34 := im_D.of (by decide +kernel)
theorem D363_34 {g : im_g} : im_D g 363 34 (.ifCond .eq 14) 37 := im_D.of (by decide +kernel)
theorem D363_37 {g : im_g} : im_D g 363 37 (.lload_n 3) 38 := im_D.of (by decide +kernel)
theorem D363_38 {g : im_g} : im_D g 363 38 (.lconst 0) 39 := im_D.of (by decide +kernel)
theorem D363_39 {g : im_g} : im_D g 363 39 (.ldc2_w 672) 42 := im_D.of (by decide +kernel)
theorem D363_42 {g : im_g} : im_D g 363 42 (.invokestatic 428) 45 := im_D.of (by decide +kernel)
theorem D363_45 {g : im_g} : im_D g 363 45 (.ifCond .ne 6) 48 := im_D.of (by decide +kernel)
theorem D363_48 {g : im_g} : im_D g 363 48 (.bipush (-2)) 50 := im_D.of (by decide +kernel)
theorem D363_50 {g : im_g} : im_D g 363 50 (.ireturn) 51 := im_D.of (by decide +kernel)
theorem D363_51 {g : im_g} : im_D g 363 51 (.lload_n 3) 52 := im_D.of (by decide +kernel)
theorem D363_52 {g : im_g} : im_D g 363 52 (.aload_n 0) 53 := im_D.of (by decide +kernel)
theorem D363_53 {g : im_g} : im_D g 363 53 (.getfield 861) 56 := im_D.of (by decide +kernel)
theorem D363_56 {g : im_g} : im_D g 363 56 (.lcmp) 57 := im_D.of (by decide +kernel)
theorem D363_57 {g : im_g} : im_D g 363 57 (.ifCond .ge 6) 60 := im_D.of (by decide +kernel)
theorem D363_60 {g : im_g} : im_D g 363 60 (.bipush (-3)) 62 := im_D.of (by decide +kernel)
theorem D363_62 {g : im_g} : im_D g 363 62 (.ireturn) 63 := im_D.of (by decide +kernel)
theorem D363_63 {g : im_g} : im_D g 363 63 (.aload_n 0) 64 := im_D.of (by decide +kernel)
theorem D363_64 {g : im_g} : im_D g 363 64 (.lload_n 1) 65 := im_D.of (by decide +kernel)
theorem D363_65 {g : im_g} : im_D g 363 65 (.aload_n 0) 66 := im_D.of (by decide +kernel)
theorem D363_66 {g : im_g} : im_D g 363 66 (.getfield 861) 69 := im_D.of (by decide +kernel)
theorem D363_69 {g : im_g} : im_D g 363 69 (.lcmp) 70 := im_D.of (by decide +kernel)
theorem D363_70 {g : im_g} : im_D g 363 70 (.ifCond .le 7) 73 := im_D.of (by decide +kernel)
theorem D363_73 {g : im_g} : im_D g 363 73 (.lload_n 1) 74 := im_D.of (by decide +kernel)
theorem D363_74 {g : im_g} : im_D g 363 74 (.goto 7) 77 := im_D.of (by decide +kernel)
theorem D363_77 {g : im_g} : im_D g 363 77 (.aload_n 0) 78 := im_D.of (by decide +kernel)
theorem D363_78 {g : im_g} : im_D g 363 78 (.getfield 861) 81 := im_D.of (by decide +kernel)
theorem D363_81 {g : im_g} : im_D g 363 81 (.putfield 905) 84 := im_D.of (by decide +kernel)
theorem D363_84 {g : im_g} : im_D g 363 84 (.aload_n 0) 85 := im_D.of (by decide +kernel)
theorem D363_85 {g : im_g} : im_D g 363 85 (.lload_n 3) 86 := im_D.of (by decide +kernel)
theorem D363_86 {g : im_g} : im_D g 363 86 (.putfield 911) 89 := im_D.of (by decide +kernel)
theorem D363_89 {g : im_g} : im_D g 363 89 (.aload_n 0) 90 := im_D.of (by decide +kernel)
theorem D363_90 {g : im_g} : im_D g 363 90 (.getfield 858) 93 := im_D.of (by decide +kernel)
theorem D363_93 {g : im_g} : im_D g 363 93 (.istore 5) 95 := im_D.of (by decide +kernel)
theorem D363_95 {g : im_g} : im_D g 363 95 (.aload_n 0) 96 := im_D.of (by decide +kernel)
theorem D363_96 {g : im_g} : im_D g 363 96 (.invokevirtual 1026) 99 := im_D.of (by decide +kernel)
theorem D363_99 {g : im_g} : im_D g 363 99 (.iconst 0) 100 := im_D.of (by decide +kernel)
theorem D363_100 {g : im_g} : im_D g 363 100 (.istore 6) 102 := im_D.of (by decide +kernel)
theorem D363_102 {g : im_g} : im_D g 363 102 (.iload 6) 104 := im_D.of (by decide +kernel)
theorem D363_104 {g : im_g} : im_D g 363 104 (.aload_n 0) 105 := im_D.of (by decide +kernel)
theorem D363_105 {g : im_g} : im_D g 363 105 (.getfield 723) 108 := im_D.of (by decide +kernel)
theorem D363_108 {g : im_g} : im_D g 363 108 (.if_icmp .ge 26) 111 := im_D.of (by decide +kernel)
theorem D363_111 {g : im_g} : im_D g 363 111 (.aload_n 0) 112 := im_D.of (by decide +kernel)
theorem D363_112 {g : im_g} : im_D g 363 112 (.getfield 855) 115 := im_D.of (by decide +kernel)
theorem D363_115 {g : im_g} : im_D g 363 115 (.ifCond .ne 19) 118 := im_D.of (by decide +kernel)
theorem D363_118 {g : im_g} : im_D g 363 118 (.aload_n 0) 119 := im_D.of (by decide +kernel)
theorem D363_119 {g : im_g} : im_D g 363 119 (.iload 6) 121 := im_D.of (by decide +kernel)
theorem D363_121 {g : im_g} : im_D g 363 121 (.invokevirtual 1029) 124 := im_D.of (by decide +kernel)
theorem D363_124 {g : im_g} : im_D g 363 124 (.aload_n 0) 125 := im_D.of (by decide +kernel)
theorem D363_125 {g : im_g} : im_D g 363 125 (.invokevirtual 1026) 128 := im_D.of (by decide +kernel)
theorem D363_128 {g : im_g} : im_D g 363 128 (.iinc 6 1) 131 := im_D.of (by decide +kernel)
theorem D363_131 {g : im_g} : im_D g 363 131 (.goto (-29)) 134 := im_D.of (by decide +kernel)
theorem D363_134 {g : im_g} : im_D g 363 134 (.aload_n 0) 135 := im_D.of (by decide +kernel)
theorem D363_135 {g : im_g} : im_D g 363 135 (.getfield 855) 138 := im_D.of (by decide +kernel)
theorem D363_138 {g : im_g} : im_D g 363 138 (.ifCond .ne 32) 141 := im_D.of (by decide +kernel)
theorem D363_141 {g : im_g} : im_D g 363 141 (.aload_n 0) 142 := im_D.of (by decide +kernel)
theorem D363_142 {g : im_g} : im_D g 363 142 (.getfield 723) 145 := im_D.of (by decide +kernel)
theorem D363_145 {g : im_g} : im_D g 363 145 (.ifCond .ne 25) 148 := im_D.of (by decide +kernel)
theorem D363_148 {g : im_g} : im_D g 363 148 (.aload_n 0) 149 := im_D.of (by decide +kernel)
theorem D363_149 {g : im_g} : im_D g 363 149 (.getfield 858) 152 := im_D.of (by decide +kernel)
theorem D363_152 {g : im_g} : im_D g 363 152 (.iload 5) 154 := im_D.of (by decide +kernel)
theorem D363_154 {g : im_g} : im_D g 363 154 (.if_icmp .ne 16) 157 := im_D.of (by decide +kernel)
theorem D363_157 {g : im_g} : im_D g 363 157 (.aload_n 0) 158 := im_D.of (by decide +kernel)
theorem D363_158 {g : im_g} : im_D g 363 158 (.getfield 997) 161 := im_D.of (by decide +kernel)
theorem D363_161 {g : im_g} : im_D g 363 161 (.ifCond .ne 9) 164 := im_D.of (by decide +kernel)
theorem D363_164 {g : im_g} : im_D g 363 164 (.aload_n 0) 165 := im_D.of (by decide +kernel)
theorem D363_165 {g : im_g} : im_D g 363 165 (.bipush (-6)) 167 := im_D.of (by decide +kernel)
theorem D363_167 {g : im_g} : im_D g 363 167 (.invokevirtual 959) 170 := im_D.of (by decide +kernel)
theorem D363_170 {g : im_g} : im_D g 363 170 (.aload_n 0) 171 := im_D.of (by decide +kernel)
theorem D363_171 {g : im_g} : im_D g 363 171 (.aload_n 0) 172 := im_D.of (by decide +kernel)
theorem D363_172 {g : im_g} : im_D g 363 172 (.getfield 905) 175 := im_D.of (by decide +kernel)
theorem D363_175 {g : im_g} : im_D g 363 175 (.putfield 861) 178 := im_D.of (by decide +kernel)
theorem D363_178 {g : im_g} : im_D g 363 178 (.aload_n 0) 179 := im_D.of (by decide +kernel)
theorem D363_179 {g : im_g} : im_D g 363 179 (.getfield 855) 182 := im_D.of (by decide +kernel)
theorem D363_182 {g : im_g} : im_D g 363 182 (.ireturn) 183 := im_D.of (by decide +kernel)
theorem D364_0 {g : im_g} : im_D g 364 0 (.aload_n 0) 1 := im_D.of (by decide +kernel)
theorem D364_1 {g : im_g} : im_D g 364 1 (.getfield 855) 4 := im_D.of (by decide +kernel)
theorem D364_4 {g : im_g} : im_D g 364 4 (.ifCond .ne 7) 7 := im_D.of (by decide +kernel)
theorem D364_7 {g : im_g} : im_D g 364 7 (.iconst 1) 8 := im_D.of (by decide +kernel)
theorem D364_8 {g : im_g} : im_D g 364 8 (.goto 4) 11 := im_D.of (by decide +kernel)
theorem D364_11 {g : im_g} : im_D g 364 11 (.iconst 0) 12 := im_D.of (by decide +kernel)
theorem D364_12 {g : im_g} : im_D g 364 12 (.istore_n 1) 13 := im_D.of (by decide +kernel)
theorem D364_13 {g : im_g} : im_D g 364 13 (.iload_n 1) 14 := im_D.of (by decide +kernel)
theorem D364_14 {g : im_g} : im_D g 364 14 (.ifCond .eq 26) 17 := im_D.of (by decide +kernel)
theorem D364_17 {g : im_g} : im_D g 364 17 (.aload_n 0) 18 := im_D.of (by decide +kernel)
theorem D364_18 {g : im_g} : im_D g 364 18 (.invokevirtual 1009) 21 := im_D.of (by decide +kernel)
theorem D364_21 {g : im_g} : im_D g 364 21 (.ifCond .eq 14) 24 := im_D.of (by decide +kernel)
theorem D364_24 {g : im_g} : im_D g 364 24 (.aload_n 0) 25 := im_D.of (by decide +kernel)
theorem D364_25 {g : im_g} : im_D g 364 25 (.getfield 855) 28 := im_D.of (by decide +kernel)
theorem D364_28 {g : im_g} : im_D g 364 28 (.ifCond .ne 7) 31 := im_D.of (by decide +kernel)
theorem D364_31 {g : im_g} : im_D g 364 31 (.iconst 1) 32 := im_D.of (by decide +kernel)
theorem D364_32 {g : im_g} : im_D g 364 32 (.goto 4) 35 := im_D.of (by decide +kernel)
theorem D364_35 {g : im_g} : im_D g 364 35 (.iconst 0) 36 := im_D.of (by decide +kernel)
theorem D364_36 {g : im_g} : im_D g 364 36 (.istore_n 1) 37 := im_D.of (by decide +kernel)
theorem D364_37 {g : im_g} : im_D g 364 37 (.goto (-24)) 40 := im_D.of (by decide +kernel)
theorem D364_40 {g : im_g} : im_D g 364 40 (.return_) 41 := im_D.of (by decide +kernel)
theorem D365_0 {g : im_g} : im_D g 365 0 (.aload_n 0) 1 := im_D.of (by decide +kernel)
theorem D365_1 {g : im_g} : im_D g 365 1 (.getfield 858) 4 := im_D.of (by decide +kernel)
theorem D365_4 {g : im_g} : im_D g 365 4 (.istore_n 1) 5 := im_D.of (by decide +kernel)
theorem D365_5 {g : im_g} : im_D g 365 5 (.aload_n 0) 6 := im_D.of (by decide +kernel)
theorem D365_6 {g : im_g} : im_D g 365 6 (.getfield 33) 9 := im_D.of (by decide +kernel)
theorem D365_9 {g : im_g} : im_D g 365 9 (.iload_n 1) 10 := im_D.of (by decide +kernel)
theorem D365_10 {g : im_g} : im_D g 365 10 (.iaload) 11 := im_D.of (by decide +kernel)
theorem D365_11 {g : im_g} : im_D g 365 11 (.tableswitch 183 1 6 #[37, 90, 90, 96, 131, 177]) 12 := im_D.of (by decide +kernel)
theorem D365_48 {g : im_g} : im_D g 365 48 (.aload_n 0) 49 := im_D.of (by decide +kernel)
theorem D365_49 {g : im_g} : im_D g 365 49 (.getfield 864) 52 := im_D.of (by decide +kernel)
theorem D365_52 {g : im_g} : im_D g 365 52 (.ifCond .ne 5) 55 := im_D.of (by decide +kernel)
theorem D365_55 {g : im_g} : im_D g 365 55 (.iconst 0) 56 := im_D.of (by decide +kernel)
theorem D365_56 {g : im_g} : im_D g 365 56 (.ireturn) 57 := im_D.of (by decide +kernel)
theorem D365_57 {g : im_g} : im_D g 365 57 (.aload_n 0) 58 := im_D.of (by decide +kernel)
theorem D365_58 {g : im_g} : im_D g 365 58 (.iconst 1) 59 := im_D.of (by decide +kernel)
theorem D365_59 {g : im_g} : im_D g 365 59 (.putfield 997) 62 := im_D.of (by decide +kernel)
theorem D365_62 {g : im_g} : im_D g 365 62 (.aload_n 0) 63 := im_D.of (by decide +kernel)
theorem D365_63 {g : im_g} : im_D g 365 63 (.getfield 195) 66 := im_D.of (by decide +kernel)
theorem D365_66 {g : im_g} : im_D g 365 66 (.iconst 0) 67 := im_D.of (by decide +kernel)
theorem D365_67 {g : im_g} : im_D g 365 67 (.iaload) 68 := im_D.of (by decide +kernel)
theorem D365_68 {g : im_g} : im_D g 365 68 (.istore_n 2) 69 := im_D.of (by decide +kernel)
theorem D365_69 {g : im_g} : im_D g 365 69 (.aload_n 0) 70 := im_D.of (by decide +kernel)
theorem D365_70 {g : im_g} : im_D g 365 70 (.getfield 189) 73 := im_D.of (by decide +kernel)
theorem D365_73 {g : im_g} : im_D g 365 73 (.iconst 0) 74 := im_D.of (by decide +kernel)
theorem D365_74 {g : im_g} : im_D g 365 74 (.laload) 75 := im_D.of (by decide +kernel)
theorem D365_75 {g : im_g} : im_D g 365 75 (.lstore_n 3) 76 := im_D.of (by decide +kernel)
theorem D365_76 {g : im_g} : im_D g 365 76 (.aload_n 0) 77 := im_D.of (by decide +kernel)
theorem D365_77 {g : im_g} : im_D g 365 77 (.getfield 192) 80 := im_D.of (by decide +kernel)
theorem D365_80 {g : im_g} : im_D g 365 80 (.iconst 0) 81 := im_D.of (by decide +kernel)
theorem D365_81 {g : im_g} : im_D g 365 81 (.laload) 82 := im_D.of (by decide +kernel)
theorem D365_82 {g : im_g} : im_D g 365 82 (.lstore 5) 84 := im_D.of (by decide +kernel)
theorem D365_84 {g : im_g} : im_D g 365 84 (.aload_n 0) 85 := im_D.of (by decide +kernel)
theorem D365_85 {g : im_g} : im_D g 365 85 (.iconst 0) 86 := im_D.of (by decide +kernel)
theorem D365_86 {g : im_g} : im_D g 365 86 (.invokevirtual 991) 89 := im_D.of (by decide +kernel)
theorem D365_89 {g : im_g} : im_D g 365 89 (.aload_n 0) 90 := im_D.of (by decide +kernel)
theorem D365_90 {g : im_g} : im_D g 365 90 (.iconst 0) 91 := im_D.of (by decide +kernel)
theorem D365_91 {g : im_g} : im_D g 365 91 (.lload_n 3) 92 := im_D.of (by decide +kernel)
theorem D365_92 {g : im_g} : im_D g 365 92 (.lload_n 3) 93 := im_D.of (by decide +kernel)
theorem D365_93 {g : im_g} : im_D g 365 93 (.lload 5) 95 := im_D.of (by decide +kernel)
theorem D365_95 {g : im_g} : im_D g 365 95 (.iload_n 2) 96 := im_D.of (by decide +kernel)
theorem D365_96 {g : im_g} : im_D g 365 96 (.invokevirtual 994) 99 := im_D.of (by decide +kernel)
theorem D365_99 {g : im_g} : im_D g 365 99 (.iconst 1) 100 := im_D.of (by decide +kernel)
theorem D365_100 {g : im_g} : im_D g 365 100 (.ireturn) 101 := im_D.of (by decide +kernel)
theorem D365_101 {g : im_g} : im_D g 365 101 (.aload_n 0) 102 := im_D.of (by decide +kernel)
theorem D365_102 {g : im_g} : im_D g 365 102 (.invokevirtual 1000) 105 := im_D.of (by decide +kernel)
theorem D365_105 {g : im_g} : im_D g 365 105 (.iconst 1) 106 := im_D.of (by decide +kernel)
theorem D365_106 {g : im_g} : im_D g 365 106 (.ireturn) 107 := im_D.of (by decide +kernel)
theorem D365_107 {g : im_g} : im_D g 365 107 (.aload_n 0) 108 := im_D.of (by decide +kernel)
theorem D365_108 {g : im_g} : im_D g 365 108 (.aload_n 0) 109 := im_D.of (by decide +kernel)
theorem D365_109 {g : im_g} : im_D g 365 109 (.aload_n 0) 110 := im_D.of (by decide +kernel)
theorem D365_110 {g : im_g} : im_D g 365 110 (.getfield 45) 113 := im_D.of (by decide +kernel)
theorem D365_113 {g : im_g} : im_D g 365 113 (.iload_n 1) 114 := im_D.of (by decide +kernel)
theorem D365_114 {g : im_g} : im_D g 365 114 (.iaload) 115 := im_D.of (by decide +kernel)
theorem D365_115 {g : im_g} : im_D g 365 115 (.invokevirtual 984) 118 := im_D.of (by decide +kernel)
theorem D365_118 {g : im_g} : im_D g 365 118 (.iconst 1) 119 := im_D.of (by decide +kernel)
theorem D365_119 {g : im_g} : im_D g 365 119 (.if_icmp .ne 12) 122 := im_D.of (by decide +kernel)
theorem D365_122 {g : im_g} : im_D g 365 122 (.aload_n 0) 123 := im_D.of (by decide +kernel)
theorem D365_123 {g : im_g} : im_D g 365 123 (.getfield 48) 126 := im_D.of (by decide +kernel)
theorem D365_126 {g : im_g} : im_D g 365 126 (.iload_n 1) 127 := im_D.of (by decide +kernel)
theorem D365_127 {g : im_g} : im_D g 365 127 (.iaload) 128 := im_D.of (by decide +kernel)
theorem D365_128 {g : im_g} : im_D g 365 128 (.goto 9) 131 := im_D.of (by decide +kernel)
theorem D365_131 {g : im_g} : im_D g 365 131 (.aload_n 0) 132 := im_D.of (by decide +kernel)
theorem D365_132 {g : im_g} : im_D g 365 132 (.getfield 51) 135 := im_D.of (by decide +kernel)
theorem D365_135 {g : im_g} : im_D g 365 135 (.iload_n 1) 136 := im_D.of (by decide +kernel)
theorem D365_136 {g : im_g} : im_D g 365 136 (.iaload) 137 := im_D.of (by decide +kernel)
theorem D365_137 {g : im_g} : im_D g 365 137 (.putfield 858) 140 := im_D.of (by decide +kernel)
theorem D365_140 {g : im_g} : im_D g 365 140 (.iconst 1) 141 := im_D.of (by decide +kernel)
theorem D365_141 {g : im_g} : im_D g 365 141 (.ireturn) 142 := im_D.of (by decide +kernel)
theorem D365_142 {g : im_g} : im_D g 365 142 (.aload_n 0) 143 := im_D.of (by decide +kernel)
theorem D365_143 {g : im_g} : im_D g 365 143 (.getfield 911) 146 := im_D.of (by decide +kernel)
theorem D365_146 {g : im_g} : im_D g 365 146 (.aload_n 0) 147 := im_D.of (by decide +kernel)
theorem D365_147 {g : im_g} : im_D g 365 147 (.iload_n 1) 148 := im_D.of (by decide +kernel)
theorem D365_148 {g : im_g} : im_D g 365 148 (.invokevirtual 1003) 151 := im_D.of (by decide +kernel)
theorem D365_151 {g : im_g} : im_D g 365 151 (.lcmp) 152 := im_D.of (by decide +kernel)
theorem D365_152 {g : im_g} : im_D g 365 152 (.ifCond .ge 5) 155 := im_D.of (by decide +kernel)
theorem D365_155 {g : im_g} : im_D g 365 155 (.iconst 0) 156 := im_D.of (by decide +kernel)
theorem D365_156 {g : im_g} : im_D g 365 156 (.ireturn) 157 := im_D.of (by decide +kernel)
theorem D365_157 {g : im_g} : im_D g 365 157 (.aload_n 0) 158 := im_D.of (by decide +kernel)
theorem D365_158 {g : im_g} : im_D g 365 158 (.getfield 905) 161 := im_D.of (by decide +kernel)
theorem D365_161 {g : im_g} : im_D g 365 161 (.aload_n 0) 162 := im_D.of (by decide +kernel)
theorem D365_162 {g : im_g} : im_D g 365 162 (.iload_n 1) 163 := im_D.of (by decide +kernel)
theorem D365_163 {g : im_g} : im_D g 365 163 (.invokevirtual 1003) 166 := im_D.of (by decide +kernel)
theorem D365_166 {g : im_g} : im_D g 365 166 (.lcmp) 167 := im_D.of (by decide +kernel)
theorem D365_167 {g : im_g} : im_D g 365 167 (.ifCond .ge 9) 170 := im_D.of (by decide +kernel)
theorem D365_170 {g : im_g} : im_D g 365 170 (.aload_n 0) 171 := im_D.of (by decide +kernel)
theorem D365_171 {g : im_g} : im_D g 365 171 (.bipush (-4)) 173 := im_D.of (by decide +kernel)
theorem D365_173 {g : im_g} : im_D g 365 173 (.invokevirtual 959) 176 := im_D.of (by decide +kernel)
theorem D365_176 {g : im_g} : im_D g 365 176 (.aload_n 0) 177 := im_D.of (by decide +kernel)
theorem D365_177 {g : im_g} : im_D g 365 177 (.aload_n 0) 178 := im_D.of (by decide +kernel)
theorem D365_178 {g : im_g} : im_D g 365 178 (.getfield 48) 181 := im_D.of (by decide +kernel)
theorem D365_181 {g : im_g} : im_D g 365 181 (.iload_n 1) 182 := im_D.of (by decide +kernel)
theorem D365_182 {g : im_g} : im_D g 365 182 (.iaload) 183 := im_D.of (by decide +kernel)
theorem D365_183 {g : im_g} : im_D g 365 183 (.putfield 858) 186 := im_D.of (by decide +kernel)
theorem D365_186 {g : im_g} : im_D g 365 186 (.iconst 1) 187 := im_D.of (by decide +kernel)
theorem D365_187 {g : im_g} : im_D g 365 187 (.ireturn) 188 := im_D.of (by decide +kernel)
theorem D365_188 {g : im_g} : im_D g 365 188 (.aload_n 0) 189 := im_D.of (by decide +kernel)
theorem D365_189 {g : im_g} : im_D g 365 189 (.invokevirtual 1006) 192 := im_D.of (by decide +kernel)
theorem D365_192 {g : im_g} : im_D g 365 192 (.iconst 1) 193 := im_D.of (by decide +kernel)
theorem D365_193 {g : im_g} : im_D g 365 193 (.ireturn) 194 := im_D.of (by decide +kernel)
theorem D365_194 {g : im_g} : im_D g 365 194 (.aload_n 0) 195 := im_D.of (by decide +kernel)
theorem D365_195 {g : im_g} : im_D g 365 195 (.aload_n 0) 196 := im_D.of (by decide +kernel)
theorem D365_196 {g : im_g} : im_D g 365 196 (.getfield 45) 199 := im_D.of (by decide +kernel)
theorem D365_199 {g : im_g} : im_D g 365 199 (.iload_n 1) 200 := im_D.of (by decide +kernel)
theorem D365_200 {g : im_g} : im_D g 365 200 (.iaload) 201 := im_D.of (by decide +kernel)
theorem D365_201 {g : im_g} : im_D g 365 201 (.invokevirtual 984) 204 := im_D.of (by decide +kernel)
theorem D365_204 {g : im_g} : im_D g 365 204 (.istore 7) 206 := im_D.of (by decide +kernel)
theorem D365_206 {g : im_g} : im_D g 365 206 (.aload_n 0) 207 := im_D.of (by decide +kernel)
theorem D365_207 {g : im_g} : im_D g 365 207 (.aload_n 0) 208 := im_D.of (by decide +kernel)
theorem D365_208 {g : im_g} : im_D g 365 208 (.getfield 48) 211 := im_D.of (by decide +kernel)
theorem D365_211 {g : im_g} : im_D g 365 211 (.iload_n 1) 212 := im_D.of (by decide +kernel)
theorem D365_212 {g : im_g} : im_D g 365 212 (.iaload) 213 := im_D.of (by decide +kernel)
theorem D365_213 {g : im_g} : im_D g 365 213 (.putfield 858) 216 := im_D.of (by decide +kernel)
theorem D365_216 {g : im_g} : im_D g 365 216 (.iload 7) 218 := im_D.of (by decide +kernel)
theorem D365_218 {g : im_g} : im_D g 365 218 (.ifCond .ne 19) 221 := im_D.of (by decide +kernel)
theorem D365_221 {g : im_g} : im_D g 365 221 (.aload_n 0) 222 := im_D.of (by decide +kernel)
theorem D365_222 {g : im_g} : im_D g 365 222 (.getfield 855) 225 := im_D.of (by decide +kernel)
theorem D365_225 {g : im_g} : im_D g 365 225 (.ifCond .ne 12) 228 := im_D.of (by decide +kernel)
theorem D365_228 {g : im_g} : im_D g 365 228 (.aload_n 0) 229 := im_D.of (by decide +kernel)
theorem D365_229 {g : im_g} : im_D g 365 229 (.iconst 5) 230 := im_D.of (by decide +kernel)
theorem D365_230 {g : im_g} : im_D g 365 230 (.lconst 0) 231 := im_D.of (by decide +kernel)
theorem D365_231 {g : im_g} : im_D g 365 231 (.lconst 0) 232 := im_D.of (by decide +kernel)
theorem D365_232 {g : im_g} : im_D g 365 232 (.lconst 0) 233 := im_D.of (by decide +kernel)
theorem D365_233 {g : im_g} : im_D g 365 233 (.iconst (-1)) 234 := im_D.of (by decide +kernel)
theorem D365_234 {g : im_g} : im_D g 365 234 (.invokevirtual 987) 237 := im_D.of (by decide +kernel)
theorem D365_237 {g : im_g} : im_D g 365 237 (.iconst 1) 238 := im_D.of (by decide +kernel)
theorem D365_238 {g : im_g} : im_D g 365 238 (.ireturn) 239 := im_D.of (by decide +kernel)
theorem D366_0 {g : im_g} : im_D g 366 0 (.aload_n 0) 1 := im_D.of (by decide +kernel)
theorem D366_1 {g : im_g} : im_D g 366 1 (.dup) 2 := im_D.of (by decide +kernel)
theorem D366_2 {g : im_g} : im_D g 366 2 (.getfield 864) 5 := im_D.of (by decide +kernel)
theorem D366_5 {g : im_g} : im_D g 366 5 (.iconst 1) 6 := im_D.of (by decide +kernel)
theorem D366_6 {g : im_g} : im_D g 366 6 (.isub) 7 := im_D.of (by decide +kernel)
theorem D366_7 {g : im_g} : im_D g 366 7 (.putfield 864) 10 := im_D.of (by decide +kernel)
theorem D366_10 {g : im_g} : im_D g 366 10 (.iload_n 1) 11 := im_D.of (by decide +kernel)
theorem D366_11 {g : im_g} : im_D g 366 11 (.istore_n 2) 12 := im_D.of (by decide +kernel)
theorem D366_12 {g : im_g} : im_D g 366 12 (.iload_n 2) 13 := im_D.of (by decide +kernel)
theorem D366_13 {g : im_g} : im_D g 366 13 (.aload_n 0) 14 := im_D.of (by decide +kernel)
theorem D366_14 {g : im_g} : im_D g 366 14 (.getfield 864) 17 := im_D.of (by decide +kernel)
theorem D366_17 {g : im_g} : im_D g 366 17 (.if_icmp .ge 51) 20 := im_D.of (by decide +kernel)
theorem D366_20 {g : im_g} : im_D g 366 20 (.aload_n 0) 21 := im_D.of (by decide +kernel)
theorem D366_21 {g : im_g} : im_D g 366 21 (.getfield 189) 24 := im_D.of (by decide +kernel)
theorem D366_24 {g : im_g} : im_D g 366 24 (.iload_n 2) 25 := im_D.of (by decide +kernel)
theorem D366_25 {g : im_g} : im_D g 366 25 (.aload_n 0) 26 := im_D.of (by decide +kernel)
theorem D366_26 {g : im_g} : im_D g 366 26 (.getfield 189) 29 := im_D.of (by decide +kernel)
theorem D366_29 {g : im_g} : im_D g 366 29 (.iload_n 2) 30 := im_D.of (by decide +kernel)
theorem D366_30 {g : im_g} : im_D g 366 30 (.iconst 1) 31 := im_D.of (by decide +kernel)
theorem D366_31 {g : im_g} : im_D g 366 31 (.iadd) 32 := im_D.of (by decide +kernel)
theorem D366_32 {g : im_g} : im_D g 366 32 (.laload) 33 := im_D.of (by decide +kernel)
theorem D366_33 {g : im_g} : im_D g 366 33 (.lastore) 34 := im_D.of (by decide +kernel)
theorem D366_34 {g : im_g} : im_D g 366 34 (.aload_n 0) 35 := im_D.of (by decide +kernel)
theorem D366_35 {g : im_g} : im_D g 366 35 (.getfield 192) 38 := im_D.of (by decide +kernel)
theorem D366_38 {g : im_g} : im_D g 366 38 (.iload_n 2) 39 := im_D.of (by decide +kernel)
theorem D366_39 {g : im_g} : im_D g 366 39 (.aload_n 0) 40 := im_D.of (by decide +kernel)
theorem D366_40 {g : im_g} : im_D g 366 40 (.getfield 192) 43 := im_D.of (by decide +kernel)
theorem D366_43 {g : im_g} : im_D g 366 43 (.iload_n 2) 44 := im_D.of (by decide +kernel)
theorem D366_44 {g : im_g} : im_D g 366 44 (.iconst 1) 45 := im_D.of (by decide +kernel)
theorem D366_45 {g : im_g} : im_D g 366 45 (.iadd) 46 := im_D.of (by decide +kernel)
theorem D366_46 {g : im_g} : im_D g 366 46 (.laload) 47 := im_D.of (by decide +kernel)
theorem D366_47 {g : im_g} : im_D g 366 47 (.lastore) 48 := im_D.of (by decide +kernel)
theorem D366_48 {g : im_g} : im_D g 366 48 (.aload_n 0) 49 := im_D.of (by decide +kernel)
theorem D366_49 {g : im_g} : im_D g 366 49 (.getfield 195) 52 := im_D.of (by decide +kernel)
theorem D366_52 {g : im_g} : im_D g 366 52 (.iload_n 2) 53 := im_D.of (by decide +kernel)
theorem D366_53 {g : im_g} : im_D g 366 53 (.aload_n 0) 54 := im_D.of (by decide +kernel)
theorem D366_54 {g : im_g} : im_D g 366 54 (.getfield 195) 57 := im_D.of (by decide +kernel)
theorem D366_57 {g : im_g} : im_D g 366 57 (.iload_n 2) 58 := im_D.of (by decide +kernel)
theorem D366_58 {g : im_g} : im_D g 366 58 (.iconst 1) 59 := im_D.of (by decide +kernel)
theorem D366_59 {g : im_g} : im_D g 366 59 (.iadd) 60 := im_D.of (by decide +kernel)
theorem D366_60 {g : im_g} : im_D g 366 60 (.iaload) 61 := im_D.of (by decide +kernel)
theorem D366_61 {g : im_g} : im_D g 366 61 (.iastore) 62 := im_D.of (by decide +kernel)
theorem D366_62 {g : im_g} : im_D g 366 62 (.iinc 2 1) 65 := im_D.of (by decide +kernel)
theorem D366_65 {g : im_g} : im_D g 366 65 (.goto (-53)) 68 := im_D.of (by decide +kernel)
theorem D366_68 {g : im_g} : im_D g 366 68 (.return_) 69 := im_D.of (by decide +kernel)
theorem D367_0 {g : im_g} : im_D g 367 0 (.aload_n 0) 1 := im_D.of (by decide +kernel)
theorem D367_1 {g : im_g} : im_D g 367 1 (.getfield 971) 4 := im_D.of (by decide +kernel)
theorem D367_4 {g : im_g} : im_D g 367 4 (.bipush 60) 6 := im_D.of (by decide +kernel)
theorem D367_6 {g : im_g} : im_D g 367 6 (.if_icmp .ne 10) 9 := im_D.of (by decide +kernel)
theorem D367_9 {g : im_g} : im_D g 367 9 (.aload_n 0) 10 := im_D.of (by decide +kernel)
theorem D367_10 {g : im_g} : im_D g 367 10 (.bipush (-9)) 12 := im_D.of (by decide +kernel)
theorem D367_12 {g : im_g} : im_D g 367 12 (.invokevirtual 959) 15 := im_D.of (by decide +kernel)
theorem D367_15 {g : im_g} : im_D g 367 15 (.return_) 16 := im_D.of (by decide +kernel)
theorem D367_16 {g : im_g} : im_D g 367 16 (.aload_n 0) 17 := im_D.of (by decide +kernel)
theorem D367_17 {g : im_g} : im_D g 367 17 (.getfield 219) 20 := im_D.of (by decide +kernel)
theorem D367_20 {g : im_g} : im_D g 367 20 (.aload_n 0) 21 := im_D.of (by decide +kernel)
theorem D367_21 {g : im_g} : im_D g 367 21 (.getfield 971) 24 := im_D.of (by decide +kernel)
theorem D367_24 {g : im_g} : im_D g 367 24 (.iload_n 1) 25 := im_D.of (by decide +kernel)
theorem D367_25 {g : im_g} : im_D g 367 25 (.iastore) 26 := im_D.of (by decide +kernel)
theorem D367_26 {g : im_g} : im_D g 367 26 (.aload_n 0) 27 := im_D.of (by decide +kernel)
theorem D367_27 {g : im_g} : im_D g 367 27 (.getfield 222) 30 := im_D.of (by decide +kernel)
theorem D367_30 {g : im_g} : im_D g 367 30 (.aload_n 0) 31 := im_D.of (by decide +kernel)
theorem D367_31 {g : im_g} : im_D g 367 31 (.getfield 971) 34 := im_D.of (by decide +kernel)
theorem D367_34 {g : im_g} : im_D g 367 34 (.lload_n 2) 35 := im_D.of (by decide +kernel)
theorem D367_35 {g : im_g} : im_D g 367 35 (.lastore) 36 := im_D.of (by decide +kernel)
theorem D367_36 {g : im_g} : im_D g 367 36 (.aload_n 0) 37 := im_D.of (by decide +kernel)
theorem D367_37 {g : im_g} : im_D g 367 37 (.getfield 225) 40 := im_D.of (by decide +kernel)
theorem D367_40 {g : im_g} : im_D g 367 40 (.aload_n 0) 41 := im_D.of (by decide +kernel)
theorem D367_41 {g : im_g} : im_D g 367 41 (.getfield 971) 44 := im_D.of (by decide +kernel)
theorem D367_44 {g : im_g} : im_D g 367 44 (.lload 4) 46 := im_D.of (by decide +kernel)
theorem D367_46 {g : im_g} : im_D g 367 46 (.lastore) 47 := im_D.of (by decide +kernel)
theorem D367_47 {g : im_g} : im_D g 367 47 (.aload_n 0) 48 := im_D.of (by decide +kernel)
theorem D367_48 {g : im_g} : im_D g 367 48 (.getfield 228) 51 := im_D.of (by decide +kernel)
theorem D367_51 {g : im_g} : im_D g 367 51 (.aload_n 0) 52 := im_D.of (by decide +kernel)
theorem D367_52 {g : im_g} : im_D g 367 52 (.getfield 971) 55 := im_D.of (by decide +kernel)
theorem D367_55 {g : im_g} : im_D g 367 55 (.lload 6) 57 := im_D.of (by decide +kernel)
theorem D367_57 {g : im_g} : im_D g 367 57 (.lastore) 58 := im_D.of (by decide +kernel)
theorem D367_58 {g : im_g} : im_D g 367 58 (.aload_n 0) 59 := im_D.of (by decide +kernel)
theorem D367_59 {g : im_g} : im_D g 367 59 (.getfield 231) 62 := im_D.of (by decide +kernel)
theorem D367_62 {g : im_g} : im_D g 367 62 (.aload_n 0) 63 := im_D.of (by decide +kernel)
theorem D367_63 {g : im_g} : im_D g 367 63 (.getfield 971) 66 := im_D.of (by decide +kernel)
theorem D367_66 {g : im_g} : im_D g 367 66 (.iload 8) 68 := im_D.of (by decide +kernel)
theorem D367_68 {g : im_g} : im_D g 367 68 (.iastore) 69 := im_D.of (by decide +kernel)
theorem D367_69 {g : im_g} : im_D g 367 69 (.aload_n 0) 70 := im_D.of (by decide +kernel)
theorem D367_70 {g : im_g} : im_D g 367 70 (.dup) 71 := im_D.of (by decide +kernel)
theorem D367_71 {g : im_g} : im_D g 367 71 (.getfield 971) 74 := im_D.of (by decide +kernel)
theorem D367_74 {g : im_g} : im_D g 367 74 (.iconst 1) 75 := im_D.of (by decide +kernel)
theorem D367_75 {g : im_g} : im_D g 367 75 (.iadd) 76 := im_D.of (by decide +kernel)
theorem D367_76 {g : im_g} : im_D g 367 76 (.putfield 971) 79 := im_D.of (by decide +kernel)
theorem D367_79 {g : im_g} : im_D g 367 79 (.iload_n 1) 80 := im_D.of (by decide +kernel)
theorem D367_80 {g : im_g} : im_D g 367 80 (.ifCond .ne 16) 83 := im_D.of (by decide +kernel)
theorem D367_83 {g : im_g} : im_D g 367 83 (.aload_n 0) 84 := im_D.of (by decide +kernel)
theorem D367_84 {g : im_g} : im_D g 367 84 (.lload 4) 86 := im_D.of (by decide +kernel)
theorem D367_86 {g : im_g} : im_D g 367 86 (.lload 6) 88 := im_D.of (by decide +kernel)
theorem D367_88 {g : im_g} : im_D g 367 88 (.iload 8) 90 := im_D.of (by decide +kernel)
theorem D367_90 {g : im_g} : im_D g 367 90 (.invokevirtual 974) 93 := im_D.of (by decide +kernel)
theorem D367_93 {g : im_g} : im_D g 367 93 (.goto 13) 96 := im_D.of (by decide +kernel)
theorem D367_96 {g : im_g} : im_D g 367 96 (.aload_n 0) 97 := im_D.of (by decide +kernel)
theorem D367_97 {g : im_g} : im_D g 367 97 (.lload 4) 99 := im_D.of (by decide +kernel)
theorem D367_99 {g : im_g} : im_D g 367 99 (.lload 6) 101 := im_D.of (by decide +kernel)
theorem D367_101 {g : im_g} : im_D g 367 101 (.iload 8) 103 := im_D.of (by decide +kernel)
theorem D367_103 {g : im_g} : im_D g 367 103 (.invokevirtual 978) 106 := im_D.of (by decide +kernel)
theorem D367_106 {g : im_g} : im_D g 367 106 (.return_) 107 := im_D.of (by decide +kernel)
theorem D368_0 {g : im_g} : im_D g 368 0 (.aload_n 0) 1 := im_D.of (by decide +kernel)
theorem D368_1 {g : im_g} : im_D g 368 1 (.aload_n 0) 2 := im_D.of (by decide +kernel)
theorem D368_2 {g : im_g} : im_D g 368 2 (.getfield 855) 5 := im_D.of (by decide +kernel)
theorem D368_5 {g : im_g} : im_D g 368 5 (.ifCond .ne 7) 8 := im_D.of (by decide +kernel)
theorem D368_8 {g : im_g} : im_D g 368 8 (.iload_n 1) 9 := im_D.of (by decide +kernel)
theorem D368_9 {g : im_g} : im_D g 368 9 (.goto 7) 12 := im_D.of (by decide +kernel)
theorem D368_12 {g : im_g} : im_D g 368 12 (.aload_n 0) 13 := im_D.of (by decide +kernel)
theorem D368_13 {g : im_g} : im_D g 368 13 (.getfield 855) 16 := im_D.of (by decide +kernel)
theorem D368_16 {g : im_g} : im_D g 368 16 (.putfield 855) 19 := im_D.of (by decide +kernel)
theorem D368_19 {g : im_g} : im_D g 368 19 (.return_) 20 := im_D.of (by decide +kernel)
theorem D369_0 {g : im_g} : im_D g 369 0 (.aload_n 0) 1 := im_D.of (by decide +kernel)
theorem D369_1 {g : im_g} : im_D g 369 1 (.lload_n 1) 2 := im_D.of (by decide +kernel)
theorem D369_2 {g : im_g} : im_D g 369 2 (.lload_n 3) 3 := im_D.of (by decide +kernel)
theorem D369_3 {g : im_g} : im_D g 369 3 (.invokevirtual 968) 6 := im_D.of (by decide +kernel)
theorem D369_6 {g : im_g} : im_D g 369 6 (.istore 6) 8 := im_D.of (by decide +kernel)
theorem D369_8 {g : im_g} : im_D g 369 8 (.aload_n 0) 9 := im_D.of (by decide +kernel)
theorem D369_9 {g : im_g} : im_D g 369 9 (.getfield 941) 12 := im_D.of (by decide +kernel)
theorem D369_12 {g : im_g} : im_D g 369 12 (.ifCond .eq 4) 15 := im_D.of (by decide +kernel)
theorem D369_15 {g : im_g} : im_D g 369 15 (.return_) 16 := im_D.of (by decide +kernel)
theorem D369_16 {g : im_g} : im_D g 369 16 (.iload 6) 18 := im_D.of (by decide +kernel)
theorem D369_18 {g : im_g} : im_D g 369 18 (.iconst (-1)) 19 := im_D.of (by decide +kernel)
theorem D369_19 {g : im_g} : im_D g 369 19 (.if_icmp .eq 46) 22 := im_D.of (by decide +kernel)
theorem D369_22 {g : im_g} : im_D g 369 22 (.aload_n 0) 23 := im_D.of (by decide +kernel)
theorem D369_23 {g : im_g} : im_D g 369 23 (.aload_n 0) 24 := im_D.of (by decide +kernel)
theorem D369_24 {g : im_g} : im_D g 369 24 (.getfield 255) 27 := im_D.of (by decide +kernel)
theorem D369_27 {g : im_g} : im_D g 369 27 (.iload 6) 29 := im_D.of (by decide +kernel)
theorem D369_29 {g : im_g} : im_D g 369 29 (.iaload) 30 := im_D.of (by decide +kernel)
theorem D369_30 {g : im_g} : im_D g 369 30 (.iload 5) 32 := im_D.of (by decide +kernel)
theorem D369_32 {g : im_g} : im_D g 369 32 (.iconst 1) 33 := im_D.of (by decide +kernel)
theorem D369_33 {g : im_g} : im_D g 369 33 (.invokevirtual 962) 36 := im_D.of (by decide +kernel)
theorem D369_36 {g : im_g} : im_D g 369 36 (.istore 7) 38 := im_D.of (by decide +kernel)
theorem D369_38 {g : im_g} : im_D g 369 38 (.aload_n 0) 39 := im_D.of (by decide +kernel)
theorem D369_39 {g : im_g} : im_D g 369 39 (.getfield 255) 42 := im_D.of (by decide +kernel)
theorem D369_42 {g : im_g} : im_D g 369 42 (.iload 6) 44 := im_D.of (by decide +kernel)
theorem D369_44 {g : im_g} : im_D g 369 44 (.aload_n 0) 45 := im_D.of (by decide +kernel)
theorem D369_45 {g : im_g} : im_D g 369 45 (.getfield 855) 48 := im_D.of (by decide +kernel)
theorem D369_48 {g : im_g} : im_D g 369 48 (.ifCond .ne 8) 51 := im_D.of (by decide +kernel)
theorem D369_51 {g : im_g} : im_D g 369 51 (.iload 7) 53 := im_D.of (by decide +kernel)
theorem D369_53 {g : im_g} : im_D g 369 53 (.goto 10) 56 := im_D.of (by decide +kernel)
theorem D369_56 {g : im_g} : im_D g 369 56 (.aload_n 0) 57 := im_D.of (by decide +kernel)
theorem D369_57 {g : im_g} : im_D g 369 57 (.getfield 255) 60 := im_D.of (by decide +kernel)
theorem D369_60 {g : im_g} : im_D g 369 60 (.iload 6) 62 := im_D.of (by decide +kernel)
theorem D369_62 {g : im_g} : im_D g 369 62 (.iaload) 63 := im_D.of (by decide +kernel)
theorem D369_63 {g : im_g} : im_D g 369 63 (.iastore) 64 := im_D.of (by decide +kernel)
theorem D369_64 {g : im_g} : im_D g 369 64 (.return_) 65 := im_D.of (by decide +kernel)
theorem D369_65 {g : im_g} : im_D g 369 65 (.aload_n 0) 66 := im_D.of (by decide +kernel)
theorem D369_66 {g : im_g} : im_D g 369 66 (.getfield 965) 69 := im_D.of (by decide +kernel)
theorem D369_69 {g : im_g} : im_D g 369 69 (.bipush 60) 71 := im_D.of (by decide +kernel)
theorem D369_71 {g : im_g} : im_D g 369 71 (.if_icmp .ne 10) 74 := im_D.of (by decide +kernel)
theorem D369_74 {g : im_g} : im_D g 369 74 (.aload_n 0) 75 := im_D.of (by decide +kernel)
theorem D369_75 {g : im_g} : im_D g 369 75 (.bipush (-9)) 77 := im_D.of (by decide +kernel)
theorem D369_77 {g : im_g} : im_D g 369 77 (.invokevirtual 959) 80 := im_D.of (by decide +kernel)
theorem D369_80 {g : im_g} : im_D g 369 80 (.return_) 81 := im_D.of (by decide +kernel)
theorem D369_81 {g : im_g} : im_D g 369 81 (.aload_n 0) 82 := im_D.of (by decide +kernel)
theorem D369_82 {g : im_g} : im_D g 369 82 (.getfield 249) 85 := im_D.of (by decide +kernel)
theorem D369_85 {g : im_g} : im_D g 369 85 (.aload_n 0) 86 := im_D.of (by decide +kernel)
theorem D369_86 {g : im_g} : im_D g 369 86 (.getfield 965) 89 := im_D.of (by decide +kernel)
theorem D369_89 {g : im_g} : im_D g 369 89 (.lload_n 1) 90 := im_D.of (by decide +kernel)
theorem D369_90 {g : im_g} : im_D g 369 90 (.lastore) 91 := im_D.of (by decide +kernel)
theorem D369_91 {g : im_g} : im_D g 369 91 (.aload_n 0) 92 := im_D.of (by decide +kernel)
theorem D369_92 {g : im_g} : im_D g 369 92 (.getfield 252) 95 := im_D.of (by decide +kernel)
theorem D369_95 {g : im_g} : im_D g 369 95 (.aload_n 0) 96 := im_D.of (by decide +kernel)
theorem D369_96 {g : im_g} : im_D g 369 96 (.getfield 965) 99 := im_D.of (by decide +kernel)
theorem D369_99 {g : im_g} : im_D g 369 99 (.lload_n 3) 100 := im_D.of (by decide +kernel)
theorem D369_100 {g : im_g} : im_D g 369 100 (.lastore) 101 := im_D.of (by decide +kernel)
theorem D369_101 {g : im_g} : im_D g 369 101 (.aload_n 0) 102 := im_D.of (by decide +kernel)
theorem D369_102 {g : im_g} : im_D g 369 102 (.getfield 255) 105 := im_D.of (by decide +kernel)
theorem D369_105 {g : im_g} : im_D g 369 105 (.aload_n 0) 106 := im_D.of (by decide +kernel)
theorem D369_106 {g : im_g} : im_D g 369 106 (.getfield 965) 109 := im_D.of (by decide +kernel)
theorem D369_109 {g : im_g} : im_D g 369 109 (.iload 5) 111 := im_D.of (by decide +kernel)
theorem D369_111 {g : im_g} : im_D g 369 111 (.iastore) 112 := im_D.of (by decide +kernel)
theorem D369_112 {g : im_g} : im_D g 369 112 (.aload_n 0) 113 := im_D.of (by decide +kernel)
theorem D369_113 {g : im_g} : im_D g 369 113 (.dup) 114 := im_D.of (by decide +kernel)
theorem D369_114 {g : im_g} : im_D g 369 114 (.getfield 965) 117 := im_D.of (by decide +kernel)
theorem D369_117 {g : im_g} : im_D g 369 117 (.iconst 1) 118 := im_D.of (by decide +kernel)
theorem D369_118 {g : im_g} : im_D g 369 118 (.iadd) 119 := im_D.of (by decide +kernel)
theorem D369_119 {g : im_g} : im_D g 369 119 (.putfield 965) 122 := im_D.of (by decide +kernel)
theorem D369_122 {g : im_g} : im_D g 369 122 (.return_) 123 := im_D.of (by decide +kernel)
theorem D370_0 {g : im_g} : im_D g 370 0 (.iconst 0) 1 := im_D.of (by decide +kernel)
theorem D370_1 {g : im_g} : im_D g 370 1 (.istore 5) 3 := im_D.of (by decide +kernel)
theorem D370_3 {g : im_g} : im_D g 370 3 (.iload 5) 5 := im_D.of (by decide +kernel)
theorem D370_5 {g : im_g} : im_D g 370 5 (.aload_n 0) 6 := im_D.of (by decide +kernel)
theorem D370_6 {g : im_g} : im_D g 370 6 (.getfield 965) 9 := im_D.of (by decide +kernel)
theorem D370_9 {g : im_g} : im_D g 370 9 (.if_icmp .ge 36) 12 := im_D.of (by decide +kernel)
theorem D370_12 {g : im_g} : im_D g 370 12 (.aload_n 0) 13 := im_D.of (by decide +kernel)
theorem D370_13 {g : im_g} : im_D g 370 13 (.getfield 249) 16 := im_D.of (by decide +kernel)
theorem D370_16 {g : im_g} : im_D g 370 16 (.iload 5) 18 := im_D.of (by decide +kernel)
theorem D370_18 {g : im_g} : im_D g 370 18 (.laload) 19 := im_D.of (by decide +kernel)
theorem D370_19 {g : im_g} : im_D g 370 19 (.lload_n 1) 20 := im_D.of (by decide +kernel)
theorem D370_20 {g : im_g} : im_D g 370 20 (.lcmp) 21 := im_D.of (by decide +kernel)
theorem D370_21 {g : im_g} : im_D g 370 21 (.ifCond .ne 18) 24 := im_D.of (by decide +kernel)
theorem D370_24 {g : im_g} : im_D g 370 24 (.aload_n 0) 25 := im_D.of (by decide +kernel)
theorem D370_25 {g : im_g} : im_D g 370 25 (.getfield 252) 28 := im_D.of (by decide +kernel)
theorem D370_28 {g : im_g} : im_D g 370 28 (.iload 5) 30 := im_D.of (by decide +kernel)
theorem D370_30 {g : im_g} : im_D g 370 30 (.laload) 31 := im_D.of (by decide +kernel)
theorem D370_31 {g : im_g} : im_D g 370 31 (.lload_n 3) 32 := im_D.of (by decide +kernel)
theorem D370_32 {g : im_g} : im_D g 370 32 (.lcmp) 33 := im_D.of (by decide +kernel)
theorem D370_33 {g : im_g} : im_D g 370 33 (.ifCond .ne 6) 36 := im_D.of (by decide +kernel)
theorem D370_36 {g : im_g} : im_D g 370 36 (.iload 5) 38 := im_D.of (by decide +kernel)
theorem D370_38 {g : im_g} : im_D g 370 38 (.ireturn) 39 := im_D.of (by decide +kernel)
theorem D370_39 {g : im_g} : im_D g 370 39 (.iinc 5 1) 42 := im_D.of (by decide +kernel)
theorem D370_42 {g : im_g} : im_D g 370 42 (.goto (-39)) 45 := im_D.of (by decide +kernel)
theorem D370_45 {g : im_g} : im_D g 370 45 (.iconst (-1)) 46 := im_D.of (by decide +kernel)
theorem D370_46 {g : im_g} : im_D g 370 46 (.ireturn) 47 := im_D.of (by decide +kernel)
theorem D371_0 {g : im_g} : im_D g 371 0 (.aload_n 0) 1 := im_D.of (by decide +kernel)
theorem D371_1 {g : im_g} : im_D g 371 1 (.iconst 0) 2 := im_D.of (by decide +kernel)
theorem D371_2 {g : im_g} : im_D g 371 2 (.putfield 452) 5 := im_D.of (by decide +kernel)
theorem D371_5 {g : im_g} : im_D g 371 5 (.aload_n 0) 6 := im_D.of (by decide +kernel)
theorem D371_6 {g : im_g} : im_D g 371 6 (.iload_n 1) 7 := im_D.of (by decide +kernel)
theorem D371_7 {g : im_g} : im_D g 371 7 (.iload_n 2) 8 := im_D.of (by decide +kernel)
theorem D371_8 {g : im_g} : im_D g 371 8 (.iload_n 3) 9 := im_D.of (by decide +kernel)
theorem D371_9 {g : im_g} : im_D g 371 9 (.invokevirtual 914) 12 := im_D.of (by decide +kernel)
theorem D371_12 {g : im_g} : im_D g 371 12 (.istore 4) 14 := im_D.of (by decide +kernel)
theorem D371_14 {g : im_g} : im_D g 371 14 (.aload_n 0) 15 := im_D.of (by decide +kernel)
theorem D371_15 {g : im_g} : im_D g 371 15 (.getfield 452) 18 := im_D.of (by decide +kernel)
theorem D371_18 {g : im_g} : im_D g 371 18 (.ifCond .eq 9) 21 := im_D.of (by decide +kernel)
theorem D371_21 {g : im_g} : im_D g 371 21 (.aload_n 0) 22 := im_D.of (by decide +kernel)
theorem D371_22 {g : im_g} : im_D g 371 22 (.bipush (-8)) 24 := im_D.of (by decide +kernel)
theorem D371_24 {g : im_g} : im_D g 371 24 (.invokevirtual 959) 27 := im_D.of (by decide +kernel)
theorem D371_27 {g : im_g} : im_D g 371 27 (.iload 4) 29 := im_D.of (by decide +kernel)
theorem D371_29 {g : im_g} : im_D g 371 29 (.ireturn) 30 := im_D.of (by decide +kernel)
theorem D374_0 {g : im_g} : im_D g 374 0 (.aload_n 0) 1 := im_D.of (by decide +kernel)
theorem D374_1 {g : im_g} : im_D g 374 1 (.lload_n 1) 2 := im_D.of (by decide +kernel)
theorem D374_2 {g : im_g} : im_D g 374 2 (.lload_n 3) 3 := im_D.of (by decide +kernel)
theorem D374_3 {g : im_g} : im_D g 374 3 (.invokevirtual 876) 6 := im_D.of (by decide +kernel)
theorem D374_6 {g : im_g} : im_D g 374 6 (.istore 6) 8 := im_D.of (by decide +kernel)
theorem D374_8 {g : im_g} : im_D g 374 8 (.aload_n 0) 9 := im_D.of (by decide +kernel)
theorem D374_9 {g : im_g} : im_D g 374 9 (.lload_n 1) 10 := im_D.of (by decide +kernel)
theorem D374_10 {g : im_g} : im_D g 374 10 (.lload_n 3) 11 := im_D.of (by decide +kernel)
theorem D374_11 {g : im_g} : im_D g 374 11 (.invokevirtual 895) 14 := im_D.of (by decide +kernel)
theorem D374_14 {g : im_g} : im_D g 374 14 (.ifCond .eq 46) 17 := im_D.of (by decide +kernel)
theorem D374_17 {g : im_g} : im_D g 374 17 (.aload_n 0) 18 := im_D.of (by decide +kernel)
theorem D374_18 {g : im_g} : im_D g 374 18 (.aload_n 0) 19 := im_D.of (by decide +kernel)
theorem D374_19 {g : im_g} : im_D g 374 19 (.getfield 195) 22 := im_D.of (by decide +kernel)
theorem D374_22 {g : im_g} : im_D g 374 22 (.iload 6) 24 := im_D.of (by decide +kernel)
theorem D374_24 {g : im_g} : im_D g 374 24 (.iaload) 25 := im_D.of (by decide +kernel)
theorem D374_25 {g : im_g} : im_D g 374 25 (.iload 5) 27 := im_D.of (by decide +kernel)
theorem D374_27 {g : im_g} : im_D g 374 27 (.iconst 1) 28 := im_D.of (by decide +kernel)
theorem D374_28 {g : im_g} : im_D g 374 28 (.invokevirtual 962) 31 := im_D.of (by decide +kernel)
theorem D374_31 {g : im_g} : im_D g 374 31 (.istore 7) 33 := im_D.of (by decide +kernel)
theorem D374_33 {g : im_g} : im_D g 374 33 (.aload_n 0) 34 := im_D.of (by decide +kernel)
theorem D374_34 {g : im_g} : im_D g 374 34 (.getfield 195) 37 := im_D.of (by decide +kernel)
theorem D374_37 {g : im_g} : im_D g 374 37 (.iload 6) 39 := im_D.of (by decide +kernel)
theorem D374_39 {g : im_g} : im_D g 374 39 (.aload_n 0) 40 := im_D.of (by decide +kernel)
theorem D374_40 {g : im_g} : im_D g 374 40 (.getfield 855) 43 := im_D.of (by decide +kernel)
theorem D374_43 {g : im_g} : im_D g 374 43 (.ifCond .ne 8) 46 := im_D.of (by decide +kernel)
theorem D374_46 {g : im_g} : im_D g 374 46 (.iload 7) 48 := im_D.of (by decide +kernel)
theorem D374_48 {g : im_g} : im_D g 374 48 (.goto 10) 51 := im_D.of (by decide +kernel)
theorem D374_51 {g : im_g} : im_D g 374 51 (.aload_n 0) 52 := im_D.of (by decide +kernel)
theorem D374_52 {g : im_g} : im_D g 374 52 (.getfield 195) 55 := im_D.of (by decide +kernel)
theorem D374_55 {g : im_g} : im_D g 374 55 (.iload 6) 57 := im_D.of (by decide +kernel)
theorem D374_57 {g : im_g} : im_D g 374 57 (.iaload) 58 := im_D.of (by decide +kernel)
theorem D374_58 {g : im_g} : im_D g 374 58 (.iastore) 59 := im_D.of (by decide +kernel)
theorem D374_59 {g : im_g} : im_D g 374 59 (.return_) 60 := im_D.of (by decide +kernel)
theorem D374_60 {g : im_g} : im_D g 374 60 (.aload_n 0) 61 := im_D.of (by decide +kernel)
theorem D374_61 {g : im_g} : im_D g 374 61 (.getfield 864) 64 := im_D.of (by decide +kernel)
theorem D374_64 {g : im_g} : im_D g 374 64 (.bipush 40) 66 := im_D.of (by decide +kernel)
theorem D374_66 {g : im_g} : im_D g 374 66 (.if_icmp .ne 10) 69 := im_D.of (by decide +kernel)
theorem D374_69 {g : im_g} : im_D g 374 69 (.aload_n 0) 70 := im_D.of (by decide +kernel)
theorem D374_70 {g : im_g} : im_D g 374 70 (.bipush (-9)) 72 := im_D.of (by decide +kernel)
theorem D374_72 {g : im_g} : im_D g 374 72 (.invokevirtual 959) 75 := im_D.of (by decide +kernel)
theorem D374_75 {g : im_g} : im_D g 374 75 (.return_) 76 := im_D.of (by decide +kernel)
theorem D374_76 {g : im_g} : im_D g 374 76 (.aload_n 0) 77 := im_D.of (by decide +kernel)
theorem D374_77 {g : im_g} : im_D g 374 77 (.getfield 864) 80 := im_D.of (by decide +kernel)
theorem D374_80 {g : im_g} : im_D g 374 80 (.istore 7) 82 := im_D.of (by decide +kernel)
theorem D374_82 {g : im_g} : im_D g 374 82 (.iload 7) 84 := im_D.of (by decide +kernel)
theorem D374_84 {g : im_g} : im_D g 374 84 (.iload 6) 86 := im_D.of (by decide +kernel)
theorem D374_86 {g : im_g} : im_D g 374 86 (.if_icmp .le 57) 89 := im_D.of (by decide +kernel)
theorem D374_89 {g : im_g} : im_D g 374 89 (.aload_n 0) 90 := im_D.of (by decide +kernel)
theorem D374_90 {g : im_g} : im_D g 374 90 (.getfield 189) 93 := im_D.of (by decide +kernel)
theorem D374_93 {g : im_g} : im_D g 374 93 (.iload 7) 95 := im_D.of (by decide +kernel)
theorem D374_95 {g : im_g} : im_D g 374 95 (.aload_n 0) 96 := im_D.of (by decide +kernel)
theorem D374_96 {g : im_g} : im_D g 374 96 (.getfield 189) 99 := im_D.of (by decide +kernel)
theorem D374_99 {g : im_g} : im_D g 374 99 (.iload 7) 101 := im_D.of (by decide +kernel)
theorem D374_101 {g : im_g} : im_D g 374 101 (.iconst 1) 102 := im_D.of (by decide +kernel)
theorem D374_102 {g : im_g} : im_D g 374 102 (.isub) 103 := im_D.of (by decide +kernel)
theorem D374_103 {g : im_g} : im_D g 374 103 (.laload) 104 := im_D.of (by decide +kernel)
theorem D374_104 {g : im_g} : im_D g 374 104 (.lastore) 105 := im_D.of (by decide +kernel)
theorem D374_105 {g : im_g} : im_D g 374 105 (.aload_n 0) 106 := im_D.of (by decide +kernel)
theorem D374_106 {g : im_g} : im_D g 374 106 (.getfield 192) 109 := im_D.of (by decide +kernel)
theorem D374_109 {g : im_g} : im_D g 374 109 (.iload 7) 111 := im_D.of (by decide +kernel)
theorem D374_111 {g : im_g} : im_D g 374 111 (.aload_n 0) 112 := im_D.of (by decide +kernel)
theorem D374_112 {g : im_g} : im_D g 374 112 (.getfield 192) 115 := im_D.of (by decide +kernel)
theorem D374_115 {g : im_g} : im_D g 374 115 (.iload 7) 117 := im_D.of (by decide +kernel)
theorem D374_117 {g : im_g} : im_D g 374 117 (.iconst 1) 118 := im_D.of (by decide +kernel)
theorem D374_118 {g : im_g} : im_D g 374 118 (.isub) 119 := im_D.of (by decide +kernel)
theorem D374_119 {g : im_g} : im_D g 374 119 (.laload) 120 := im_D.of (by decide +kernel)
theorem D374_120 {g : im_g} : im_D g 374 120 (.lastore) 121 := im_D.of (by decide +kernel)
theorem D374_121 {g : im_g} : im_D g 374 121 (.aload_n 0) 122 := im_D.of (by decide +kernel)
theorem D374_122 {g : im_g} : im_D g 374 122 (.getfield 195) 125 := im_D.of (by decide +kernel)
theorem D374_125 {g : im_g} : im_D g 374 125 (.iload 7) 127 := im_D.of (by decide +kernel)
theorem D374_127 {g : im_g} : im_D g 374 127 (.aload_n 0) 128 := im_D.of (by decide +kernel)
theorem D374_128 {g : im_g} : im_D g 374 128 (.getfield 195) 131 := im_D.of (by decide +kernel)
theorem D374_131 {g : im_g} : im_D g 374 131 (.iload 7) 133 := im_D.of (by decide +kernel)
theorem D374_133 {g : im_g} : im_D g 374 133 (.iconst 1) 134 := im_D.of (by decide +kernel)
theorem D374_134 {g : im_g} : im_D g 374 134 (.isub) 135 := im_D.of (by decide +kernel)
theorem D374_135 {g : im_g} : im_D g 374 135 (.iaload) 136 := im_D.of (by decide +kernel)
theorem D374_136 {g : im_g} : im_D g 374 136 (.iastore) 137 := im_D.of (by decide +kernel)
theorem D374_137 {g : im_g} : im_D g 374 137 (.iinc 7 (-1)) 140 := im_D.of (by decide +kernel)
theorem D374_140 {g : im_g} : im_D g 374 140 (.goto (-58)) 143 := im_D.of (by decide +kernel)
theorem D374_143 {g : im_g} : im_D g 374 143 (.aload_n 0) 144 := im_D.of (by decide +kernel)
theorem D374_144 {g : im_g} : im_D g 374 144 (.dup) 145 := im_D.of (by decide +kernel)
theorem D374_145 {g : im_g} : im_D g 374 145 (.getfield 864) 148 := im_D.of (by decide +kernel)
theorem D374_148 {g : im_g} : im_D g 374 148 (.iconst 1) 149 := im_D.of (by decide +kernel)
theorem D374_149 {g : im_g} : im_D g 374 149 (.iadd) 150 := im_D.of (by decide +kernel)
theorem D374_150 {g : im_g} : im_D g 374 150 (.putfield 864) 153 := im_D.of (by decide +kernel)
theorem D374_153 {g : im_g} : im_D g 374 153 (.aload_n 0) 154 := im_D.of (by decide +kernel)
theorem D374_154 {g : im_g} : im_D g 374 154 (.getfield 189) 157 := im_D.of (by decide +kernel)
theorem D374_157 {g : im_g} : im_D g 374 157 (.iload 6) 159 := im_D.of (by decide +kernel)
theorem D374_159 {g : im_g} : im_D g 374 159 (.lload_n 1) 160 := im_D.of (by decide +kernel)
theorem D374_160 {g : im_g} : im_D g 374 160 (.lastore) 161 := im_D.of (by decide +kernel)
theorem D374_161 {g : im_g} : im_D g 374 161 (.aload_n 0) 162 := im_D.of (by decide +kernel)
theorem D374_162 {g : im_g} : im_D g 374 162 (.getfield 192) 165 := im_D.of (by decide +kernel)
theorem D374_165 {g : im_g} : im_D g 374 165 (.iload 6) 167 := im_D.of (by decide +kernel)
theorem D374_167 {g : im_g} : im_D g 374 167 (.lload_n 3) 168 := im_D.of (by decide +kernel)
theorem D374_168 {g : im_g} : im_D g 374 168 (.lastore) 169 := im_D.of (by decide +kernel)
theorem D374_169 {g : im_g} : im_D g 374 169 (.aload_n 0) 170 := im_D.of (by decide +kernel)
theorem D374_170 {g : im_g} : im_D g 374 170 (.getfield 195) 173 := im_D.of (by decide +kernel)
theorem D374_173 {g : im_g} : im_D g 374 173 (.iload 6) 175 := im_D.of (by decide +kernel)
theorem D374_175 {g : im_g} : im_D g 374 175 (.iload 5) 177 := im_D.of (by decide +kernel)
theorem D374_177 {g : im_g} : im_D g 374 177 (.iastore) 178 := im_D.of (by decide +kernel)
theorem D374_178 {g : im_g} : im_D g 374 178 (.return_) 179 := im_D.of (by decide +kernel)
theorem D375_0 {g : im_g} : im_D g 375 0 (.iconst 0) 1 := im_D.of (by decide +kernel)
theorem D375_1 {g : im_g} : im_D g 375 1 (.istore 5) 3 := im_D.of (by decide +kernel)
theorem D375_3 {g : im_g} : im_D g 375 3 (.iload 5) 5 := im_D.of (by decide +kernel)
theorem D375_5 {g : im_g} : im_D g 375 5 (.aload_n 0) 6 := im_D.of (by decide +kernel)
theorem D375_6 {g : im_g} : im_D g 375 6 (.getfield 864) 9 := im_D.of (by decide +kernel)
theorem D375_9 {g : im_g} : im_D g 375 9 (.if_icmp .ge 45) 12 := im_D.of (by decide +kernel)
theorem D375_12 {g : im_g} : im_D g 375 12 (.aload_n 0) 13 := im_D.of (by decide +kernel)
theorem D375_13 {g : im_g} : im_D g 375 13 (.getfield 189) 16 := im_D.of (by decide +kernel)
theorem D375_16 {g : im_g} : im_D g 375 16 (.iload 5) 18 := im_D.of (by decide +kernel)
theorem D375_18 {g : im_g} : im_D g 375 18 (.laload) 19 := im_D.of (by decide +kernel)
theorem D375_19 {g : im_g} : im_D g 375 19 (.lload_n 1) 20 := im_D.of (by decide +kernel)
theorem D375_20 {g : im_g} : im_D g 375 20 (.lcmp) 21 := im_D.of (by decide +kernel)
theorem D375_21 {g : im_g} : im_D g 375 21 (.ifCond .lt 27) 24 := im_D.of (by decide +kernel)
theorem D375_24 {g : im_g} : im_D g 375 24 (.aload_n 0) 25 := im_D.of (by decide +kernel)
theorem D375_25 {g : im_g} : im_D g 375 25 (.getfield 189) 28 := im_D.of (by decide +kernel)
theorem D375_28 {g : im_g} : im_D g 375 28 (.iload 5) 30 := im_D.of (by decide +kernel)
theorem D375_30 {g : im_g} : im_D g 375 30 (.laload) 31 := im_D.of (by decide +kernel)
theorem D375_31 {g : im_g} : im_D g 375 31 (.lload_n 1) 32 := im_D.of (by decide +kernel)
theorem D375_32 {g : im_g} : im_D g 375 32 (.lcmp) 33 := im_D.of (by decide +kernel)
theorem D375_33 {g : im_g} : im_D g 375 33 (.ifCond .ne 21) 36 := im_D.of (by decide +kernel)
theorem D375_36 {g : im_g} : im_D g 375 36 (.aload_n 0) 37 := im_D.of (by decide +kernel)
theorem D375_37 {g : im_g} : im_D g 375 37 (.getfield 192) 40 := im_D.of (by decide +kernel)
theorem D375_40 {g : im_g} : im_D g 375 40 (.iload 5) 42 := im_D.of (by decide +kernel)
theorem D375_42 {g : im_g} : im_D g 375 42 (.laload) 43 := im_D.of (by decide +kernel)
theorem D375_43 {g : im_g} : im_D g 375 43 (.lload_n 3) 44 := im_D.of (by decide +kernel)
theorem D375_44 {g : im_g} : im_D g 375 44 (.lcmp) 45 := im_D.of (by decide +kernel)
theorem D375_45 {g : im_g} : im_D g 375 45 (.ifCond .ge 9) 48 := im_D.of (by decide +kernel)
theorem D375_48 {g : im_g} : im_D g 375 48 (.iinc 5 1) 51 := im_D.of (by decide +kernel)
theorem D375_51 {g : im_g} : im_D g 375 51 (.goto (-48)) 54 := im_D.of (by decide +kernel)
theorem D375_54 {g : im_g} : im_D g 375 54 (.iload 5) 56 := im_D.of (by decide +kernel)
theorem D375_56 {g : im_g} : im_D g 375 56 (.ireturn) 57 := im_D.of (by decide +kernel)
theorem D376_0 {g : im_g} : im_D g 376 0 (.aload_n 0) 1 := im_D.of (by decide +kernel)
theorem D376_1 {g : im_g} : im_D g 376 1 (.lload_n 1) 2 := im_D.of (by decide +kernel)
theorem D376_2 {g : im_g} : im_D g 376 2 (.lload_n 3) 3 := im_D.of (by decide +kernel)
theorem D376_3 {g : im_g} : im_D g 376 3 (.invokevirtual 876) 6 := im_D.of (by decide +kernel)
theorem D376_6 {g : im_g} : im_D g 376 6 (.istore 5) 8 := im_D.of (by decide +kernel)
theorem D376_8 {g : im_g} : im_D g 376 8 (.iload 5) 10 := im_D.of (by decide +kernel)
theorem D376_10 {g : im_g} : im_D g 376 10 (.aload_n 0) 11 := im_D.of (by decide +kernel)
theorem D376_11 {g : im_g} : im_D g 376 11 (.getfield 864) 14 := im_D.of (by decide +kernel)
theorem D376_14 {g : im_g} : im_D g 376 14 (.if_icmp .ge 31) 17 := im_D.of (by decide +kernel)
theorem D376_17 {g : im_g} : im_D g 376 17 (.aload_n 0) 18 := im_D.of (by decide +kernel)
theorem D376_18 {g : im_g} : im_D g 376 18 (.getfield 189) 21 := im_D.of (by decide +kernel)
theorem D376_21 {g : im_g} : im_D g 376 21 (.iload 5) 23 := im_D.of (by decide +kernel)
theorem D376_23 {g : im_g} : im_D g 376 23 (.laload) 24 := im_D.of (by decide +kernel)
theorem D376_24 {g : im_g} : im_D g 376 24 (.lload_n 1) 25 := im_D.of (by decide +kernel)
theorem D376_25 {g : im_g} : im_D g 376 25 (.lcmp) 26 := im_D.of (by decide +kernel)
theorem D376_26 {g : im_g} : im_D g 376 26 (.ifCond .ne 19) 29 := im_D.of (by decide +kernel)
theorem D376_29 {g : im_g} : im_D g 376 29 (.aload_n 0) 30 := im_D.of (by decide +kernel)
theorem D376_30 {g : im_g} : im_D g 376 30 (.getfield 192) 33 := im_D.of (by decide +kernel)
theorem D376_33 {g : im_g} : im_D g 376 33 (.iload 5) 35 := im_D.of (by decide +kernel)
theorem D376_35 {g : im_g} : im_D g 376 35 (.laload) 36 := im_D.of (by decide +kernel)
theorem D376_36 {g : im_g} : im_D g 376 36 (.lload_n 3) 37 := im_D.of (by decide +kernel)
theorem D376_37 {g : im_g} : im_D g 376 37 (.lcmp) 38 := im_D.of (by decide +kernel)
theorem D376_38 {g : im_g} : im_D g 376 38 (.ifCond .ne 7) 41 := im_D.of (by decide +kernel)
theorem D376_41 {g : im_g} : im_D g 376 41 (.iconst 1) 42 := im_D.of (by decide +kernel)
theorem D376_42 {g : im_g} : im_D g 376 42 (.goto 4) 45 := im_D.of (by decide +kernel)
theorem D376_45 {g : im_g} : im_D g 376 45 (.iconst 0) 46 := im_D.of (by decide +kernel)
theorem D376_46 {g : im_g} : im_D g 376 46 (.ireturn) 47 := im_D.of (by decide +kernel)
set_option maxRecDepth 20000 in
set_option maxHeartbeats 4000000 in
theorem b_takeState_0 {g : im_g} {d : Nat} {e : im_E} {M : im_M} {K : im_K} {p1 : Int} (hP : (0 ≤ p1 ∧ p1 < 16) ∧ im_T g d 361 32 [some (.ref 6952), some (vI p1), some (vI 0)] [] e (im_u (im_u (im_u M 6952 83 (M 6995 p1)) 6952 84 (M 6996 p1)) 6952 85 (M 6997 p1)) K) : im_T g d 361 0 [some (.ref 6952), some (vI p1), none] [] e M K := by
  refine im_ld (q := 1) (i := 0) D361_0 rfl rfl rfl ?_
  refine im_ld (q := 2) (i := 0) D361_1 rfl rfl rfl ?_
  refine im_gfR (q := 5) (b := 6995) D361_2 (im_fl cn_361 fl_12_139) sf_6952 rfl rfl tR_12_67 rf_6952_67 ?_
  refine im_ld (q := 6) (i := 1) D361_5 rfl rfl rfl ?_
  obtain ⟨hg1, hP⟩ := hP
  refine im_rng (j := p1) sf_6995 hg1.1 hg1.2 (fun hr2 => ?_)
  refine im_iald (q := 7) D361_6 sf_6995 hg1.1 hg1.2 (by decide) rfl ?_
  refine im_pfI (q := 10) D361_7 (im_fl cn_361 fl_12_858) sf_6952 rfl rfl ti_12_83 hr2 ?_
  refine im_ld (q := 11) (i := 0) D361_10 rfl rfl rfl ?_
  refine im_ld (q := 12) (i := 0) D361_11 rfl rfl rfl ?_
  refine im_gfR (q := 15) (b := 6996) D361_12 (im_fl cn_361 fl_12_142) sf_6952 rfl rfl tR_12_68 rf_6952_68 ?_
  refine im_ld (q := 16) (i := 1) D361_15 rfl rfl rfl ?_
  refine im_rng (j := p1) sf_6996 hg1.1 hg1.2 (fun hr3 => ?_)
  refine im_lald (q := 17) D361_16 sf_6996 hg1.1 hg1.2 (by decide) (im_rdn _ _ _ _ (by decide)) ?_
  refine im_pfL (q := 20) D361_17 (im_fl cn_361 fl_12_861) sf_6952 rfl rfl tl_12_84 (im_rgc hr3 (im_rdn _ _ _ _ (by decide))) ?_
  refine im_ld (q := 21) (i := 0) D361_20 rfl rfl rfl ?_
  refine im_ld (q := 22) (i := 0) D361_21 rfl rfl rfl ?_
  refine im_gfR (q := 25) (b := 6997) D361_22 (im_fl cn_361 fl_12_145) sf_6952 rfl rfl tR_12_69 rf_6952_69 ?_
  refine im_ld (q := 26) (i := 1) D361_25 rfl rfl rfl ?_
  refine im_rng (j := p1) sf_6997 hg1.1 hg1.2 (fun hr4 => ?_)
  refine im_iald (q := 27) D361_26 sf_6997 hg1.1 hg1.2 (by decide) ((im_rdn _ _ _ _ (by decide)).trans (im_rdn _ _ _ _ (by decide))) ?_
  refine im_pfI (q := 30) D361_27 (im_fl cn_361 fl_12_864) sf_6952 rfl rfl ti_12_85 (im_rgc hr4 ((im_rdn _ _ _ _ (by decide)).trans (im_rdn _ _ _ _ (by decide)))) ?_
  refine im_iconst (q := 31) D361_30 ?_
  refine im_st1 (q := 32) (i := 2) (L' := [some (.ref 6952), some (vI p1), some (vI 0)]) D361_31 (Or.inl ⟨_, rfl, rfl⟩) (Nat.le_of_ble_eq_true rfl) rfl ?_
  exact hP.wk ⟨rfl, rfl, rfl, trivial⟩
set_option maxRecDepth 20000 in
set_option maxHeartbeats 4000000 in
theorem b_takeState_32 {g : im_g} {d : Nat} {e : im_E} {M : im_M} {K : im_K} {p1 p2 : Int} (hd : 1 ≤ d) (hP : (0 ≤ p1 ∧ p1 < 16) ∧ (im_i32 p2) ∧ (((M 6997 p1) ≤ p2 → im_T g d 361 114 [some (.ref 6952), some (vI p1), some (vI 0)] [] e (im_u M 6952 89 (M 7001 p1)) K) ∧ (p2 < (M 6997 p1) → (0 ≤ ((40 * p1) + p2) ∧ ((40 * p1) + p2) < 640) ∧ (0 ≤ p2 ∧ p2 < 41) ∧ im_T g (d - 1) 345 0 [some (.ref 6952), some (.ref 7000), some (vI ((40 * p1) + p2)), none, none, none] [] e (im_u (im_u M 7011 p2 (M 6998 ((40 * p1) + p2))) 7012 p2 (M 6999 ((40 * p1) + p2))) (im_ri (fun x11 e_ M10 => e = e_ ∧ (im_i32 x11) ∧ im_T g d 361 32 [some (.ref 6952), some (vI p1), some (vI (p2 + 1))] [] e (im_u M10 7013 p2 x11) K))))) : im_T g d 361 32 [some (.ref 6952), some (vI p1), some (vI p2)] [] e M K := by
  refine im_ld (q := 33) (i := 2) D361_32 rfl rfl rfl ?_
  refine im_ld (q := 34) (i := 0) D361_33 rfl rfl rfl ?_
  refine im_gfR (q := 37) (b := 6997) D361_34 (im_fl cn_361 fl_12_145) sf_6952 rfl rfl tR_12_69 rf_6952_69 ?_
  refine im_ld (q := 38) (i := 1) D361_37 rfl rfl rfl ?_
  obtain ⟨hg1, hP⟩ := hP
  refine im_rng (j := p1) sf_6997 hg1.1 hg1.2 (fun hr2 => ?_)
  refine im_iald (q := 39) D361_38 sf_6997 hg1.1 hg1.2 (by decide) rfl ?_
  obtain ⟨hg3, hP⟩ := hP
  refine im_icmp (q := 42) (t := 102) D361_39 rfl hg3 hr2 (fun hc4 => ?_) (fun hc4 => ?_)
  · replace hP := hP.1 hc4
    refine im_ld (q := 103) (i := 0) D361_102 rfl rfl rfl ?_
    refine im_ld (q := 104) (i := 0) D361_103 rfl rfl rfl ?_
    refine im_gfR (q := 107) (b := 7001) D361_104 (im_fl cn_361 fl_12_158) sf_6952 rfl rfl tR_12_73 rf_6952_73 ?_
    refine im_ld (q := 108) (i := 1) D361_107 rfl rfl rfl ?_
    refine im_rng (j := p1) sf_7001 hg1.1 hg1.2 (fun hr5 => ?_)
    refine im_iald (q := 109) D361_108 sf_7001 hg1.1 hg1.2 (by decide) rfl ?_
    refine im_pfI (q := 112) D361_109 (im_fl cn_361 fl_12_867) sf_6952 rfl rfl ti_12_89 hr5 ?_
    refine im_iconst (q := 113) D361_112 ?_
    refine im_st1 (q := 114) (i := 2) (L' := [some (.ref 6952), some (vI p1), some (vI 0)]) D361_113 (Or.inl ⟨_, rfl, rfl⟩) (Nat.le_of_ble_eq_true rfl) rfl ?_
    exact hP.wk ⟨rfl, rfl, rfl, trivial⟩
  · replace hP := hP.2 (Int.not_le.mp hc4)
    refine im_ld (q := 43) (i := 0) D361_42 rfl rfl rfl ?_
    refine im_gfR (q := 46) (b := 7011) D361_43 (im_fl cn_361 fl_12_189) sf_6952 rfl rfl tR_12_86 rf_6952_86 ?_
    refine im_ld (q := 47) (i := 2) D361_46 rfl rfl rfl ?_
    refine im_ld (q := 48) (i := 0) D361_47 rfl rfl rfl ?_
    refine im_gfR (q := 51) (b := 6998) D361_48 (im_fl cn_361 fl_12_148) sf_6952 rfl rfl tR_12_70 rf_6952_70 ?_
    refine im_bipush (q := 53) D361_51 rfl ?_
    refine im_ld (q := 54) (i := 1) D361_53 rfl rfl rfl ?_
    refine im_imul (q := 55) D361_54 ?_
    refine im_ld (q := 56) (i := 2) D361_55 rfl rfl rfl ?_
    refine im_iadd (q := 57) D361_56 ?_
    obtain ⟨hg6, hP⟩ := hP
    refine im_rng (j := ((40 * p1) + p2)) sf_6998 hg6.1 hg6.2 (fun hr7 => ?_)
    refine im_lald (q := 58) D361_57 sf_6998 hg6.1 hg6.2 (by decide) rfl ?_
    obtain ⟨hg8, hP⟩ := hP
    refine im_last (q := 59) D361_58 sf_7011 hg8.1 hg8.2 (by decide) hr7 ?_
    refine im_ld (q := 60) (i := 0) D361_59 rfl rfl rfl ?_
    refine im_gfR (q := 63) (b := 7012) D361_60 (im_fl cn_361 fl_12_192) sf_6952 rfl rfl tR_12_87 rf_6952_87 ?_
    refine im_ld (q := 64) (i := 2) D361_63 rfl rfl rfl ?_
    refine im_ld (q := 65) (i := 0) D361_64 rfl rfl rfl ?_
    refine im_gfR (q := 68) (b := 6999) D361_65 (im_fl cn_361 fl_12_151) sf_6952 rfl rfl tR_12_71 rf_6952_71 ?_
    refine im_bipush (q := 70) D361_68 rfl ?_
    refine im_ld (q := 71) (i := 1) D361_70 rfl rfl rfl ?_
    refine im_imul (q := 72) D361_71 ?_
    refine im_ld (q := 73) (i := 2) D361_72 rfl rfl rfl ?_
    refine im_iadd (q := 74) D361_73 ?_
    refine im_rng (j := ((40 * p1) + p2)) sf_6999 hg6.1 hg6.2 (fun hr9 => ?_)
    refine im_lald (q := 75) D361_74 sf_6999 hg6.1 hg6.2 (by decide) (im_rdn _ _ _ _ (by decide)) ?_
    refine im_last (q := 76) D361_75 sf_7012 hg8.1 hg8.2 (by decide) (im_rgc hr9 (im_rdn _ _ _ _ (by decide))) ?_
    refine im_ld (q := 77) (i := 0) D361_76 rfl rfl rfl ?_
    refine im_gfR (q := 80) (b := 7013) D361_77 (im_fl cn_361 fl_12_195) sf_6952 rfl rfl tR_12_88 rf_6952_88 ?_
    refine im_ld (q := 81) (i := 2) D361_80 rfl rfl rfl ?_
    refine im_ld (q := 82) (i := 0) D361_81 rfl rfl rfl ?_
    refine im_ld (q := 83) (i := 0) D361_82 rfl rfl rfl ?_
    refine im_gfR (q := 86) (b := 7000) D361_83 (im_fl cn_361 fl_12_155) sf_6952 rfl rfl tR_12_72 rf_6952_72 ?_
    refine im_bipush (q := 88) D361_86 rfl ?_
    refine im_ld (q := 89) (i := 1) D361_88 rfl rfl rfl ?_
    refine im_imul (q := 90) D361_89 ?_
    refine im_ld (q := 91) (i := 2) D361_90 rfl rfl rfl ?_
    refine im_iadd (q := 92) D361_91 ?_
    refine im_callV (q := 95) (kd := 1) (y := 345) (n := 2) (ci := 12) (a := 6952) (vs := [.ref 6952, .ref 7000, vI ((40 * p1) + p2)]) (r := [vI p2, .ref 7013]) (L2 := [some (.ref 6952), some (.ref 7000), some (vI ((40 * p1) + p2)), none, none, none]) D361_92 (im_cal cn_361 cl_12_825) (Or.inl rfl) rfl sf_6952 rfl rfl rfl rfl hd ⟨rfl, rfl, rfl, trivial⟩ ?_
    refine hP.mono ?_
    rintro _ e13 M10 ⟨x11, rfl, rfl, hP⟩
    refine im_bkS ?_
    obtain ⟨hg12, hP⟩ := hP
    refine im_iast (q := 96) D361_95 sf_7013 hg8.1 hg8.2 (by decide) hg12 ?_
    refine im_iinc (q := 99) (i := 2) (L' := [some (.ref 6952), some (vI p1), some (vI (p2 + 1))]) D361_96 rfl (Nat.le_of_ble_eq_true rfl) rfl ?_
    refine im_goto (q := 102) (t := 32) D361_99 rfl ?_
    exact hP.wk ⟨rfl, rfl, rfl, trivial⟩
set_option maxRecDepth 20000 in
set_option maxHeartbeats 4000000 in
theorem b_takeState_114 {g : im_g} {d : Nat} {e : im_E} {M : im_M} {K : im_K} {p1 p2 : Int} (hd : 1 ≤ d) (hP : (0 ≤ p1 ∧ p1 < 16) ∧ (im_i32 p2) ∧ (((M 7001 p1) ≤ p2 → im_T g d 361 196 [some (.ref 6952), some (vI p1), some (vI 0)] [] e (im_u M 6952 93 (M 7005 p1)) K) ∧ (p2 < (M 7001 p1) → (0 ≤ ((40 * p1) + p2) ∧ ((40 * p1) + p2) < 640) ∧ (0 ≤ p2 ∧ p2 < 41) ∧ im_T g (d - 1) 345 0 [some (.ref 6952), some (.ref 7004), some (vI ((40 * p1) + p2)), none, none, none] [] e (im_u (im_u M 7014 p2 (M 7002 ((40 * p1) + p2))) 7015 p2 (M 7003 ((40 * p1) + p2))) (im_ri (fun x11 e_ M10 => e = e_ ∧ (im_i32 x11) ∧ im_T g d 361 114 [some (.ref 6952), some (vI p1), some (vI (p2 + 1))] [] e (im_u M10 7016 p2 x11) K))))) : im_T g d 361 114 [some (.ref 6952), some (vI p1), some (vI p2)] [] e M K := by
  refine im_ld (q := 115) (i := 2) D361_114 rfl rfl rfl ?_
  refine im_ld (q := 116) (i := 0) D361_115 rfl rfl rfl ?_
  refine im_gfR (q := 119) (b := 7001) D361_116 (im_fl cn_361 fl_12_158) sf_6952 rfl rfl tR_12_73 rf_6952_73 ?_
  refine im_ld (q := 120) (i := 1) D361_119 rfl rfl rfl ?_
  obtain ⟨hg1, hP⟩ := hP
  refine im_rng (j := p1) sf_7001 hg1.1 hg1.2 (fun hr2 => ?_)
  refine im_iald (q := 121) D361_120 sf_7001 hg1.1 hg1.2 (by decide) rfl ?_
  obtain ⟨hg3, hP⟩ := hP
  refine im_icmp (q := 124) (t := 184) D361_121 rfl hg3 hr2 (fun hc4 => ?_) (fun hc4 => ?_)
  · replace hP := hP.1 hc4
    refine im_ld (q := 185) (i := 0) D361_184 rfl rfl rfl ?_
    refine im_ld (q := 186) (i := 0) D361_185 rfl rfl rfl ?_
    refine im_gfR (q := 189) (b := 7005) D361_186 (im_fl cn_361 fl_12_170) sf_6952 rfl rfl tR_12_77 rf_6952_77 ?_
    refine im_ld (q := 190) (i := 1) D361_189 rfl rfl rfl ?_
    refine im_rng (j := p1) sf_7005 hg1.1 hg1.2 (fun hr5 => ?_)
    refine im_iald (q := 191) D361_190 sf_7005 hg1.1 hg1.2 (by decide) rfl ?_
    refine im_pfI (q := 194) D361_191 (im_fl cn_361 fl_12_870) sf_6952 rfl rfl ti_12_93 hr5 ?_
    refine im_iconst (q := 195) D361_194 ?_
    refine im_st1 (q := 196) (i := 2) (L' := [some (.ref 6952), some (vI p1), some (vI 0)]) D361_195 (Or.inl ⟨_, rfl, rfl⟩) (Nat.le_of_ble_eq_true rfl) rfl ?_
    exact hP.wk ⟨rfl, rfl, rfl, trivial⟩
  · replace hP := hP.2 (Int.not_le.mp hc4)
    refine im_ld (q := 125) (i := 0) D361_124 rfl rfl rfl ?_
    refine im_gfR (q := 128) (b := 7014) D361_125 (im_fl cn_361 fl_12_198) sf_6952 rfl rfl tR_12_90 rf_6952_90 ?_
    refine im_ld (q := 129) (i := 2) D361_128 rfl rfl rfl ?_
    refine im_ld (q := 130) (i := 0) D361_129 rfl rfl rfl ?_
    refine im_gfR (q := 133) (b := 7002) D361_130 (im_fl cn_361 fl_12_161) sf_6952 rfl rfl tR_12_74 rf_6952_74 ?_
    refine im_bipush (q := 135) D361_133 rfl ?_
    refine im_ld (q := 136) (i := 1) D361_135 rfl rfl rfl ?_
    refine im_imul (q := 137) D361_136 ?_
    refine im_ld (q := 138) (i := 2) D361_137 rfl rfl rfl ?_
    refine im_iadd (q := 139) D361_138 ?_
    obtain ⟨hg6, hP⟩ := hP
    refine im_rng (j := ((40 * p1) + p2)) sf_7002 hg6.1 hg6.2 (fun hr7 => ?_)
    refine im_lald (q := 140) D361_139 sf_7002 hg6.1 hg6.2 (by decide) rfl ?_
    obtain ⟨hg8, hP⟩ := hP
    refine im_last (q := 141) D361_140 sf_7014 hg8.1 hg8.2 (by decide) hr7 ?_
    refine im_ld (q := 142) (i := 0) D361_141 rfl rfl rfl ?_
    refine im_gfR (q := 145) (b := 7015) D361_142 (im_fl cn_361 fl_12_201) sf_6952 rfl rfl tR_12_91 rf_6952_91 ?_
    refine im_ld (q := 146) (i := 2) D361_145 rfl rfl rfl ?_
    refine im_ld (q := 147) (i := 0) D361_146 rfl rfl rfl ?_
    refine im_gfR (q := 150) (b := 7003) D361_147 (im_fl cn_361 fl_12_164) sf_6952 rfl rfl tR_12_75 rf_6952_75 ?_
    refine im_bipush (q := 152) D361_150 rfl ?_
    refine im_ld (q := 153) (i := 1) D361_152 rfl rfl rfl ?_
    refine im_imul (q := 154) D361_153 ?_
    refine im_ld (q := 155) (i := 2) D361_154 rfl rfl rfl ?_
    refine im_iadd (q := 156) D361_155 ?_
    refine im_rng (j := ((40 * p1) + p2)) sf_7003 hg6.1 hg6.2 (fun hr9 => ?_)
    refine im_lald (q := 157) D361_156 sf_7003 hg6.1 hg6.2 (by decide) (im_rdn _ _ _ _ (by decide)) ?_
    refine im_last (q := 158) D361_157 sf_7015 hg8.1 hg8.2 (by decide) (im_rgc hr9 (im_rdn _ _ _ _ (by decide))) ?_
    refine im_ld (q := 159) (i := 0) D361_158 rfl rfl rfl ?_
    refine im_gfR (q := 162) (b := 7016) D361_159 (im_fl cn_361 fl_12_204) sf_6952 rfl rfl tR_12_92 rf_6952_92 ?_
    refine im_ld (q := 163) (i := 2) D361_162 rfl rfl rfl ?_
    refine im_ld (q := 164) (i := 0) D361_163 rfl rfl rfl ?_
    refine im_ld (q := 165) (i := 0) D361_164 rfl rfl rfl ?_
    refine im_gfR (q := 168) (b := 7004) D361_165 (im_fl cn_361 fl_12_167) sf_6952 rfl rfl tR_12_76 rf_6952_76 ?_
    refine im_bipush (q := 170) D361_168 rfl ?_
    refine im_ld (q := 171) (i := 1) D361_170 rfl rfl rfl ?_
    refine im_imul (q := 172) D361_171 ?_
    refine im_ld (q := 173) (i := 2) D361_172 rfl rfl rfl ?_
    refine im_iadd (q := 174) D361_173 ?_
    refine im_callV (q := 177) (kd := 1) (y := 345) (n := 2) (ci := 12) (a := 6952) (vs := [.ref 6952, .ref 7004, vI ((40 * p1) + p2)]) (r := [vI p2, .ref 7016]) (L2 := [some (.ref 6952), some (.ref 7004), some (vI ((40 * p1) + p2)), none, none, none]) D361_174 (im_cal cn_361 cl_12_825) (Or.inl rfl) rfl sf_6952 rfl rfl rfl rfl hd ⟨rfl, rfl, rfl, trivial⟩ ?_
    refine hP.mono ?_
    rintro _ e13 M10 ⟨x11, rfl, rfl, hP⟩
    refine im_bkS ?_
    obtain ⟨hg12, hP⟩ := hP
    refine im_iast (q := 178) D361_177 sf_7016 hg8.1 hg8.2 (by decide) hg12 ?_
    refine im_iinc (q := 181) (i := 2) (L' := [some (.ref 6952), some (vI p1), some (vI (p2 + 1))]) D361_178 rfl (Nat.le_of_ble_eq_true rfl) rfl ?_
    refine im_goto (q := 184) (t := 114) D361_181 rfl ?_
    exact hP.wk ⟨rfl, rfl, rfl, trivial⟩
set_option maxRecDepth 20000 in
set_option maxHeartbeats 4000000 in
theorem b_takeState_196 {g : im_g} {d : Nat} {e : im_E} {M : im_M} {K : im_K} {p1 p2 : Int} (hd : 1 ≤ d) (hP : (0 ≤ p1 ∧ p1 < 16) ∧ (im_i32 p2) ∧ (((M 7005 p1) ≤ p2 → im_T g d 361 261 [some (.ref 6952), some (vI p1), some (vI 0)] [] e (im_u M 6952 96 (M 7008 p1)) K) ∧ (p2 < (M 7005 p1) → (0 ≤ ((40 * p1) + p2) ∧ ((40 * p1) + p2) < 640) ∧ (0 ≤ p2 ∧ p2 < 41) ∧ im_T g (d - 1) 345 0 [some (.ref 6952), some (.ref 7007), some (vI ((40 * p1) + p2)), none, none, none] [] e (im_u M 7017 p2 (M 7006 ((40 * p1) + p2))) (im_ri (fun x10 e_ M9 => e = e_ ∧ (im_i32 x10) ∧ im_T g d 361 196 [some (.ref 6952), some (vI p1), some (vI (p2 + 1))] [] e (im_u M9 7018 p2 x10) K))))) : im_T g d 361 196 [some (.ref 6952), some (vI p1), some (vI p2)] [] e M K := by
  refine im_ld (q := 197) (i := 2) D361_196 rfl rfl rfl ?_
  refine im_ld (q := 198) (i := 0) D361_197 rfl rfl rfl ?_
  refine im_gfR (q := 201) (b := 7005) D361_198 (im_fl cn_361 fl_12_170) sf_6952 rfl rfl tR_12_77 rf_6952_77 ?_
  refine im_ld (q := 202) (i := 1) D361_201 rfl rfl rfl ?_
  obtain ⟨hg1, hP⟩ := hP
  refine im_rng (j := p1) sf_7005 hg1.1 hg1.2 (fun hr2 => ?_)
  refine im_iald (q := 203) D361_202 sf_7005 hg1.1 hg1.2 (by decide) rfl ?_
  obtain ⟨hg3, hP⟩ := hP
  refine im_icmp (q := 206) (t := 249) D361_203 rfl hg3 hr2 (fun hc4 => ?_) (fun hc4 => ?_)
  · replace hP := hP.1 hc4
    refine im_ld (q := 250) (i := 0) D361_249 rfl rfl rfl ?_
    refine im_ld (q := 251) (i := 0) D361_250 rfl rfl rfl ?_
    refine im_gfR (q := 254) (b := 7008) D361_251 (im_fl cn_361 fl_12_179) sf_6952 rfl rfl tR_12_80 rf_6952_80 ?_
    refine im_ld (q := 255) (i := 1) D361_254 rfl rfl rfl ?_
    refine im_rng (j := p1) sf_7008 hg1.1 hg1.2 (fun hr5 => ?_)
    refine im_iald (q := 256) D361_255 sf_7008 hg1.1 hg1.2 (by decide) rfl ?_
    refine im_pfI (q := 259) D361_256 (im_fl cn_361 fl_12_873) sf_6952 rfl rfl ti_12_96 hr5 ?_
    refine im_iconst (q := 260) D361_259 ?_
    refine im_st1 (q := 261) (i := 2) (L' := [some (.ref 6952), some (vI p1), some (vI 0)]) D361_260 (Or.inl ⟨_, rfl, rfl⟩) (Nat.le_of_ble_eq_true rfl) rfl ?_
    exact hP.wk ⟨rfl, rfl, rfl, trivial⟩
  · replace hP := hP.2 (Int.not_le.mp hc4)
    refine im_ld (q := 207) (i := 0) D361_206 rfl rfl rfl ?_
    refine im_gfR (q := 210) (b := 7017) D361_207 (im_fl cn_361 fl_12_207) sf_6952 rfl rfl tR_12_94 rf_6952_94 ?_
    refine im_ld (q := 211) (i := 2) D361_210 rfl rfl rfl ?_
    refine im_ld (q := 212) (i := 0) D361_211 rfl rfl rfl ?_
    refine im_gfR (q := 215) (b := 7006) D361_212 (im_fl cn_361 fl_12_173) sf_6952 rfl rfl tR_12_78 rf_6952_78 ?_
    refine im_bipush (q := 217) D361_215 rfl ?_
    refine im_ld (q := 218) (i := 1) D361_217 rfl rfl rfl ?_
    refine im_imul (q := 219) D361_218 ?_
    refine im_ld (q := 220) (i := 2) D361_219 rfl rfl rfl ?_
    refine im_iadd (q := 221) D361_220 ?_
    obtain ⟨hg6, hP⟩ := hP
    refine im_rng (j := ((40 * p1) + p2)) sf_7006 hg6.1 hg6.2 (fun hr7 => ?_)
    refine im_lald (q := 222) D361_221 sf_7006 hg6.1 hg6.2 (by decide) rfl ?_
    obtain ⟨hg8, hP⟩ := hP
    refine im_last (q := 223) D361_222 sf_7017 hg8.1 hg8.2 (by decide) hr7 ?_
    refine im_ld (q := 224) (i := 0) D361_223 rfl rfl rfl ?_
    refine im_gfR (q := 227) (b := 7018) D361_224 (im_fl cn_361 fl_12_210) sf_6952 rfl rfl tR_12_95 rf_6952_95 ?_
    refine im_ld (q := 228) (i := 2) D361_227 rfl rfl rfl ?_
    refine im_ld (q := 229) (i := 0) D361_228 rfl rfl rfl ?_
    refine im_ld (q := 230) (i := 0) D361_229 rfl rfl rfl ?_
    refine im_gfR (q := 233) (b := 7007) D361_230 (im_fl cn_361 fl_12_176) sf_6952 rfl rfl tR_12_79 rf_6952_79 ?_
    refine im_bipush (q := 235) D361_233 rfl ?_
    refine im_ld (q := 236) (i := 1) D361_235 rfl rfl rfl ?_
    refine im_imul (q := 237) D361_236 ?_
    refine im_ld (q := 238) (i := 2) D361_237 rfl rfl rfl ?_
    refine im_iadd (q := 239) D361_238 ?_
    refine im_callV (q := 242) (kd := 1) (y := 345) (n := 2) (ci := 12) (a := 6952) (vs := [.ref 6952, .ref 7007, vI ((40 * p1) + p2)]) (r := [vI p2, .ref 7018]) (L2 := [some (.ref 6952), some (.ref 7007), some (vI ((40 * p1) + p2)), none, none, none]) D361_239 (im_cal cn_361 cl_12_825) (Or.inl rfl) rfl sf_6952 rfl rfl rfl rfl hd ⟨rfl, rfl, rfl, trivial⟩ ?_
    refine hP.mono ?_
    rintro _ e12 M9 ⟨x10, rfl, rfl, hP⟩
    refine im_bkS ?_
    obtain ⟨hg11, hP⟩ := hP
    refine im_iast (q := 243) D361_242 sf_7018 hg8.1 hg8.2 (by decide) hg11 ?_
    refine im_iinc (q := 246) (i := 2) (L' := [some (.ref 6952), some (vI p1), some (vI (p2 + 1))]) D361_243 rfl (Nat.le_of_ble_eq_true rfl) rfl ?_
    refine im_goto (q := 249) (t := 196) D361_246 rfl ?_
    exact hP.wk ⟨rfl, rfl, rfl, trivial⟩
set_option maxRecDepth 20000 in
set_option maxHeartbeats 4000000 in
theorem b_takeState_261 {g : im_g} {d : Nat} {e : im_E} {M : im_M} {K : im_K} {p1 p2 : Int} (hd : 1 ≤ d) (hP : (0 ≤ p1 ∧ p1 < 16) ∧ (im_i32 p2) ∧ (((M 7008 p1) ≤ p2 → K (.inl none) e M) ∧ (p2 < (M 7008 p1) → (0 ≤ ((20 * p1) + p2) ∧ ((20 * p1) + p2) < 320) ∧ (0 ≤ p2 ∧ p2 < 20) ∧ im_T g (d - 1) 345 0 [some (.ref 6952), some (.ref 7010), some (vI ((20 * p1) + p2)), none, none, none] [] e (im_u M 7019 p2 (M 7009 ((20 * p1) + p2))) (im_ri (fun x9 e_ M8 => e = e_ ∧ (im_i32 x9) ∧ im_T g d 361 261 [some (.ref 6952), some (vI p1), some (vI (p2 + 1))] [] e (im_u M8 7020 p2 x9) K))))) : im_T g d 361 261 [some (.ref 6952), some (vI p1), some (vI p2)] [] e M K := by
  refine im_ld (q := 262) (i := 2) D361_261 rfl rfl rfl ?_
  refine im_ld (q := 263) (i := 0) D361_262 rfl rfl rfl ?_
  refine im_gfR (q := 266) (b := 7008) D361_263 (im_fl cn_361 fl_12_179) sf_6952 rfl rfl tR_12_80 rf_6952_80 ?_
  refine im_ld (q := 267) (i := 1) D361_266 rfl rfl rfl ?_
  obtain ⟨hg1, hP⟩ := hP
  refine im_rng (j := p1) sf_7008 hg1.1 hg1.2 (fun hr2 => ?_)
  refine im_iald (q := 268) D361_267 sf_7008 hg1.1 hg1.2 (by decide) rfl ?_
  obtain ⟨hg3, hP⟩ := hP
  refine im_icmp (q := 271) (t := 314) D361_268 rfl hg3 hr2 (fun hc4 => ?_) (fun hc4 => ?_)
  · replace hP := hP.1 hc4
    exact im_vret (q := 315) D361_314 rfl hP
  · replace hP := hP.2 (Int.not_le.mp hc4)
    refine im_ld (q := 272) (i := 0) D361_271 rfl rfl rfl ?_
    refine im_gfR (q := 275) (b := 7019) D361_272 (im_fl cn_361 fl_12_213) sf_6952 rfl rfl tR_12_97 rf_6952_97 ?_
    refine im_ld (q := 276) (i := 2) D361_275 rfl rfl rfl ?_
    refine im_ld (q := 277) (i := 0) D361_276 rfl rfl rfl ?_
    refine im_gfR (q := 280) (b := 7009) D361_277 (im_fl cn_361 fl_12_182) sf_6952 rfl rfl tR_12_81 rf_6952_81 ?_
    refine im_bipush (q := 282) D361_280 rfl ?_
    refine im_ld (q := 283) (i := 1) D361_282 rfl rfl rfl ?_
    refine im_imul (q := 284) D361_283 ?_
    refine im_ld (q := 285) (i := 2) D361_284 rfl rfl rfl ?_
    refine im_iadd (q := 286) D361_285 ?_
    obtain ⟨hg5, hP⟩ := hP
    refine im_rng (j := ((20 * p1) + p2)) sf_7009 hg5.1 hg5.2 (fun hr6 => ?_)
    refine im_lald (q := 287) D361_286 sf_7009 hg5.1 hg5.2 (by decide) rfl ?_
    obtain ⟨hg7, hP⟩ := hP
    refine im_last (q := 288) D361_287 sf_7019 hg7.1 hg7.2 (by decide) hr6 ?_
    refine im_ld (q := 289) (i := 0) D361_288 rfl rfl rfl ?_
    refine im_gfR (q := 292) (b := 7020) D361_289 (im_fl cn_361 fl_12_216) sf_6952 rfl rfl tR_12_98 rf_6952_98 ?_
    refine im_ld (q := 293) (i := 2) D361_292 rfl rfl rfl ?_
    refine im_ld (q := 294) (i := 0) D361_293 rfl rfl rfl ?_
    refine im_ld (q := 295) (i := 0) D361_294 rfl rfl rfl ?_
    refine im_gfR (q := 298) (b := 7010) D361_295 (im_fl cn_361 fl_12_186) sf_6952 rfl rfl tR_12_82 rf_6952_82 ?_
    refine im_bipush (q := 300) D361_298 rfl ?_
    refine im_ld (q := 301) (i := 1) D361_300 rfl rfl rfl ?_
    refine im_imul (q := 302) D361_301 ?_
    refine im_ld (q := 303) (i := 2) D361_302 rfl rfl rfl ?_
    refine im_iadd (q := 304) D361_303 ?_
    refine im_callV (q := 307) (kd := 1) (y := 345) (n := 2) (ci := 12) (a := 6952) (vs := [.ref 6952, .ref 7010, vI ((20 * p1) + p2)]) (r := [vI p2, .ref 7020]) (L2 := [some (.ref 6952), some (.ref 7010), some (vI ((20 * p1) + p2)), none, none, none]) D361_304 (im_cal cn_361 cl_12_825) (Or.inl rfl) rfl sf_6952 rfl rfl rfl rfl hd ⟨rfl, rfl, rfl, trivial⟩ ?_
    refine hP.mono ?_
    rintro _ e11 M8 ⟨x9, rfl, rfl, hP⟩
    refine im_bkS ?_
    obtain ⟨hg10, hP⟩ := hP
    refine im_iast (q := 308) D361_307 sf_7020 hg7.1 hg7.2 (by decide) hg10 ?_
    refine im_iinc (q := 311) (i := 2) (L' := [some (.ref 6952), some (vI p1), some (vI (p2 + 1))]) D361_308 rfl (Nat.le_of_ble_eq_true rfl) rfl ?_
    refine im_goto (q := 314) (t := 261) D361_311 rfl ?_
    exact hP.wk ⟨rfl, rfl, rfl, trivial⟩
set_option maxRecDepth 20000 in
set_option maxHeartbeats 4000000 in
theorem b_takeWallets_0 {g : im_g} {d : Nat} {e : im_E} {M : im_M} {K : im_K} (hP : im_T g d 362 10 [some (.ref 6952), some (vI 0)] [] e (im_u M 6952 116 (M 6952 130)) K) : im_T g d 362 0 [some (.ref 6952), none] [] e M K := by
  refine im_ld (q := 1) (i := 0) D362_0 rfl rfl rfl ?_
  refine im_ld (q := 2) (i := 0) D362_1 rfl rfl rfl ?_
  refine im_rng (j := 130) sf_6952 (by decide) (by decide) (fun hr1 => ?_)
  refine im_gfI (q := 5) D362_2 (im_fl cn_362 fl_12_1032) sf_6952 rfl rfl tI_12_130 rfl ?_
  refine im_pfI (q := 8) D362_5 (im_fl cn_362 fl_12_965) sf_6952 rfl rfl ti_12_116 hr1 ?_
  refine im_iconst (q := 9) D362_8 ?_
  refine im_st1 (q := 10) (i := 1) (L' := [some (.ref 6952), some (vI 0)]) D362_9 (Or.inl ⟨_, rfl, rfl⟩) (Nat.le_of_ble_eq_true rfl) rfl ?_
  exact hP.wk ⟨rfl, rfl, trivial⟩
set_option maxRecDepth 20000 in
set_option maxHeartbeats 4000000 in
theorem b_takeWallets_10 {g : im_g} {d : Nat} {e : im_E} {M : im_M} {K : im_K} {p1 : Int} (hd : 1 ≤ d) (hP : (im_i32 p1) ∧ (((M 6952 130) ≤ p1 → K (.inl none) e M) ∧ (p1 < (M 6952 130) → (0 ≤ p1 ∧ p1 < 60) ∧ (0 ≤ p1 ∧ p1 < 61) ∧ im_T g (d - 1) 345 0 [some (.ref 6952), some (.ref 7044), some (vI p1), none, none, none] [] e (im_u (im_u M 7031 p1 (M 7042 p1)) 7032 p1 (M 7043 p1)) (im_ri (fun x9 e_ M8 => e = e_ ∧ (im_i32 x9) ∧ im_T g d 362 10 [some (.ref 6952), some (vI (p1 + 1))] [] e (im_u M8 7033 p1 x9) K))))) : im_T g d 362 10 [some (.ref 6952), some (vI p1)] [] e M K := by
  refine im_ld (q := 11) (i := 1) D362_10 rfl rfl rfl ?_
  refine im_ld (q := 12) (i := 0) D362_11 rfl rfl rfl ?_
  refine im_rng (j := 130) sf_6952 (by decide) (by decide) (fun hr1 => ?_)
  refine im_gfI (q := 15) D362_12 (im_fl cn_362 fl_12_1032) sf_6952 rfl rfl tI_12_130 rfl ?_
  obtain ⟨hg2, hP⟩ := hP
  refine im_icmp (q := 18) (t := 63) D362_15 rfl hg2 hr1 (fun hc3 => ?_) (fun hc3 => ?_)
  · replace hP := hP.1 hc3
    exact im_vret (q := 64) D362_63 rfl hP
  · replace hP := hP.2 (Int.not_le.mp hc3)
    refine im_ld (q := 19) (i := 0) D362_18 rfl rfl rfl ?_
    refine im_gfR (q := 22) (b := 7031) D362_19 (im_fl cn_362 fl_12_249) sf_6952 rfl rfl tR_12_117 rf_6952_117 ?_
    refine im_ld (q := 23) (i := 1) D362_22 rfl rfl rfl ?_
    refine im_ld (q := 24) (i := 0) D362_23 rfl rfl rfl ?_
    refine im_gfR (q := 27) (b := 7042) D362_24 (im_fl cn_362 fl_12_282) sf_6952 rfl rfl tR_12_131 rf_6952_131 ?_
    refine im_ld (q := 28) (i := 1) D362_27 rfl rfl rfl ?_
    obtain ⟨hg4, hP⟩ := hP
    refine im_rng (j := p1) sf_7042 hg4.1 hg4.2 (fun hr5 => ?_)
    refine im_lald (q := 29) D362_28 sf_7042 hg4.1 hg4.2 (by decide) rfl ?_
    obtain ⟨hg6, hP⟩ := hP
    refine im_last (q := 30) D362_29 sf_7031 hg6.1 hg6.2 (by decide) hr5 ?_
    refine im_ld (q := 31) (i := 0) D362_30 rfl rfl rfl ?_
    refine im_gfR (q := 34) (b := 7032) D362_31 (im_fl cn_362 fl_12_252) sf_6952 rfl rfl tR_12_118 rf_6952_118 ?_
    refine im_ld (q := 35) (i := 1) D362_34 rfl rfl rfl ?_
    refine im_ld (q := 36) (i := 0) D362_35 rfl rfl rfl ?_
    refine im_gfR (q := 39) (b := 7043) D362_36 (im_fl cn_362 fl_12_285) sf_6952 rfl rfl tR_12_132 rf_6952_132 ?_
    refine im_ld (q := 40) (i := 1) D362_39 rfl rfl rfl ?_
    refine im_rng (j := p1) sf_7043 hg4.1 hg4.2 (fun hr7 => ?_)
    refine im_lald (q := 41) D362_40 sf_7043 hg4.1 hg4.2 (by decide) (im_rdn _ _ _ _ (by decide)) ?_
    refine im_last (q := 42) D362_41 sf_7032 hg6.1 hg6.2 (by decide) (im_rgc hr7 (im_rdn _ _ _ _ (by decide))) ?_
    refine im_ld (q := 43) (i := 0) D362_42 rfl rfl rfl ?_
    refine im_gfR (q := 46) (b := 7033) D362_43 (im_fl cn_362 fl_12_255) sf_6952 rfl rfl tR_12_119 rf_6952_119 ?_
    refine im_ld (q := 47) (i := 1) D362_46 rfl rfl rfl ?_
    refine im_ld (q := 48) (i := 0) D362_47 rfl rfl rfl ?_
    refine im_ld (q := 49) (i := 0) D362_48 rfl rfl rfl ?_
    refine im_gfR (q := 52) (b := 7044) D362_49 (im_fl cn_362 fl_12_288) sf_6952 rfl rfl tR_12_133 rf_6952_133 ?_
    refine im_ld (q := 53) (i := 1) D362_52 rfl rfl rfl ?_
    refine im_callV (q := 56) (kd := 1) (y := 345) (n := 2) (ci := 12) (a := 6952) (vs := [.ref 6952, .ref 7044, vI p1]) (r := [vI p1, .ref 7033]) (L2 := [some (.ref 6952), some (.ref 7044), some (vI p1), none, none, none]) D362_53 (im_cal cn_362 cl_12_825) (Or.inl rfl) rfl sf_6952 rfl rfl rfl rfl hd ⟨rfl, rfl, rfl, trivial⟩ ?_
    refine hP.mono ?_
    rintro _ e11 M8 ⟨x9, rfl, rfl, hP⟩
    refine im_bkS ?_
    obtain ⟨hg10, hP⟩ := hP
    refine im_iast (q := 57) D362_56 sf_7033 hg6.1 hg6.2 (by decide) hg10 ?_
    refine im_iinc (q := 60) (i := 1) (L' := [some (.ref 6952), some (vI (p1 + 1))]) D362_57 rfl (Nat.le_of_ble_eq_true rfl) rfl ?_
    refine im_goto (q := 63) (t := 10) D362_60 rfl ?_
    exact hP.wk ⟨rfl, rfl, trivial⟩
set_option maxRecDepth 20000 in
set_option maxHeartbeats 4000000 in
theorem b_run_0 {g : im_g} {d : Nat} {e : im_E} {M : im_M} {K : im_K} {p1 p3 : Int} (hd : 1 ≤ d) (hP : (im_i64 p1) ∧ (im_i64 p3) ∧ ((p3 < p1 → K (.inl (some (vI (-2)))) e (im_u (im_u (im_u (im_u M 6952 101 0) 6952 104 0) 6952 110 0) 6952 103 0)) ∧ (p1 ≤ p3 → im_T g (d - 1) 268 0 [some (vL p1), none, some (vL 0), none, some (vL 1000000000000000), none] [] e (im_u (im_u (im_u (im_u M 6952 101 0) 6952 104 0) 6952 110 0) 6952 103 0) (im_ri (fun x5 e_ M4 => e = e_ ∧ (im_i32 x5) ∧ ((x5 = 0 → K (.inl (some (vI (-2)))) e M4) ∧ (¬ x5 = 0 → im_T g (d - 1) 268 0 [some (vL p3), none, some (vL 0), none, some (vL 1000000000000000), none] [] e M4 (im_ri (fun x9 e_ M8 => e = e_ ∧ (im_i32 x9) ∧ ((((¬ x9 = 0 → ((p3 < (M8 6952 84) → K (.inl (some (vI (-3)))) e M8))) ∧ (x9 = 0 → K (.inl (some (vI (-2)))) e M8))) ∧ (∀ x17 : Int, (((¬ x9 = 0) ∧ ((M8 6952 84) ≤ p3) ∧ (p1 ≤ (M8 6952 84)) ∧ x17 = (M8 6952 84)) ∨ ((¬ x9 = 0) ∧ ((M8 6952 84) ≤ p3) ∧ ((M8 6952 84) < p1) ∧ x17 = p1)) → (im_i64 x17) ∧ im_T g (d - 1) 364 0 [some (.ref 6952), none] [] e (im_u (im_u M8 6952 99 x17) 6952 100 p3) (im_r0 (fun  e_ M23 => e = e_ ∧ im_T g d 363 102 [some (.ref 6952), none, none, none, none, some (vI (M8 6952 83)), some (vI 0)] [] e M23 K))))))))))))) : im_T g d 363 0 [some (.ref 6952), some (vL p1), none, some (vL p3), none, none, none] [] e M K := by
  refine im_ld (q := 1) (i := 0) D363_0 rfl rfl rfl ?_
  refine im_iconst (q := 2) D363_1 ?_
  refine im_pfI (q := 5) D363_2 (im_fl cn_363 fl_12_855) sf_6952 rfl rfl ti_12_101 (by decide) ?_
  refine im_ld (q := 6) (i := 0) D363_5 rfl rfl rfl ?_
  refine im_iconst (q := 7) D363_6 ?_
  refine im_pfI (q := 10) D363_7 (im_fl cn_363 fl_12_971) sf_6952 rfl rfl ti_12_104 (by decide) ?_
  refine im_ld (q := 11) (i := 0) D363_10 rfl rfl rfl ?_
  refine im_iconst (q := 12) D363_11 ?_
  refine im_pfI (q := 15) D363_12 (im_fl cn_363 fl_12_981) sf_6952 rfl rfl ti_12_110 (by decide) ?_
  refine im_ld (q := 16) (i := 0) D363_15 rfl rfl rfl ?_
  refine im_iconst (q := 17) D363_16 ?_
  refine im_pfZ (q := 20) D363_17 (im_fl cn_363 fl_12_997) sf_6952 rfl rfl tz_12_103 (by decide) ?_
  refine im_ld (q := 21) (i := 1) D363_20 rfl rfl rfl ?_
  refine im_ld (q := 22) (i := 3) D363_21 rfl rfl rfl ?_
  obtain ⟨hg1, hP⟩ := hP
  obtain ⟨hg2, hP⟩ := hP
  refine im_lif (q := 23) (q2 := 26) (t := 48) D363_22 D363_23 rfl hg1 hg2 (fun hc3 => ?_) (fun hc3 => ?_)
  · replace hP := hP.1 hc3
    refine im_bipush (q := 50) D363_48 rfl ?_
    exact im_iret (q := 51) D363_50 rfl hP
  · replace hP := hP.2 (Int.not_lt.mp hc3)
    refine im_ld (q := 27) (i := 1) D363_26 rfl rfl rfl ?_
    refine im_lconst (q := 28) (z := 0) D363_27 rfl ?_
    refine im_ldc2 (q := 31) (n := 1000000000000000) D363_28 rfl ?_
    refine im_callS (q := 34) (kd := 0) (y := 268) (n := 3) (z := 12) (vs := [vL p1, vL 0, vL 1000000000000000]) (r := []) (L2 := [some (vL p1), none, some (vL 0), none, some (vL 1000000000000000), none]) D363_31 rfl (im_cal cn_363 cl_12_428) (Or.inl rfl) rfl rfl rfl rfl rfl hd ⟨rfl, rfl, rfl, trivial⟩ ?_
    refine hP.mono ?_
    rintro _ e26 M4 ⟨x5, rfl, rfl, hP⟩
    refine im_bkS ?_
    obtain ⟨hg6, hP⟩ := hP
    refine im_ifc (q := 37) (t := 48) D363_34 rfl hg6 (fun hc7 => ?_) (fun hc7 => ?_)
    · replace hP := hP.1 hc7
      refine im_bipush (q := 50) D363_48 rfl ?_
      exact im_iret (q := 51) D363_50 rfl hP
    · replace hP := hP.2 hc7
      refine im_ld (q := 38) (i := 3) D363_37 rfl rfl rfl ?_
      refine im_lconst (q := 39) (z := 0) D363_38 rfl ?_
      refine im_ldc2 (q := 42) (n := 1000000000000000) D363_39 rfl ?_
      refine im_callS (q := 45) (kd := 0) (y := 268) (n := 3) (z := 12) (vs := [vL p3, vL 0, vL 1000000000000000]) (r := []) (L2 := [some (vL p3), none, some (vL 0), none, some (vL 1000000000000000), none]) D363_42 rfl (im_cal cn_363 cl_12_428) (Or.inl rfl) rfl rfl rfl rfl rfl hd ⟨rfl, rfl, rfl, trivial⟩ ?_
      refine hP.mono ?_
      rintro _ e25 M8 ⟨x9, rfl, rfl, hP⟩
      refine im_bkS ?_
      obtain ⟨hg10, hP⟩ := hP
      obtain ⟨hP, hJ18⟩ := hP
      have kJ19 : ∀ x17 : Int, (((¬ x9 = 0) ∧ ((M8 6952 84) ≤ p3) ∧ (p1 ≤ (M8 6952 84)) ∧ x17 = (M8 6952 84)) ∨ ((¬ x9 = 0) ∧ ((M8 6952 84) ≤ p3) ∧ ((M8 6952 84) < p1) ∧ x17 = p1)) → im_T g d 363 81 [some (.ref 6952), none, none, some (vL p3), none, none, none] [vL x17, .ref 6952] e M8 K := by
        intro x17 hx20
        have hP := hJ18 x17 hx20
        obtain ⟨hg21, hP⟩ := hP
        refine im_pfL (q := 84) D363_81 (im_fl cn_363 fl_12_905) sf_6952 rfl rfl tl_12_99 hg21 ?_
        refine im_ld (q := 85) (i := 0) D363_84 rfl rfl rfl ?_
        refine im_ld (q := 86) (i := 3) D363_85 rfl rfl rfl ?_
        refine im_pfL (q := 89) D363_86 (im_fl cn_363 fl_12_911) sf_6952 rfl rfl tl_12_100 hg2 ?_
        refine im_ld (q := 90) (i := 0) D363_89 rfl rfl rfl ?_
        refine im_rng (j := 83) sf_6952 (by decide) (by decide) (fun hr22 => ?_)
        refine im_gfI (q := 93) D363_90 (im_fl cn_363 fl_12_858) sf_6952 rfl rfl tI_12_83 ((im_rdk _ _ _ (by decide)).trans (im_rdk _ _ _ (by decide))) ?_
        refine im_st1 (q := 95) (i := 5) (L' := [some (.ref 6952), none, none, some (vL p3), none, some (vI (M8 6952 83)), none]) D363_93 (Or.inr rfl) (Nat.le_of_ble_eq_true rfl) rfl ?_
        refine im_ld (q := 96) (i := 0) D363_95 rfl rfl rfl ?_
        refine im_callV (q := 99) (kd := 1) (y := 364) (n := 0) (ci := 12) (a := 6952) (vs := [.ref 6952]) (r := []) (L2 := [some (.ref 6952), none]) D363_96 (im_cal cn_363 cl_12_1026) (Or.inl rfl) rfl sf_6952 rfl rfl rfl rfl hd ⟨rfl, trivial⟩ ?_
        refine hP.mono ?_
        rintro _ e24 M23 ⟨rfl, rfl, hP⟩
        refine im_bkN ?_
        refine im_iconst (q := 100) D363_99 ?_
        refine im_st1 (q := 102) (i := 6) (L' := [some (.ref 6952), none, none, some (vL p3), none, some (vI (M8 6952 83)), some (vI 0)]) D363_100 (Or.inr rfl) (Nat.le_of_ble_eq_true rfl) rfl ?_
        exact hP.wk ⟨rfl, rfl, rfl, trivial⟩
      refine im_ifc (q := 48) (t := 51) D363_45 rfl hg10 (fun hc11 => ?_) (fun hc11 => ?_)
      · replace hP := hP.1 hc11
        refine im_ld (q := 52) (i := 3) D363_51 rfl rfl rfl ?_
        refine im_ld (q := 53) (i := 0) D363_52 rfl rfl rfl ?_
        refine im_rng (j := 84) sf_6952 (by decide) (by decide) (fun hr12 => ?_)
        refine im_gfL (q := 56) D363_53 (im_fl cn_363 fl_12_861) sf_6952 rfl rfl tL_12_84 rfl ?_
        refine im_lif (q := 57) (q2 := 60) (t := 63) D363_56 D363_57 rfl hg2 hr12 (fun hc13 => ?_) (fun hc13 => ?_)
        · refine im_ld (q := 64) (i := 0) D363_63 rfl rfl rfl ?_
          refine im_ld (q := 65) (i := 1) D363_64 rfl rfl rfl ?_
          refine im_ld (q := 66) (i := 0) D363_65 rfl rfl rfl ?_
          refine im_gfL (q := 69) D363_66 (im_fl cn_363 fl_12_861) sf_6952 rfl rfl tL_12_84 rfl ?_
          refine im_lif (q := 70) (q2 := 73) (t := 77) D363_69 D363_70 rfl hg1 hr12 (fun hc15 => ?_) (fun hc15 => ?_)
          · refine im_ld (q := 78) (i := 0) D363_77 rfl rfl rfl ?_
            refine im_gfL (q := 81) D363_78 (im_fl cn_363 fl_12_861) sf_6952 rfl rfl tL_12_84 rfl ?_
            exact (kJ19 ((M8 6952 84)) (Or.inl ⟨hc11, hc13, hc15, rfl⟩)).wk ⟨rfl, rfl, trivial⟩
          · refine im_ld (q := 74) (i := 1) D363_73 rfl rfl rfl ?_
            refine im_goto (q := 77) (t := 81) D363_74 rfl ?_
            exact (kJ19 (p1) (Or.inr ⟨hc11, hc13, (Int.not_le.mp hc15), rfl⟩)).wk ⟨rfl, rfl, trivial⟩
        · replace hP := hP (Int.not_le.mp hc13)
          refine im_bipush (q := 62) D363_60 rfl ?_
          exact im_iret (q := 63) D363_62 rfl hP
      · replace hP := hP.2 (Decidable.not_not.mp hc11)
        refine im_bipush (q := 50) D363_48 rfl ?_
        exact im_iret (q := 51) D363_50 rfl hP
set_option maxRecDepth 20000 in
set_option maxHeartbeats 4000000 in
theorem b_run_102 {g : im_g} {d : Nat} {e : im_E} {M : im_M} {K : im_K} {p5 p6 : Int} (hd : 1 ≤ d) (hP : (im_i32 p6) ∧ ((((p6 < (M 6952 46) → (((M 6952 101) = 0 → im_T g (d - 1) 408 0 [some (.ref 6952), some (vI p6), none] [] e M (im_r0 (fun  e_ M27 => e = e_ ∧ im_T g (d - 1) 364 0 [some (.ref 6952), none] [] e M27 (im_r0 (fun  e_ M28 => e = e_ ∧ im_T g d 363 102 [some (.ref 6952), none, none, none, none, some (vI p5), some (vI (p6 + 1))] [] e M28 K))))))))) ∧ (((((M 6952 46) ≤ p6)) ∨ ((p6 < (M 6952 46)) ∧ (¬ (M 6952 101) = 0))) → (((((M 6952 101) = 0 → (((M 6952 46) = 0 → (im_i32 p5) ∧ (((M 6952 83) = p5 → (((M 6952 103) = 0 → im_T g (d - 1) 368 0 [some (.ref 6952), some (vI (-6))] [] e M (im_r0 (fun  e_ M23 => e = e_ ∧ K (.inl (some (vI (M23 6952 101)))) e (im_u M23 6952 84 (M23 6952 99))))))))))))) ∧ ((((¬ (M 6952 101) = 0)) ∨ (((M 6952 101) = 0) ∧ (¬ (M 6952 46) = 0)) ∨ (((M 6952 101) = 0) ∧ ((M 6952 46) = 0) ∧ (¬ (M 6952 83) = p5)) ∨ (((M 6952 101) = 0) ∧ ((M 6952 46) = 0) ∧ ((M 6952 83) = p5) ∧ (¬ (M 6952 103) = 0))) → K (.inl (some (vI (M 6952 101)))) e (im_u M 6952 84 (M 6952 99))))))) : im_T g d 363 102 [some (.ref 6952), none, none, none, none, some (vI p5), some (vI p6)] [] e M K := by
  refine im_ld (q := 104) (i := 6) D363_102 rfl rfl rfl ?_
  refine im_ld (q := 105) (i := 0) D363_104 rfl rfl rfl ?_
  refine im_rng (j := 46) sf_6952 (by decide) (by decide) (fun hr1 => ?_)
  refine im_gfI (q := 108) D363_105 (im_fl cn_363 fl_12_723) sf_6952 rfl rfl tI_12_46 rfl ?_
  obtain ⟨hg2, hP⟩ := hP
  obtain ⟨hP, hJ6⟩ := hP
  have kJ7 : ((((M 6952 46) ≤ p6)) ∨ ((p6 < (M 6952 46)) ∧ (¬ (M 6952 101) = 0))) → im_T g d 363 134 [some (.ref 6952), none, none, none, none, some (vI p5), none] [] e M K := by
    intro  hx8
    have hP := hJ6  hx8
    refine im_ld (q := 135) (i := 0) D363_134 rfl rfl rfl ?_
    refine im_rng (j := 101) sf_6952 (by decide) (by decide) (fun hr9 => ?_)
    refine im_gfI (q := 138) D363_135 (im_fl cn_363 fl_12_855) sf_6952 rfl rfl tI_12_101 rfl ?_
    obtain ⟨hP, hJ18⟩ := hP
    have kJ19 : (((¬ (M 6952 101) = 0)) ∨ (((M 6952 101) = 0) ∧ (¬ (M 6952 46) = 0)) ∨ (((M 6952 101) = 0) ∧ ((M 6952 46) = 0) ∧ (¬ (M 6952 83) = p5)) ∨ (((M 6952 101) = 0) ∧ ((M 6952 46) = 0) ∧ ((M 6952 83) = p5) ∧ (¬ (M 6952 103) = 0))) → im_T g d 363 170 [some (.ref 6952), none, none, none, none, none, none] [] e M K := by
      intro  hx20
      have hP := hJ18  hx20
      refine im_ld (q := 171) (i := 0) D363_170 rfl rfl rfl ?_
      refine im_ld (q := 172) (i := 0) D363_171 rfl rfl rfl ?_
      refine im_rng (j := 99) sf_6952 (by decide) (by decide) (fun hr21 => ?_)
      refine im_gfL (q := 175) D363_172 (im_fl cn_363 fl_12_905) sf_6952 rfl rfl tL_12_99 rfl ?_
      refine im_pfL (q := 178) D363_175 (im_fl cn_363 fl_12_861) sf_6952 rfl rfl tl_12_84 hr21 ?_
      refine im_ld (q := 179) (i := 0) D363_178 rfl rfl rfl ?_
      refine im_gfI (q := 182) D363_179 (im_fl cn_363 fl_12_855) sf_6952 rfl rfl tI_12_101 (im_rdk _ _ _ (by decide)) ?_
      exact im_iret (q := 183) D363_182 rfl hP
    refine im_ifc (q := 141) (t := 170) D363_138 rfl hr9 (fun hc10 => ?_) (fun hc10 => ?_)
    · exact (kJ19  (Or.inl hc10)).wk ⟨rfl, trivial⟩
    · replace hP := hP (Decidable.not_not.mp hc10)
      refine im_ld (q := 142) (i := 0) D363_141 rfl rfl rfl ?_
      refine im_gfI (q := 145) D363_142 (im_fl cn_363 fl_12_723) sf_6952 rfl rfl tI_12_46 rfl ?_
      refine im_ifc (q := 148) (t := 170) D363_145 rfl hr1 (fun hc12 => ?_) (fun hc12 => ?_)
      · exact (kJ19  (Or.inr (Or.inl ⟨(Decidable.not_not.mp hc10), hc12⟩))).wk ⟨rfl, trivial⟩
      · replace hP := hP (Decidable.not_not.mp hc12)
        refine im_ld (q := 149) (i := 0) D363_148 rfl rfl rfl ?_
        refine im_rng (j := 83) sf_6952 (by decide) (by decide) (fun hr13 => ?_)
        refine im_gfI (q := 152) D363_149 (im_fl cn_363 fl_12_858) sf_6952 rfl rfl tI_12_83 rfl ?_
        refine im_ld (q := 154) (i := 5) D363_152 rfl rfl rfl ?_
        obtain ⟨hg14, hP⟩ := hP
        refine im_icmp (q := 157) (t := 170) D363_154 rfl hr13 hg14 (fun hc15 => ?_) (fun hc15 => ?_)
        · exact (kJ19  (Or.inr (Or.inr (Or.inl ⟨(Decidable.not_not.mp hc10), (Decidable.not_not.mp hc12), hc15⟩)))).wk ⟨rfl, trivial⟩
        · replace hP := hP (Decidable.not_not.mp hc15)
          refine im_ld (q := 158) (i := 0) D363_157 rfl rfl rfl ?_
          refine im_rng (j := 103) sf_6952 (by decide) (by decide) (fun hr16 => ?_)
          refine im_gfI (q := 161) D363_158 (im_fl cn_363 fl_12_997) sf_6952 rfl rfl tI_12_103 rfl ?_
          refine im_ifc (q := 164) (t := 170) D363_161 rfl (im_z32 hr16) (fun hc17 => ?_) (fun hc17 => ?_)
          · exact (kJ19  (Or.inr (Or.inr (Or.inr ⟨(Decidable.not_not.mp hc10), (Decidable.not_not.mp hc12), (Decidable.not_not.mp hc15), hc17⟩)))).wk ⟨rfl, trivial⟩
          · replace hP := hP (Decidable.not_not.mp hc17)
            refine im_ld (q := 165) (i := 0) D363_164 rfl rfl rfl ?_
            refine im_bipush (q := 167) D363_165 rfl ?_
            refine im_callV (q := 170) (kd := 1) (y := 368) (n := 1) (ci := 12) (a := 6952) (vs := [.ref 6952, vI (-6)]) (r := []) (L2 := [some (.ref 6952), some (vI (-6))]) D363_167 (im_cal cn_363 cl_12_959) (Or.inl rfl) rfl sf_6952 rfl rfl rfl rfl hd ⟨rfl, rfl, trivial⟩ ?_
            refine hP.mono ?_
            rintro _ e26 M23 ⟨rfl, rfl, hP⟩
            refine im_bkN ?_
            refine im_ld (q := 171) (i := 0) D363_170 rfl rfl rfl ?_
            refine im_ld (q := 172) (i := 0) D363_171 rfl rfl rfl ?_
            refine im_rng (j := 99) sf_6952 (by decide) (by decide) (fun hr24 => ?_)
            refine im_gfL (q := 175) D363_172 (im_fl cn_363 fl_12_905) sf_6952 rfl rfl tL_12_99 rfl ?_
            refine im_pfL (q := 178) D363_175 (im_fl cn_363 fl_12_861) sf_6952 rfl rfl tl_12_84 hr24 ?_
            refine im_ld (q := 179) (i := 0) D363_178 rfl rfl rfl ?_
            refine im_rng (j := 101) sf_6952 (by decide) (by decide) (fun hr25 => ?_)
            refine im_gfI (q := 182) D363_179 (im_fl cn_363 fl_12_855) sf_6952 rfl rfl tI_12_101 (im_rdk _ _ _ (by decide)) ?_
            exact im_iret (q := 183) D363_182 rfl hP
  refine im_icmp (q := 111) (t := 134) D363_108 rfl hg2 hr1 (fun hc3 => ?_) (fun hc3 => ?_)
  · exact (kJ7  (Or.inl hc3)).wk ⟨rfl, rfl, trivial⟩
  · replace hP := hP (Int.not_le.mp hc3)
    refine im_ld (q := 112) (i := 0) D363_111 rfl rfl rfl ?_
    refine im_rng (j := 101) sf_6952 (by decide) (by decide) (fun hr4 => ?_)
    refine im_gfI (q := 115) D363_112 (im_fl cn_363 fl_12_855) sf_6952 rfl rfl tI_12_101 rfl ?_
    refine im_ifc (q := 118) (t := 134) D363_115 rfl hr4 (fun hc5 => ?_) (fun hc5 => ?_)
    · exact (kJ7  (Or.inr ⟨(Int.not_le.mp hc3), hc5⟩)).wk ⟨rfl, rfl, trivial⟩
    · replace hP := hP (Decidable.not_not.mp hc5)
      refine im_ld (q := 119) (i := 0) D363_118 rfl rfl rfl ?_
      refine im_ld (q := 121) (i := 6) D363_119 rfl rfl rfl ?_
      refine im_callV (q := 124) (kd := 1) (y := 408) (n := 1) (ci := 12) (a := 6952) (vs := [.ref 6952, vI p6]) (r := []) (L2 := [some (.ref 6952), some (vI p6), none]) D363_121 (im_cal cn_363 cl_12_1029) (Or.inl rfl) rfl sf_6952 rfl rfl rfl rfl hd ⟨rfl, rfl, trivial⟩ ?_
      refine hP.mono ?_
      rintro _ e30 M27 ⟨rfl, rfl, hP⟩
      refine im_bkN ?_
      refine im_ld (q := 125) (i := 0) D363_124 rfl rfl rfl ?_
      refine im_callV (q := 128) (kd := 1) (y := 364) (n := 0) (ci := 12) (a := 6952) (vs := [.ref 6952]) (r := []) (L2 := [some (.ref 6952), none]) D363_125 (im_cal cn_363 cl_12_1026) (Or.inl rfl) rfl sf_6952 rfl rfl rfl rfl hd ⟨rfl, trivial⟩ ?_
      refine hP.mono ?_
      rintro _ e29 M28 ⟨rfl, rfl, hP⟩
      refine im_bkN ?_
      refine im_iinc (q := 131) (i := 6) (L' := [some (.ref 6952), none, none, none, none, some (vI p5), some (vI (p6 + 1))]) D363_128 rfl (Nat.le_of_ble_eq_true rfl) rfl ?_
      refine im_goto (q := 134) (t := 102) D363_131 rfl ?_
      exact hP.wk ⟨rfl, rfl, rfl, trivial⟩
set_option maxRecDepth 20000 in
set_option maxHeartbeats 4000000 in
theorem b_reduce_0 {g : im_g} {d : Nat} {e : im_E} {M : im_M} {K : im_K} (hP : ((∀ x3 : Int, (((¬ (M 6952 101) = 0) ∧ x3 = 0) ∨ (((M 6952 101) = 0) ∧ x3 = 1)) → im_T g d 364 13 [some (.ref 6952), some (vI x3)] [] e M K))) : im_T g d 364 0 [some (.ref 6952), none] [] e M K := by
  refine im_ld (q := 1) (i := 0) D364_0 rfl rfl rfl ?_
  refine im_rng (j := 101) sf_6952 (by decide) (by decide) (fun hr1 => ?_)
  refine im_gfI (q := 4) D364_1 (im_fl cn_364 fl_12_855) sf_6952 rfl rfl tI_12_101 rfl ?_
  have hJ4 := hP
  have kJ5 : ∀ x3 : Int, (((¬ (M 6952 101) = 0) ∧ x3 = 0) ∨ (((M 6952 101) = 0) ∧ x3 = 1)) → im_T g d 364 12 [some (.ref 6952), none] [vI x3] e M K := by
    intro x3 hx6
    have hP := hJ4 x3 hx6
    refine im_st1 (q := 13) (i := 1) (L' := [some (.ref 6952), some (vI x3)]) D364_12 (Or.inl ⟨_, rfl, rfl⟩) (Nat.le_of_ble_eq_true rfl) rfl ?_
    exact hP.wk ⟨rfl, rfl, trivial⟩
  refine im_ifc (q := 7) (t := 11) D364_4 rfl hr1 (fun hc2 => ?_) (fun hc2 => ?_)
  · refine im_iconst (q := 12) D364_11 ?_
    exact (kJ5 (0) (Or.inl ⟨hc2, rfl⟩)).wk ⟨rfl, trivial⟩
  · refine im_iconst (q := 8) D364_7 ?_
    refine im_goto (q := 11) (t := 12) D364_8 rfl ?_
    exact (kJ5 (1) (Or.inr ⟨(Decidable.not_not.mp hc2), rfl⟩)).wk ⟨rfl, trivial⟩
set_option maxRecDepth 20000 in
set_option maxHeartbeats 4000000 in
theorem b_reduce_13 {g : im_g} {d : Nat} {e : im_E} {M : im_M} {K : im_K} {p1 : Int} (hd : 1 ≤ d) (hP : (im_i32 p1) ∧ ((p1 = 0 → K (.inl none) e M) ∧ (¬ p1 = 0 → im_T g (d - 1) 365 0 [some (.ref 6952), none, none, none, none, none, none, none] [] e M (im_ri (fun x4 e_ M3 => e = e_ ∧ (im_i32 x4) ∧ ((((¬ x4 = 0 → (((M3 6952 101) = 0 → im_T g d 364 13 [some (.ref 6952), some (vI 1)] [] e M3 K))))) ∧ ((((x4 = 0)) ∨ ((¬ x4 = 0) ∧ (¬ (M3 6952 101) = 0))) → im_T g d 364 13 [some (.ref 6952), some (vI 0)] [] e M3 K))))))) : im_T g d 364 13 [some (.ref 6952), some (vI p1)] [] e M K := by
  refine im_ld (q := 14) (i := 1) D364_13 rfl rfl rfl ?_
  obtain ⟨hg1, hP⟩ := hP
  refine im_ifc (q := 17) (t := 40) D364_14 rfl hg1 (fun hc2 => ?_) (fun hc2 => ?_)
  · replace hP := hP.1 hc2
    exact im_vret (q := 41) D364_40 rfl hP
  · replace hP := hP.2 hc2
    refine im_ld (q := 18) (i := 0) D364_17 rfl rfl rfl ?_
    refine im_callV (q := 21) (kd := 1) (y := 365) (n := 0) (ci := 12) (a := 6952) (vs := [.ref 6952]) (r := []) (L2 := [some (.ref 6952), none, none, none, none, none, none, none]) D364_18 (im_cal cn_364 cl_12_1009) (Or.inl rfl) rfl sf_6952 rfl rfl rfl rfl hd ⟨rfl, trivial⟩ ?_
    refine hP.mono ?_
    rintro _ e12 M3 ⟨x4, rfl, rfl, hP⟩
    refine im_bkS ?_
    obtain ⟨hg5, hP⟩ := hP
    obtain ⟨hP, hJ9⟩ := hP
    have kJ10 : (((x4 = 0)) ∨ ((¬ x4 = 0) ∧ (¬ (M3 6952 101) = 0))) → im_T g d 364 35 [some (.ref 6952), none] [] e M3 K := by
      intro  hx11
      have hP := hJ9  hx11
      refine im_iconst (q := 36) D364_35 ?_
      refine im_st1 (q := 37) (i := 1) (L' := [some (.ref 6952), some (vI 0)]) D364_36 (Or.inl ⟨_, rfl, rfl⟩) (Nat.le_of_ble_eq_true rfl) rfl ?_
      refine im_goto (q := 40) (t := 13) D364_37 rfl ?_
      exact hP.wk ⟨rfl, rfl, trivial⟩
    refine im_ifc (q := 24) (t := 35) D364_21 rfl hg5 (fun hc6 => ?_) (fun hc6 => ?_)
    · exact (kJ10  (Or.inl hc6)).wk ⟨rfl, trivial⟩
    · replace hP := hP hc6
      refine im_ld (q := 25) (i := 0) D364_24 rfl rfl rfl ?_
      refine im_rng (j := 101) sf_6952 (by decide) (by decide) (fun hr7 => ?_)
      refine im_gfI (q := 28) D364_25 (im_fl cn_364 fl_12_855) sf_6952 rfl rfl tI_12_101 rfl ?_
      refine im_ifc (q := 31) (t := 35) D364_28 rfl hr7 (fun hc8 => ?_) (fun hc8 => ?_)
      · exact (kJ10  (Or.inr ⟨hc6, hc8⟩)).wk ⟨rfl, trivial⟩
      · replace hP := hP (Decidable.not_not.mp hc8)
        refine im_iconst (q := 32) D364_31 ?_
        refine im_goto (q := 35) (t := 36) D364_32 rfl ?_
        refine im_st1 (q := 37) (i := 1) (L' := [some (.ref 6952), some (vI 1)]) D364_36 (Or.inl ⟨_, rfl, rfl⟩) (Nat.le_of_ble_eq_true rfl) rfl ?_
        refine im_goto (q := 40) (t := 13) D364_37 rfl ?_
        exact hP.wk ⟨rfl, rfl, trivial⟩
set_option maxRecDepth 20000 in
set_option maxHeartbeats 4000000 in
theorem b_step_0 {g : im_g} {d : Nat} {e : im_E} {M : im_M} {K : im_K} (hd : 1 ≤ d) (hP : (0 ≤ (M 6952 83) ∧ (M 6952 83) < 5100) ∧ (((M 6960 (M 6952 83)) = 1 → ((¬ (M 6952 85) = 0 → im_T g (d - 1) 366 0 [some (.ref 6952), some (vI 0), none] [] e (im_u M 6952 103 1) (im_r0 (fun  e_ M9 => e = e_ ∧ im_T g (d - 1) 367 0 [some (.ref 6952), some (vI 0), some (vL (M 7011 0)), none, some (vL (M 7011 0)), none, some (vL (M 7012 0)), none, some (vI (M 7013 0))] [] e M9 (im_r0 (fun  e_ M10 => e = e_ ∧ K (.inl (some (vI 1))) e M10))))) ∧ ((M 6952 85) = 0 → K (.inl (some (vI 0))) e M))) ∧ ((M 6960 (M 6952 83)) = 2 ∨ (M 6960 (M 6952 83)) = 3 → im_T g (d - 1) 377 0 [some (.ref 6952), none, none, none, none, none, none, none, none, none, none] [] e M (im_r0 (fun  e_ M14 => e = e_ ∧ K (.inl (some (vI 1))) e M14))) ∧ ((M 6960 (M 6952 83)) = 4 → im_T g (d - 1) 378 0 [some (.ref 6952), some (vI (M 6964 (M 6952 83))), none] [] e M (im_ri (fun x19 e_ M18 => e = e_ ∧ (im_i32 x19) ∧ ((∀ x24 : Int, (((¬ x19 = 1) ∧ x24 = (M18 6966 (M 6952 83))) ∨ ((x19 = 1) ∧ x24 = (M18 6965 (M 6952 83)))) → (im_i32 x24) ∧ K (.inl (some (vI 1))) e (im_u M18 6952 83 x24)))))) ∧ ((M 6960 (M 6952 83)) = 5 → im_T g (d - 1) 406 0 [some (.ref 6952), some (vI (M 6952 83)), none, none, none] [] e M (im_rl (fun x33 e_ M32 => e = e_ ∧ (im_i64 x33) ∧ ((x33 ≤ (M 6952 100) → im_T g (d - 1) 406 0 [some (.ref 6952), some (vI (M 6952 83)), none, none, none] [] e M32 (im_rl (fun x38 e_ M37 => e = e_ ∧ (im_i64 x38) ∧ ((x38 ≤ (M32 6952 99) → K (.inl (some (vI 1))) e (im_u M37 6952 83 (M37 6965 (M 6952 83)))) ∧ ((M32 6952 99) < x38 → im_T g (d - 1) 368 0 [some (.ref 6952), some (vI (-4))] [] e M37 (im_r0 (fun  e_ M42 => e = e_ ∧ K (.inl (some (vI 1))) e (im_u M42 6952 83 (M42 6965 (M 6952 83)))))))))) ∧ ((M 6952 100) < x33 → K (.inl (some (vI 0))) e M32))))) ∧ ((M 6960 (M 6952 83)) = 6 → im_T g (d - 1) 407 0 [some (.ref 6952), none, none, none, none] [] e M (im_r0 (fun  e_ M48 => e = e_ ∧ K (.inl (some (vI 1))) e M48))) ∧ ((M 6960 (M 6952 83)) < 1 ∨ 6 < (M 6960 (M 6952 83)) → im_T g (d - 1) 378 0 [some (.ref 6952), some (vI (M 6964 (M 6952 83))), none] [] e M (im_ri (fun x53 e_ M52 => e = e_ ∧ (im_i32 x53) ∧ ((((x53 = 0 → (((M52 6952 101) = 0 → im_T g (d - 1) 405 0 [some (.ref 6952), some (vI 5), some (vL 0), none, some (vL 0), none, some (vL 0), none, some (vI (-1))] [] e (im_u M52 6952 83 (M52 6965 (M 6952 83))) (im_r0 (fun  e_ M62 => e = e_ ∧ K (.inl (some (vI 1))) e M62))))))) ∧ ((((¬ x53 = 0)) ∨ ((x53 = 0) ∧ (¬ (M52 6952 101) = 0))) → K (.inl (some (vI 1))) e (im_u M52 6952 83 (M52 6965 (M 6952 83)))))))))) : im_T g d 365 0 [some (.ref 6952), none, none, none, none, none, none, none] [] e M K := by
  refine im_ld (q := 1) (i := 0) D365_0 rfl rfl rfl ?_
  refine im_rng (j := 83) sf_6952 (by decide) (by decide) (fun hr1 => ?_)
  refine im_gfI (q := 4) D365_1 (im_fl cn_365 fl_12_858) sf_6952 rfl rfl tI_12_83 rfl ?_
  refine im_st1 (q := 5) (i := 1) (L' := [some (.ref 6952), some (vI (M 6952 83)), none, none, none, none, none, none]) D365_4 (Or.inl ⟨_, rfl, rfl⟩) (Nat.le_of_ble_eq_true rfl) rfl ?_
  refine im_ld (q := 6) (i := 0) D365_5 rfl rfl rfl ?_
  refine im_gfR (q := 9) (b := 6960) D365_6 (im_fl cn_365 fl_12_33) sf_6952 rfl rfl tR_12_21 rf_6952_21 ?_
  refine im_ld (q := 10) (i := 1) D365_9 rfl rfl rfl ?_
  obtain ⟨hg2, hP⟩ := hP
  refine im_rng (j := (M 6952 83)) sf_6960 hg2.1 hg2.2 (fun hr3 => ?_)
  refine im_iald (q := 11) D365_10 sf_6960 hg2.1 hg2.2 (by decide) rfl ?_
  by_cases hc13 : (M 6960 (M 6952 83)) = 1
  · refine im_tsw (q := 12) (t := 48) D365_11 hr3 (fun _ => by rcases hc13 with hc13 <;> (rw [hc13]; rfl)) (by rcases hc13 with hc13 <;> (rw [hc13]; rfl)) ?_
    replace hP := hP.1 hc13
    refine im_ld (q := 49) (i := 0) D365_48 rfl rfl rfl ?_
    refine im_rng (j := 85) sf_6952 (by decide) (by decide) (fun hr4 => ?_)
    refine im_gfI (q := 52) D365_49 (im_fl cn_365 fl_12_864) sf_6952 rfl rfl tI_12_85 rfl ?_
    refine im_ifc (q := 55) (t := 57) D365_52 rfl hr4 (fun hc5 => ?_) (fun hc5 => ?_)
    · replace hP := hP.1 hc5
      refine im_ld (q := 58) (i := 0) D365_57 rfl rfl rfl ?_
      refine im_iconst (q := 59) D365_58 ?_
      refine im_pfZ (q := 62) D365_59 (im_fl cn_365 fl_12_997) sf_6952 rfl rfl tz_12_103 (by decide) ?_
      refine im_ld (q := 63) (i := 0) D365_62 rfl rfl rfl ?_
      refine im_gfR (q := 66) (b := 7013) D365_63 (im_fl cn_365 fl_12_195) sf_6952 rfl rfl tR_12_88 rf_6952_88 ?_
      refine im_iconst (q := 67) D365_66 ?_
      refine im_rng (j := 0) sf_7013 (by decide) (by decide) (fun hr6 => ?_)
      refine im_iald (q := 68) D365_67 sf_7013 (by decide) (by decide) (by decide) (im_rdn _ _ _ _ (by decide)) ?_
      refine im_st1 (q := 69) (i := 2) (L' := [some (.ref 6952), some (vI (M 6952 83)), some (vI (M 7013 0)), none, none, none, none, none]) D365_68 (Or.inl ⟨_, rfl, rfl⟩) (Nat.le_of_ble_eq_true rfl) rfl ?_
      refine im_ld (q := 70) (i := 0) D365_69 rfl rfl rfl ?_
      refine im_gfR (q := 73) (b := 7011) D365_70 (im_fl cn_365 fl_12_189) sf_6952 rfl rfl tR_12_86 rf_6952_86 ?_
      refine im_iconst (q := 74) D365_73 ?_
      refine im_rng (j := 0) sf_7011 (by decide) (by decide) (fun hr7 => ?_)
      refine im_lald (q := 75) D365_74 sf_7011 (by decide) (by decide) (by decide) (im_rdn _ _ _ _ (by decide)) ?_
      refine im_st2 (q := 76) (i := 3) (L' := [some (.ref 6952), some (vI (M 6952 83)), some (vI (M 7013 0)), some (vL (M 7011 0)), none, none, none, none]) D365_75 (Or.inl ⟨_, rfl, rfl⟩) (Nat.le_of_ble_eq_true rfl) rfl ?_
      refine im_ld (q := 77) (i := 0) D365_76 rfl rfl rfl ?_
      refine im_gfR (q := 80) (b := 7012) D365_77 (im_fl cn_365 fl_12_192) sf_6952 rfl rfl tR_12_87 rf_6952_87 ?_
      refine im_iconst (q := 81) D365_80 ?_
      refine im_rng (j := 0) sf_7012 (by decide) (by decide) (fun hr8 => ?_)
      refine im_lald (q := 82) D365_81 sf_7012 (by decide) (by decide) (by decide) (im_rdn _ _ _ _ (by decide)) ?_
      refine im_st2 (q := 84) (i := 5) (L' := [some (.ref 6952), some (vI (M 6952 83)), some (vI (M 7013 0)), some (vL (M 7011 0)), none, some (vL (M 7012 0)), none, none]) D365_82 (Or.inr rfl) (Nat.le_of_ble_eq_true rfl) rfl ?_
      refine im_ld (q := 85) (i := 0) D365_84 rfl rfl rfl ?_
      refine im_iconst (q := 86) D365_85 ?_
      refine im_callV (q := 89) (kd := 1) (y := 366) (n := 1) (ci := 12) (a := 6952) (vs := [.ref 6952, vI 0]) (r := []) (L2 := [some (.ref 6952), some (vI 0), none]) D365_86 (im_cal cn_365 cl_12_991) (Or.inl rfl) rfl sf_6952 rfl rfl rfl rfl hd ⟨rfl, rfl, trivial⟩ ?_
      refine hP.mono ?_
      rintro _ e12 M9 ⟨rfl, rfl, hP⟩
      refine im_bkN ?_
      refine im_ld (q := 90) (i := 0) D365_89 rfl rfl rfl ?_
      refine im_iconst (q := 91) D365_90 ?_
      refine im_ld (q := 92) (i := 3) D365_91 rfl rfl rfl ?_
      refine im_ld (q := 93) (i := 3) D365_92 rfl rfl rfl ?_
      refine im_ld (q := 95) (i := 5) D365_93 rfl rfl rfl ?_
      refine im_ld (q := 96) (i := 2) D365_95 rfl rfl rfl ?_
      refine im_callV (q := 99) (kd := 1) (y := 367) (n := 5) (ci := 12) (a := 6952) (vs := [.ref 6952, vI 0, vL (M 7011 0), vL (M 7011 0), vL (M 7012 0), vI (M 7013 0)]) (r := []) (L2 := [some (.ref 6952), some (vI 0), some (vL (M 7011 0)), none, some (vL (M 7011 0)), none, some (vL (M 7012 0)), none, some (vI (M 7013 0))]) D365_96 (im_cal cn_365 cl_12_994) (Or.inl rfl) rfl sf_6952 rfl rfl rfl rfl hd ⟨rfl, rfl, rfl, rfl, rfl, rfl, trivial⟩ ?_
      refine hP.mono ?_
      rintro _ e11 M10 ⟨rfl, rfl, hP⟩
      refine im_bkN ?_
      refine im_iconst (q := 100) D365_99 ?_
      exact im_zret (q := 101) D365_100 rfl (by decide) hP
    · replace hP := hP.2 (Decidable.not_not.mp hc5)
      refine im_iconst (q := 56) D365_55 ?_
      exact im_zret (q := 57) D365_56 rfl (by decide) hP
  by_cases hc16 : (M 6960 (M 6952 83)) = 2 ∨ (M 6960 (M 6952 83)) = 3
  · refine im_tsw (q := 12) (t := 101) D365_11 hr3 (fun _ => by rcases hc16 with hc16 | hc16 <;> (rw [hc16]; rfl)) (by rcases hc16 with hc16 | hc16 <;> (rw [hc16]; rfl)) ?_
    replace hP := hP.2.1 hc16
    refine im_ld (q := 102) (i := 0) D365_101 rfl rfl rfl ?_
    refine im_callV (q := 105) (kd := 1) (y := 377) (n := 0) (ci := 12) (a := 6952) (vs := [.ref 6952]) (r := []) (L2 := [some (.ref 6952), none, none, none, none, none, none, none, none, none, none]) D365_102 (im_cal cn_365 cl_12_1000) (Or.inl rfl) rfl sf_6952 rfl rfl rfl rfl hd ⟨rfl, trivial⟩ ?_
    refine hP.mono ?_
    rintro _ e15 M14 ⟨rfl, rfl, hP⟩
    refine im_bkN ?_
    refine im_iconst (q := 106) D365_105 ?_
    exact im_zret (q := 107) D365_106 rfl (by decide) hP
  by_cases hc30 : (M 6960 (M 6952 83)) = 4
  · refine im_tsw (q := 12) (t := 107) D365_11 hr3 (fun _ => by rcases hc30 with hc30 <;> (rw [hc30]; rfl)) (by rcases hc30 with hc30 <;> (rw [hc30]; rfl)) ?_
    replace hP := hP.2.2.1 hc30
    refine im_ld (q := 108) (i := 0) D365_107 rfl rfl rfl ?_
    refine im_ld (q := 109) (i := 0) D365_108 rfl rfl rfl ?_
    refine im_ld (q := 110) (i := 0) D365_109 rfl rfl rfl ?_
    refine im_gfR (q := 113) (b := 6964) D365_110 (im_fl cn_365 fl_12_45) sf_6952 rfl rfl tR_12_25 rf_6952_25 ?_
    refine im_ld (q := 114) (i := 1) D365_113 rfl rfl rfl ?_
    refine im_rng (j := (M 6952 83)) sf_6964 hg2.1 hg2.2 (fun hr17 => ?_)
    refine im_iald (q := 115) D365_114 sf_6964 hg2.1 hg2.2 (by decide) rfl ?_
    refine im_callV (q := 118) (kd := 1) (y := 378) (n := 1) (ci := 12) (a := 6952) (vs := [.ref 6952, vI (M 6964 (M 6952 83))]) (r := [.ref 6952]) (L2 := [some (.ref 6952), some (vI (M 6964 (M 6952 83))), none]) D365_115 (im_cal cn_365 cl_12_984) (Or.inl rfl) rfl sf_6952 rfl rfl rfl rfl hd ⟨rfl, rfl, trivial⟩ ?_
    refine hP.mono ?_
    rintro _ e29 M18 ⟨x19, rfl, rfl, hP⟩
    refine im_bkS ?_
    refine im_iconst (q := 119) D365_118 ?_
    obtain ⟨hg20, hP⟩ := hP
    have hJ25 := hP
    have kJ26 : ∀ x24 : Int, (((¬ x19 = 1) ∧ x24 = (M18 6966 (M 6952 83))) ∨ ((x19 = 1) ∧ x24 = (M18 6965 (M 6952 83)))) → im_T g d 365 137 [none, none, none, none, none, none, none, none] [vI x24, .ref 6952] e M18 K := by
      intro x24 hx27
      have hP := hJ25 x24 hx27
      obtain ⟨hg28, hP⟩ := hP
      refine im_pfI (q := 140) D365_137 (im_fl cn_365 fl_12_858) sf_6952 rfl rfl ti_12_83 hg28 ?_
      refine im_iconst (q := 141) D365_140 ?_
      exact im_zret (q := 142) D365_141 rfl (by decide) hP
    refine im_icmp (q := 122) (t := 131) D365_119 rfl hg20 (by decide) (fun hc21 => ?_) (fun hc21 => ?_)
    · refine im_ld (q := 132) (i := 0) D365_131 rfl rfl rfl ?_
      refine im_gfR (q := 135) (b := 6966) D365_132 (im_fl cn_365 fl_12_51) sf_6952 rfl rfl tR_12_27 rf_6952_27 ?_
      refine im_ld (q := 136) (i := 1) D365_135 rfl rfl rfl ?_
      refine im_rng (j := (M 6952 83)) sf_6966 hg2.1 hg2.2 (fun hr22 => ?_)
      refine im_iald (q := 137) D365_136 sf_6966 hg2.1 hg2.2 (by decide) rfl ?_
      exact (kJ26 ((M18 6966 (M 6952 83))) (Or.inl ⟨hc21, rfl⟩)).wk trivial
    · refine im_ld (q := 123) (i := 0) D365_122 rfl rfl rfl ?_
      refine im_gfR (q := 126) (b := 6965) D365_123 (im_fl cn_365 fl_12_48) sf_6952 rfl rfl tR_12_26 rf_6952_26 ?_
      refine im_ld (q := 127) (i := 1) D365_126 rfl rfl rfl ?_
      refine im_rng (j := (M 6952 83)) sf_6965 hg2.1 hg2.2 (fun hr23 => ?_)
      refine im_iald (q := 128) D365_127 sf_6965 hg2.1 hg2.2 (by decide) rfl ?_
      refine im_goto (q := 131) (t := 137) D365_128 rfl ?_
      exact (kJ26 ((M18 6965 (M 6952 83))) (Or.inr ⟨(Decidable.not_not.mp hc21), rfl⟩)).wk trivial
  by_cases hc47 : (M 6960 (M 6952 83)) = 5
  · refine im_tsw (q := 12) (t := 142) D365_11 hr3 (fun _ => by rcases hc47 with hc47 <;> (rw [hc47]; rfl)) (by rcases hc47 with hc47 <;> (rw [hc47]; rfl)) ?_
    replace hP := hP.2.2.2.1 hc47
    refine im_ld (q := 143) (i := 0) D365_142 rfl rfl rfl ?_
    refine im_rng (j := 100) sf_6952 (by decide) (by decide) (fun hr31 => ?_)
    refine im_gfL (q := 146) D365_143 (im_fl cn_365 fl_12_911) sf_6952 rfl rfl tL_12_100 rfl ?_
    refine im_ld (q := 147) (i := 0) D365_146 rfl rfl rfl ?_
    refine im_ld (q := 148) (i := 1) D365_147 rfl rfl rfl ?_
    refine im_callV (q := 151) (kd := 1) (y := 406) (n := 1) (ci := 12) (a := 6952) (vs := [.ref 6952, vI (M 6952 83)]) (r := [vL (M 6952 100)]) (L2 := [some (.ref 6952), some (vI (M 6952 83)), none, none, none]) D365_148 (im_cal cn_365 cl_12_1003) (Or.inl rfl) rfl sf_6952 rfl rfl rfl rfl hd ⟨rfl, rfl, trivial⟩ ?_
    refine hP.mono ?_
    rintro _ e46 M32 ⟨x33, rfl, rfl, hP⟩
    refine im_bkS ?_
    obtain ⟨hg34, hP⟩ := hP
    refine im_lif (q := 152) (q2 := 155) (t := 157) D365_151 D365_152 rfl hr31 hg34 (fun hc35 => ?_) (fun hc35 => ?_)
    · replace hP := hP.1 hc35
      refine im_ld (q := 158) (i := 0) D365_157 rfl rfl rfl ?_
      refine im_rng (j := 99) sf_6952 (by decide) (by decide) (fun hr36 => ?_)
      refine im_gfL (q := 161) D365_158 (im_fl cn_365 fl_12_905) sf_6952 rfl rfl tL_12_99 rfl ?_
      refine im_ld (q := 162) (i := 0) D365_161 rfl rfl rfl ?_
      refine im_ld (q := 163) (i := 1) D365_162 rfl rfl rfl ?_
      refine im_callV (q := 166) (kd := 1) (y := 406) (n := 1) (ci := 12) (a := 6952) (vs := [.ref 6952, vI (M 6952 83)]) (r := [vL (M32 6952 99)]) (L2 := [some (.ref 6952), some (vI (M 6952 83)), none, none, none]) D365_163 (im_cal cn_365 cl_12_1003) (Or.inl rfl) rfl sf_6952 rfl rfl rfl rfl hd ⟨rfl, rfl, trivial⟩ ?_
      refine hP.mono ?_
      rintro _ e45 M37 ⟨x38, rfl, rfl, hP⟩
      refine im_bkS ?_
      obtain ⟨hg39, hP⟩ := hP
      refine im_lif (q := 167) (q2 := 170) (t := 176) D365_166 D365_167 rfl hr36 hg39 (fun hc40 => ?_) (fun hc40 => ?_)
      · replace hP := hP.1 hc40
        refine im_ld (q := 177) (i := 0) D365_176 rfl rfl rfl ?_
        refine im_ld (q := 178) (i := 0) D365_177 rfl rfl rfl ?_
        refine im_gfR (q := 181) (b := 6965) D365_178 (im_fl cn_365 fl_12_48) sf_6952 rfl rfl tR_12_26 rf_6952_26 ?_
        refine im_ld (q := 182) (i := 1) D365_181 rfl rfl rfl ?_
        refine im_rng (j := (M 6952 83)) sf_6965 hg2.1 hg2.2 (fun hr41 => ?_)
        refine im_iald (q := 183) D365_182 sf_6965 hg2.1 hg2.2 (by decide) rfl ?_
        refine im_pfI (q := 186) D365_183 (im_fl cn_365 fl_12_858) sf_6952 rfl rfl ti_12_83 hr41 ?_
        refine im_iconst (q := 187) D365_186 ?_
        exact im_zret (q := 188) D365_187 rfl (by decide) hP
      · replace hP := hP.2 (Int.not_le.mp hc40)
        refine im_ld (q := 171) (i := 0) D365_170 rfl rfl rfl ?_
        refine im_bipush (q := 173) D365_171 rfl ?_
        refine im_callV (q := 176) (kd := 1) (y := 368) (n := 1) (ci := 12) (a := 6952) (vs := [.ref 6952, vI (-4)]) (r := []) (L2 := [some (.ref 6952), some (vI (-4))]) D365_173 (im_cal cn_365 cl_12_959) (Or.inl rfl) rfl sf_6952 rfl rfl rfl rfl hd ⟨rfl, rfl, trivial⟩ ?_
        refine hP.mono ?_
        rintro _ e44 M42 ⟨rfl, rfl, hP⟩
        refine im_bkN ?_
        refine im_ld (q := 177) (i := 0) D365_176 rfl rfl rfl ?_
        refine im_ld (q := 178) (i := 0) D365_177 rfl rfl rfl ?_
        refine im_gfR (q := 181) (b := 6965) D365_178 (im_fl cn_365 fl_12_48) sf_6952 rfl rfl tR_12_26 rf_6952_26 ?_
        refine im_ld (q := 182) (i := 1) D365_181 rfl rfl rfl ?_
        refine im_rng (j := (M 6952 83)) sf_6965 hg2.1 hg2.2 (fun hr43 => ?_)
        refine im_iald (q := 183) D365_182 sf_6965 hg2.1 hg2.2 (by decide) rfl ?_
        refine im_pfI (q := 186) D365_183 (im_fl cn_365 fl_12_858) sf_6952 rfl rfl ti_12_83 hr43 ?_
        refine im_iconst (q := 187) D365_186 ?_
        exact im_zret (q := 188) D365_187 rfl (by decide) hP
    · replace hP := hP.2 (Int.not_le.mp hc35)
      refine im_iconst (q := 156) D365_155 ?_
      exact im_zret (q := 157) D365_156 rfl (by decide) hP
  by_cases hc50 : (M 6960 (M 6952 83)) = 6
  · refine im_tsw (q := 12) (t := 188) D365_11 hr3 (fun _ => by rcases hc50 with hc50 <;> (rw [hc50]; rfl)) (by rcases hc50 with hc50 <;> (rw [hc50]; rfl)) ?_
    replace hP := hP.2.2.2.2.1 hc50
    refine im_ld (q := 189) (i := 0) D365_188 rfl rfl rfl ?_
    refine im_callV (q := 192) (kd := 1) (y := 407) (n := 0) (ci := 12) (a := 6952) (vs := [.ref 6952]) (r := []) (L2 := [some (.ref 6952), none, none, none, none]) D365_189 (im_cal cn_365 cl_12_1006) (Or.inl rfl) rfl sf_6952 rfl rfl rfl rfl hd ⟨rfl, trivial⟩ ?_
    refine hP.mono ?_
    rintro _ e49 M48 ⟨rfl, rfl, hP⟩
    refine im_bkN ?_
    refine im_iconst (q := 193) D365_192 ?_
    exact im_zret (q := 194) D365_193 rfl (by decide) hP
  have hd65 : (M 6960 (M 6952 83)) < 1 ∨ 6 < (M 6960 (M 6952 83)) := by omega
  refine im_tsw (q := 12) (t := 194) D365_11 hr3 (fun z9 => absurd hd65 z9) (by rw [if_pos hd65]; rfl) ?_
  replace hP := hP.2.2.2.2.2 hd65
  refine im_ld (q := 195) (i := 0) D365_194 rfl rfl rfl ?_
  refine im_ld (q := 196) (i := 0) D365_195 rfl rfl rfl ?_
  refine im_gfR (q := 199) (b := 6964) D365_196 (im_fl cn_365 fl_12_45) sf_6952 rfl rfl tR_12_25 rf_6952_25 ?_
  refine im_ld (q := 200) (i := 1) D365_199 rfl rfl rfl ?_
  refine im_rng (j := (M 6952 83)) sf_6964 hg2.1 hg2.2 (fun hr51 => ?_)
  refine im_iald (q := 201) D365_200 sf_6964 hg2.1 hg2.2 (by decide) rfl ?_
  refine im_callV (q := 204) (kd := 1) (y := 378) (n := 1) (ci := 12) (a := 6952) (vs := [.ref 6952, vI (M 6964 (M 6952 83))]) (r := []) (L2 := [some (.ref 6952), some (vI (M 6964 (M 6952 83))), none]) D365_201 (im_cal cn_365 cl_12_984) (Or.inl rfl) rfl sf_6952 rfl rfl rfl rfl hd ⟨rfl, rfl, trivial⟩ ?_
  refine hP.mono ?_
  rintro _ e64 M52 ⟨x53, rfl, rfl, hP⟩
  refine im_bkS ?_
  refine im_st1 (q := 206) (i := 7) (L' := [some (.ref 6952), some (vI (M 6952 83)), none, none, none, none, none, some (vI x53)]) D365_204 (Or.inr rfl) (Nat.le_of_ble_eq_true rfl) rfl ?_
  refine im_ld (q := 207) (i := 0) D365_206 rfl rfl rfl ?_
  refine im_ld (q := 208) (i := 0) D365_207 rfl rfl rfl ?_
  refine im_gfR (q := 211) (b := 6965) D365_208 (im_fl cn_365 fl_12_48) sf_6952 rfl rfl tR_12_26 rf_6952_26 ?_
  refine im_ld (q := 212) (i := 1) D365_211 rfl rfl rfl ?_
  refine im_rng (j := (M 6952 83)) sf_6965 hg2.1 hg2.2 (fun hr54 => ?_)
  refine im_iald (q := 213) D365_212 sf_6965 hg2.1 hg2.2 (by decide) rfl ?_
  refine im_pfI (q := 216) D365_213 (im_fl cn_365 fl_12_858) sf_6952 rfl rfl ti_12_83 hr54 ?_
  refine im_ld (q := 218) (i := 7) D365_216 rfl rfl rfl ?_
  obtain ⟨hg55, hP⟩ := hP
  obtain ⟨hP, hJ59⟩ := hP
  have kJ60 : (((¬ x53 = 0)) ∨ ((x53 = 0) ∧ (¬ (M52 6952 101) = 0))) → im_T g d 365 237 [none, none, none, none, none, none, none, none] [] e (im_u M52 6952 83 (M52 6965 (M 6952 83))) K := by
    intro  hx61
    have hP := hJ59  hx61
    refine im_iconst (q := 238) D365_237 ?_
    exact im_zret (q := 239) D365_238 rfl (by decide) hP
  refine im_ifc (q := 221) (t := 237) D365_218 rfl hg55 (fun hc56 => ?_) (fun hc56 => ?_)
  · exact (kJ60  (Or.inl hc56)).wk trivial
  · replace hP := hP (Decidable.not_not.mp hc56)
    refine im_ld (q := 222) (i := 0) D365_221 rfl rfl rfl ?_
    refine im_rng (j := 101) sf_6952 (by decide) (by decide) (fun hr57 => ?_)
    refine im_gfI (q := 225) D365_222 (im_fl cn_365 fl_12_855) sf_6952 rfl rfl tI_12_101 (im_rdk _ _ _ (by decide)) ?_
    refine im_ifc (q := 228) (t := 237) D365_225 rfl (im_rgc hr57 (im_rdk _ _ _ (by decide))) (fun hc58 => ?_) (fun hc58 => ?_)
    · exact (kJ60  (Or.inr ⟨(Decidable.not_not.mp hc56), hc58⟩)).wk trivial
    · replace hP := hP (Decidable.not_not.mp hc58)
      refine im_ld (q := 229) (i := 0) D365_228 rfl rfl rfl ?_
      refine im_iconst (q := 230) D365_229 ?_
      refine im_lconst (q := 231) (z := 0) D365_230 rfl ?_
      refine im_lconst (q := 232) (z := 0) D365_231 rfl ?_
      refine im_lconst (q := 233) (z := 0) D365_232 rfl ?_
      refine im_iconst (q := 234) D365_233 ?_
      refine im_callV (q := 237) (kd := 1) (y := 405) (n := 5) (ci := 12) (a := 6952) (vs := [.ref 6952, vI 5, vL 0, vL 0, vL 0, vI (-1)]) (r := []) (L2 := [some (.ref 6952), some (vI 5), some (vL 0), none, some (vL 0), none, some (vL 0), none, some (vI (-1))]) D365_234 (im_cal cn_365 cl_12_987) (Or.inl rfl) rfl sf_6952 rfl rfl rfl rfl hd ⟨rfl, rfl, rfl, rfl, rfl, rfl, trivial⟩ ?_
      refine hP.mono ?_
      rintro _ e63 M62 ⟨rfl, rfl, hP⟩
      refine im_bkN ?_
      refine im_iconst (q := 238) D365_237 ?_
      exact im_zret (q := 239) D365_238 rfl (by decide) hP
set_option maxRecDepth 20000 in
set_option maxHeartbeats 4000000 in
theorem b_dropAccount_0 {g : im_g} {d : Nat} {e : im_E} {M : im_M} {K : im_K} {p1 : Int} (hP : (im_i32 ((M 6952 85) - 1)) ∧ im_T g d 366 12 [some (.ref 6952), none, some (vI p1)] [] e (im_u M 6952 85 ((M 6952 85) - 1)) K) : im_T g d 366 0 [some (.ref 6952), some (vI p1), none] [] e M K := by
  refine im_ld (q := 1) (i := 0) D366_0 rfl rfl rfl ?_
  refine im_dup (q := 2) D366_1 rfl ?_
  refine im_rng (j := 85) sf_6952 (by decide) (by decide) (fun hr1 => ?_)
  refine im_gfI (q := 5) D366_2 (im_fl cn_366 fl_12_864) sf_6952 rfl rfl tI_12_85 rfl ?_
  refine im_iconst (q := 6) D366_5 ?_
  refine im_isub (q := 7) D366_6 ?_
  obtain ⟨hg2, hP⟩ := hP
  refine im_pfI (q := 10) D366_7 (im_fl cn_366 fl_12_864) sf_6952 rfl rfl ti_12_85 hg2 ?_
  refine im_ld (q := 11) (i := 1) D366_10 rfl rfl rfl ?_
  refine im_st1 (q := 12) (i := 2) (L' := [some (.ref 6952), some (vI p1), some (vI p1)]) D366_11 (Or.inl ⟨_, rfl, rfl⟩) (Nat.le_of_ble_eq_true rfl) rfl ?_
  exact hP.wk ⟨rfl, rfl, trivial⟩
set_option maxRecDepth 20000 in
set_option maxHeartbeats 4000000 in
theorem b_dropAccount_12 {g : im_g} {d : Nat} {e : im_E} {M : im_M} {K : im_K} {p2 : Int} (hP : (im_i32 p2) ∧ (((M 6952 85) ≤ p2 → K (.inl none) e M) ∧ (p2 < (M 6952 85) → (0 ≤ (p2 + 1) ∧ (p2 + 1) < 41) ∧ (0 ≤ p2 ∧ p2 < 41) ∧ im_T g d 366 12 [some (.ref 6952), none, some (vI (p2 + 1))] [] e (im_u (im_u (im_u M 7011 p2 (M 7011 (p2 + 1))) 7012 p2 (M 7012 (p2 + 1))) 7013 p2 (M 7013 (p2 + 1))) K))) : im_T g d 366 12 [some (.ref 6952), none, some (vI p2)] [] e M K := by
  refine im_ld (q := 13) (i := 2) D366_12 rfl rfl rfl ?_
  refine im_ld (q := 14) (i := 0) D366_13 rfl rfl rfl ?_
  refine im_rng (j := 85) sf_6952 (by decide) (by decide) (fun hr1 => ?_)
  refine im_gfI (q := 17) D366_14 (im_fl cn_366 fl_12_864) sf_6952 rfl rfl tI_12_85 rfl ?_
  obtain ⟨hg2, hP⟩ := hP
  refine im_icmp (q := 20) (t := 68) D366_17 rfl hg2 hr1 (fun hc3 => ?_) (fun hc3 => ?_)
  · replace hP := hP.1 hc3
    exact im_vret (q := 69) D366_68 rfl hP
  · replace hP := hP.2 (Int.not_le.mp hc3)
    refine im_ld (q := 21) (i := 0) D366_20 rfl rfl rfl ?_
    refine im_gfR (q := 24) (b := 7011) D366_21 (im_fl cn_366 fl_12_189) sf_6952 rfl rfl tR_12_86 rf_6952_86 ?_
    refine im_ld (q := 25) (i := 2) D366_24 rfl rfl rfl ?_
    refine im_ld (q := 26) (i := 0) D366_25 rfl rfl rfl ?_
    refine im_gfR (q := 29) (b := 7011) D366_26 (im_fl cn_366 fl_12_189) sf_6952 rfl rfl tR_12_86 rf_6952_86 ?_
    refine im_ld (q := 30) (i := 2) D366_29 rfl rfl rfl ?_
    refine im_iconst (q := 31) D366_30 ?_
    refine im_iadd (q := 32) D366_31 ?_
    obtain ⟨hg4, hP⟩ := hP
    refine im_rng (j := (p2 + 1)) sf_7011 hg4.1 hg4.2 (fun hr5 => ?_)
    refine im_lald (q := 33) D366_32 sf_7011 hg4.1 hg4.2 (by decide) rfl ?_
    obtain ⟨hg6, hP⟩ := hP
    refine im_last (q := 34) D366_33 sf_7011 hg6.1 hg6.2 (by decide) hr5 ?_
    refine im_ld (q := 35) (i := 0) D366_34 rfl rfl rfl ?_
    refine im_gfR (q := 38) (b := 7012) D366_35 (im_fl cn_366 fl_12_192) sf_6952 rfl rfl tR_12_87 rf_6952_87 ?_
    refine im_ld (q := 39) (i := 2) D366_38 rfl rfl rfl ?_
    refine im_ld (q := 40) (i := 0) D366_39 rfl rfl rfl ?_
    refine im_gfR (q := 43) (b := 7012) D366_40 (im_fl cn_366 fl_12_192) sf_6952 rfl rfl tR_12_87 rf_6952_87 ?_
    refine im_ld (q := 44) (i := 2) D366_43 rfl rfl rfl ?_
    refine im_iconst (q := 45) D366_44 ?_
    refine im_iadd (q := 46) D366_45 ?_
    refine im_rng (j := (p2 + 1)) sf_7012 hg4.1 hg4.2 (fun hr7 => ?_)
    refine im_lald (q := 47) D366_46 sf_7012 hg4.1 hg4.2 (by decide) (im_rdn _ _ _ _ (by decide)) ?_
    refine im_last (q := 48) D366_47 sf_7012 hg6.1 hg6.2 (by decide) (im_rgc hr7 (im_rdn _ _ _ _ (by decide))) ?_
    refine im_ld (q := 49) (i := 0) D366_48 rfl rfl rfl ?_
    refine im_gfR (q := 52) (b := 7013) D366_49 (im_fl cn_366 fl_12_195) sf_6952 rfl rfl tR_12_88 rf_6952_88 ?_
    refine im_ld (q := 53) (i := 2) D366_52 rfl rfl rfl ?_
    refine im_ld (q := 54) (i := 0) D366_53 rfl rfl rfl ?_
    refine im_gfR (q := 57) (b := 7013) D366_54 (im_fl cn_366 fl_12_195) sf_6952 rfl rfl tR_12_88 rf_6952_88 ?_
    refine im_ld (q := 58) (i := 2) D366_57 rfl rfl rfl ?_
    refine im_iconst (q := 59) D366_58 ?_
    refine im_iadd (q := 60) D366_59 ?_
    refine im_rng (j := (p2 + 1)) sf_7013 hg4.1 hg4.2 (fun hr8 => ?_)
    refine im_iald (q := 61) D366_60 sf_7013 hg4.1 hg4.2 (by decide) ((im_rdn _ _ _ _ (by decide)).trans (im_rdn _ _ _ _ (by decide))) ?_
    refine im_iast (q := 62) D366_61 sf_7013 hg6.1 hg6.2 (by decide) (im_rgc hr8 ((im_rdn _ _ _ _ (by decide)).trans (im_rdn _ _ _ _ (by decide)))) ?_
    refine im_iinc (q := 65) (i := 2) (L' := [some (.ref 6952), none, some (vI (p2 + 1))]) D366_62 rfl (Nat.le_of_ble_eq_true rfl) rfl ?_
    refine im_goto (q := 68) (t := 12) D366_65 rfl ?_
    exact hP.wk ⟨rfl, rfl, trivial⟩
set_option maxRecDepth 20000 in
set_option maxHeartbeats 4000000 in
theorem b_payOut_0 {g : im_g} {d : Nat} {e : im_E} {M : im_M} {K : im_K} {p1 p2 p4 p6 p8 : Int} (hd : 1 ≤ d) (hP : ((¬ (M 6952 104) = 60 → (0 ≤ (M 6952 104) ∧ (M 6952 104) < 60) ∧ (im_i32 p1) ∧ (im_i64 p2) ∧ (im_i64 p4) ∧ (im_i64 p6) ∧ (im_i32 p8) ∧ (im_i32 ((M 6952 104) + 1)) ∧ ((¬ p1 = 0 → im_T g (d - 1) 374 0 [some (.ref 6952), some (vL p4), none, some (vL p6), none, some (vI p8), none, none] [] e (im_u (im_u (im_u (im_u (im_u (im_u M 7021 (M 6952 104) p1) 7022 (M 6952 104) p2) 7023 (M 6952 104) p4) 7024 (M 6952 104) p6) 7025 (M 6952 104) p8) 6952 104 ((M 6952 104) + 1)) (im_r0 (fun  e_ M17 => e = e_ ∧ K (.inl none) e M17))) ∧ (p1 = 0 → im_T g (d - 1) 369 0 [some (.ref 6952), some (vL p4), none, some (vL p6), none, some (vI p8), none, none] [] e (im_u (im_u (im_u (im_u (im_u (im_u M 7021 (M 6952 104) p1) 7022 (M 6952 104) p2) 7023 (M 6952 104) p4) 7024 (M 6952 104) p6) 7025 (M 6952 104) p8) 6952 104 ((M 6952 104) + 1)) (im_r0 (fun  e_ M19 => e = e_ ∧ K (.inl none) e M19))))) ∧ ((M 6952 104) = 60 → im_T g (d - 1) 368 0 [some (.ref 6952), some (vI (-9))] [] e M (im_r0 (fun  e_ M21 => e = e_ ∧ K (.inl none) e M21))))) : im_T g d 367 0 [some (.ref 6952), some (vI p1), some (vL p2), none, some (vL p4), none, some (vL p6), none, some (vI p8)] [] e M K := by
  refine im_ld (q := 1) (i := 0) D367_0 rfl rfl rfl ?_
  refine im_rng (j := 104) sf_6952 (by decide) (by decide) (fun hr1 => ?_)
  refine im_gfI (q := 4) D367_1 (im_fl cn_367 fl_12_971) sf_6952 rfl rfl tI_12_104 rfl ?_
  refine im_bipush (q := 6) D367_4 rfl ?_
  refine im_icmp (q := 9) (t := 16) D367_6 rfl hr1 (by decide) (fun hc2 => ?_) (fun hc2 => ?_)
  · replace hP := hP.1 hc2
    refine im_ld (q := 17) (i := 0) D367_16 rfl rfl rfl ?_
    refine im_gfR (q := 20) (b := 7021) D367_17 (im_fl cn_367 fl_12_219) sf_6952 rfl rfl tR_12_105 rf_6952_105 ?_
    refine im_ld (q := 21) (i := 0) D367_20 rfl rfl rfl ?_
    refine im_gfI (q := 24) D367_21 (im_fl cn_367 fl_12_971) sf_6952 rfl rfl tI_12_104 rfl ?_
    refine im_ld (q := 25) (i := 1) D367_24 rfl rfl rfl ?_
    obtain ⟨hg4, hP⟩ := hP
    obtain ⟨hg5, hP⟩ := hP
    refine im_iast (q := 26) D367_25 sf_7021 hg4.1 hg4.2 (by decide) hg5 ?_
    refine im_ld (q := 27) (i := 0) D367_26 rfl rfl rfl ?_
    refine im_gfR (q := 30) (b := 7022) D367_27 (im_fl cn_367 fl_12_222) sf_6952 rfl rfl tR_12_106 rf_6952_106 ?_
    refine im_ld (q := 31) (i := 0) D367_30 rfl rfl rfl ?_
    refine im_gfI (q := 34) D367_31 (im_fl cn_367 fl_12_971) sf_6952 rfl rfl tI_12_104 (im_rdn _ _ _ _ (by decide)) ?_
    refine im_ld (q := 35) (i := 2) D367_34 rfl rfl rfl ?_
    obtain ⟨hg7, hP⟩ := hP
    refine im_last (q := 36) D367_35 sf_7022 hg4.1 hg4.2 (by decide) hg7 ?_
    refine im_ld (q := 37) (i := 0) D367_36 rfl rfl rfl ?_
    refine im_gfR (q := 40) (b := 7023) D367_37 (im_fl cn_367 fl_12_225) sf_6952 rfl rfl tR_12_107 rf_6952_107 ?_
    refine im_ld (q := 41) (i := 0) D367_40 rfl rfl rfl ?_
    refine im_gfI (q := 44) D367_41 (im_fl cn_367 fl_12_971) sf_6952 rfl rfl tI_12_104 ((im_rdn _ _ _ _ (by decide)).trans (im_rdn _ _ _ _ (by decide))) ?_
    refine im_ld (q := 46) (i := 4) D367_44 rfl rfl rfl ?_
    obtain ⟨hg9, hP⟩ := hP
    refine im_last (q := 47) D367_46 sf_7023 hg4.1 hg4.2 (by decide) hg9 ?_
    refine im_ld (q := 48) (i := 0) D367_47 rfl rfl rfl ?_
    refine im_gfR (q := 51) (b := 7024) D367_48 (im_fl cn_367 fl_12_228) sf_6952 rfl rfl tR_12_108 rf_6952_108 ?_
    refine im_ld (q := 52) (i := 0) D367_51 rfl rfl rfl ?_
    refine im_gfI (q := 55) D367_52 (im_fl cn_367 fl_12_971) sf_6952 rfl rfl tI_12_104 ((im_rdn _ _ _ _ (by decide)).trans ((im_rdn _ _ _ _ (by decide)).trans (im_rdn _ _ _ _ (by decide)))) ?_
    refine im_ld (q := 57) (i := 6) D367_55 rfl rfl rfl ?_
    obtain ⟨hg11, hP⟩ := hP
    refine im_last (q := 58) D367_57 sf_7024 hg4.1 hg4.2 (by decide) hg11 ?_
    refine im_ld (q := 59) (i := 0) D367_58 rfl rfl rfl ?_
    refine im_gfR (q := 62) (b := 7025) D367_59 (im_fl cn_367 fl_12_231) sf_6952 rfl rfl tR_12_109 rf_6952_109 ?_
    refine im_ld (q := 63) (i := 0) D367_62 rfl rfl rfl ?_
    refine im_gfI (q := 66) D367_63 (im_fl cn_367 fl_12_971) sf_6952 rfl rfl tI_12_104 ((im_rdn _ _ _ _ (by decide)).trans ((im_rdn _ _ _ _ (by decide)).trans ((im_rdn _ _ _ _ (by decide)).trans (im_rdn _ _ _ _ (by decide))))) ?_
    refine im_ld (q := 68) (i := 8) D367_66 rfl rfl rfl ?_
    obtain ⟨hg13, hP⟩ := hP
    refine im_iast (q := 69) D367_68 sf_7025 hg4.1 hg4.2 (by decide) hg13 ?_
    refine im_ld (q := 70) (i := 0) D367_69 rfl rfl rfl ?_
    refine im_dup (q := 71) D367_70 rfl ?_
    refine im_gfI (q := 74) D367_71 (im_fl cn_367 fl_12_971) sf_6952 rfl rfl tI_12_104 ((im_rdn _ _ _ _ (by decide)).trans ((im_rdn _ _ _ _ (by decide)).trans ((im_rdn _ _ _ _ (by decide)).trans ((im_rdn _ _ _ _ (by decide)).trans (im_rdn _ _ _ _ (by decide)))))) ?_
    refine im_iconst (q := 75) D367_74 ?_
    refine im_iadd (q := 76) D367_75 ?_
    obtain ⟨hg15, hP⟩ := hP
    refine im_pfI (q := 79) D367_76 (im_fl cn_367 fl_12_971) sf_6952 rfl rfl ti_12_104 hg15 ?_
    refine im_ld (q := 80) (i := 1) D367_79 rfl rfl rfl ?_
    refine im_ifc (q := 83) (t := 96) D367_80 rfl hg5 (fun hc16 => ?_) (fun hc16 => ?_)
    · replace hP := hP.1 hc16
      refine im_ld (q := 97) (i := 0) D367_96 rfl rfl rfl ?_
      refine im_ld (q := 99) (i := 4) D367_97 rfl rfl rfl ?_
      refine im_ld (q := 101) (i := 6) D367_99 rfl rfl rfl ?_
      refine im_ld (q := 103) (i := 8) D367_101 rfl rfl rfl ?_
      refine im_callV (q := 106) (kd := 1) (y := 374) (n := 3) (ci := 12) (a := 6952) (vs := [.ref 6952, vL p4, vL p6, vI p8]) (r := []) (L2 := [some (.ref 6952), some (vL p4), none, some (vL p6), none, some (vI p8), none, none]) D367_103 (im_cal cn_367 cl_12_978) (Or.inl rfl) rfl sf_6952 rfl rfl rfl rfl hd ⟨rfl, rfl, rfl, rfl, trivial⟩ ?_
      refine hP.mono ?_
      rintro _ e18 M17 ⟨rfl, rfl, hP⟩
      refine im_bkN ?_
      exact im_vret (q := 107) D367_106 rfl hP
    · replace hP := hP.2 (Decidable.not_not.mp hc16)
      refine im_ld (q := 84) (i := 0) D367_83 rfl rfl rfl ?_
      refine im_ld (q := 86) (i := 4) D367_84 rfl rfl rfl ?_
      refine im_ld (q := 88) (i := 6) D367_86 rfl rfl rfl ?_
      refine im_ld (q := 90) (i := 8) D367_88 rfl rfl rfl ?_
      refine im_callV (q := 93) (kd := 1) (y := 369) (n := 3) (ci := 12) (a := 6952) (vs := [.ref 6952, vL p4, vL p6, vI p8]) (r := []) (L2 := [some (.ref 6952), some (vL p4), none, some (vL p6), none, some (vI p8), none, none]) D367_90 (im_cal cn_367 cl_12_974) (Or.inl rfl) rfl sf_6952 rfl rfl rfl rfl hd ⟨rfl, rfl, rfl, rfl, trivial⟩ ?_
      refine hP.mono ?_
      rintro _ e20 M19 ⟨rfl, rfl, hP⟩
      refine im_bkN ?_
      refine im_goto (q := 96) (t := 106) D367_93 rfl ?_
      exact im_vret (q := 107) D367_106 rfl hP
  · replace hP := hP.2 (Decidable.not_not.mp hc2)
    refine im_ld (q := 10) (i := 0) D367_9 rfl rfl rfl ?_
    refine im_bipush (q := 12) D367_10 rfl ?_
    refine im_callV (q := 15) (kd := 1) (y := 368) (n := 1) (ci := 12) (a := 6952) (vs := [.ref 6952, vI (-9)]) (r := []) (L2 := [some (.ref 6952), some (vI (-9))]) D367_12 (im_cal cn_367 cl_12_959) (Or.inl rfl) rfl sf_6952 rfl rfl rfl rfl hd ⟨rfl, rfl, trivial⟩ ?_
    refine hP.mono ?_
    rintro _ e22 M21 ⟨rfl, rfl, hP⟩
    refine im_bkN ?_
    exact im_vret (q := 16) D367_15 rfl hP
set_option maxRecDepth 20000 in
set_option maxHeartbeats 4000000 in
theorem b_refuse_0 {g : im_g} {d : Nat} {e : im_E} {M : im_M} {K : im_K} {p1 : Int} (hP : ((∀ x4 : Int, (((¬ (M 6952 101) = 0) ∧ x4 = (M 6952 101)) ∨ (((M 6952 101) = 0) ∧ x4 = p1)) → (im_i32 x4) ∧ K (.inl none) e (im_u M 6952 101 x4)))) : im_T g d 368 0 [some (.ref 6952), some (vI p1)] [] e M K := by
  refine im_ld (q := 1) (i := 0) D368_0 rfl rfl rfl ?_
  refine im_ld (q := 2) (i := 0) D368_1 rfl rfl rfl ?_
  refine im_rng (j := 101) sf_6952 (by decide) (by decide) (fun hr1 => ?_)
  refine im_gfI (q := 5) D368_2 (im_fl cn_368 fl_12_855) sf_6952 rfl rfl tI_12_101 rfl ?_
  have hJ5 := hP
  have kJ6 : ∀ x4 : Int, (((¬ (M 6952 101) = 0) ∧ x4 = (M 6952 101)) ∨ (((M 6952 101) = 0) ∧ x4 = p1)) → im_T g d 368 16 [none, none] [vI x4, .ref 6952] e M K := by
    intro x4 hx7
    have hP := hJ5 x4 hx7
    obtain ⟨hg8, hP⟩ := hP
    refine im_pfI (q := 19) D368_16 (im_fl cn_368 fl_12_855) sf_6952 rfl rfl ti_12_101 hg8 ?_
    exact im_vret (q := 20) D368_19 rfl hP
  refine im_ifc (q := 8) (t := 12) D368_5 rfl hr1 (fun hc2 => ?_) (fun hc2 => ?_)
  · refine im_ld (q := 13) (i := 0) D368_12 rfl rfl rfl ?_
    refine im_gfI (q := 16) D368_13 (im_fl cn_368 fl_12_855) sf_6952 rfl rfl tI_12_101 rfl ?_
    exact (kJ6 ((M 6952 101)) (Or.inl ⟨hc2, rfl⟩)).wk trivial
  · refine im_ld (q := 9) (i := 1) D368_8 rfl rfl rfl ?_
    refine im_goto (q := 12) (t := 16) D368_9 rfl ?_
    exact (kJ6 (p1) (Or.inr ⟨(Decidable.not_not.mp hc2), rfl⟩)).wk trivial
set_option maxRecDepth 20000 in
set_option maxHeartbeats 4000000 in
theorem b_toWallet_0 {g : im_g} {d : Nat} {e : im_E} {M : im_M} {K : im_K} {p1 p3 p5 : Int} (hd : 1 ≤ d) (hP : im_T g (d - 1) 370 0 [some (.ref 6952), some (vL p1), none, some (vL p3), none, none] [] e M (im_ri (fun x2 e_ M1 => e = e_ ∧ (((M1 6952 102) = 0 → (im_i32 x2) ∧ ((x2 = (-1) → ((¬ (M1 6952 116) = 60 → (0 ≤ (M1 6952 116) ∧ (M1 6952 116) < 61) ∧ (im_i64 p1) ∧ (im_i64 p3) ∧ (im_i32 p5) ∧ (im_i32 ((M1 6952 116) + 1)) ∧ K (.inl none) e (im_u (im_u (im_u (im_u M1 7031 (M1 6952 116) p1) 7032 (M1 6952 116) p3) 7033 (M1 6952 116) p5) 6952 116 ((M1 6952 116) + 1))) ∧ ((M1 6952 116) = 60 → im_T g (d - 1) 368 0 [some (.ref 6952), some (vI (-9))] [] e M1 (im_r0 (fun  e_ M20 => e = e_ ∧ K (.inl none) e M20))))) ∧ (¬ x2 = (-1) → (0 ≤ x2 ∧ x2 < 61) ∧ im_T g (d - 1) 371 0 [some (.ref 6952), some (vI (M1 7033 x2)), some (vI p5), some (vI 1), none] [] e M1 (im_ri (fun x23 e_ M22 => e = e_ ∧ ((∀ x27 : Int, (((¬ (M22 6952 101) = 0) ∧ x27 = (M22 7033 x2)) ∨ (((M22 6952 101) = 0) ∧ x27 = x23)) → (im_i32 x27) ∧ K (.inl none) e (im_u M22 7033 x2 x27)))))))) ∧ (¬ (M1 6952 102) = 0 → K (.inl none) e M1))))) : im_T g d 369 0 [some (.ref 6952), some (vL p1), none, some (vL p3), none, some (vI p5), none, none] [] e M K := by
  refine im_ld (q := 1) (i := 0) D369_0 rfl rfl rfl ?_
  refine im_ld (q := 2) (i := 1) D369_1 rfl rfl rfl ?_
  refine im_ld (q := 3) (i := 3) D369_2 rfl rfl rfl ?_
  refine im_callV (q := 6) (kd := 1) (y := 370) (n := 2) (ci := 12) (a := 6952) (vs := [.ref 6952, vL p1, vL p3]) (r := []) (L2 := [some (.ref 6952), some (vL p1), none, some (vL p3), none, none]) D369_3 (im_cal cn_369 cl_12_968) (Or.inl rfl) rfl sf_6952 rfl rfl rfl rfl hd ⟨rfl, rfl, rfl, trivial⟩ ?_
  refine hP.mono ?_
  rintro _ e33 M1 ⟨x2, rfl, rfl, hP⟩
  refine im_bkS ?_
  refine im_st1 (q := 8) (i := 6) (L' := [some (.ref 6952), some (vL p1), none, some (vL p3), none, some (vI p5), some (vI x2), none]) D369_6 (Or.inr rfl) (Nat.le_of_ble_eq_true rfl) rfl ?_
  refine im_ld (q := 9) (i := 0) D369_8 rfl rfl rfl ?_
  refine im_rng (j := 102) sf_6952 (by decide) (by decide) (fun hr3 => ?_)
  refine im_gfI (q := 12) D369_9 (im_fl cn_369 fl_12_941) sf_6952 rfl rfl tI_12_102 rfl ?_
  refine im_ifc (q := 15) (t := 16) D369_12 rfl (im_z32 hr3) (fun hc4 => ?_) (fun hc4 => ?_)
  · replace hP := hP.1 hc4
    refine im_ld (q := 18) (i := 6) D369_16 rfl rfl rfl ?_
    refine im_iconst (q := 19) D369_18 ?_
    obtain ⟨hg5, hP⟩ := hP
    refine im_icmp (q := 22) (t := 65) D369_19 rfl hg5 (by decide) (fun hc6 => ?_) (fun hc6 => ?_)
    · replace hP := hP.1 hc6
      refine im_ld (q := 66) (i := 0) D369_65 rfl rfl rfl ?_
      refine im_rng (j := 116) sf_6952 (by decide) (by decide) (fun hr7 => ?_)
      refine im_gfI (q := 69) D369_66 (im_fl cn_369 fl_12_965) sf_6952 rfl rfl tI_12_116 rfl ?_
      refine im_bipush (q := 71) D369_69 rfl ?_
      refine im_icmp (q := 74) (t := 81) D369_71 rfl hr7 (by decide) (fun hc8 => ?_) (fun hc8 => ?_)
      · replace hP := hP.1 hc8
        refine im_ld (q := 82) (i := 0) D369_81 rfl rfl rfl ?_
        refine im_gfR (q := 85) (b := 7031) D369_82 (im_fl cn_369 fl_12_249) sf_6952 rfl rfl tR_12_117 rf_6952_117 ?_
        refine im_ld (q := 86) (i := 0) D369_85 rfl rfl rfl ?_
        refine im_gfI (q := 89) D369_86 (im_fl cn_369 fl_12_965) sf_6952 rfl rfl tI_12_116 rfl ?_
        refine im_ld (q := 90) (i := 1) D369_89 rfl rfl rfl ?_
        obtain ⟨hg12, hP⟩ := hP
        obtain ⟨hg13, hP⟩ := hP
        refine im_last (q := 91) D369_90 sf_7031 hg12.1 hg12.2 (by decide) hg13 ?_
        refine im_ld (q := 92) (i := 0) D369_91 rfl rfl rfl ?_
        refine im_gfR (q := 95) (b := 7032) D369_92 (im_fl cn_369 fl_12_252) sf_6952 rfl rfl tR_12_118 rf_6952_118 ?_
        refine im_ld (q := 96) (i := 0) D369_95 rfl rfl rfl ?_
        refine im_gfI (q := 99) D369_96 (im_fl cn_369 fl_12_965) sf_6952 rfl rfl tI_12_116 (im_rdn _ _ _ _ (by decide)) ?_
        refine im_ld (q := 100) (i := 3) D369_99 rfl rfl rfl ?_
        obtain ⟨hg15, hP⟩ := hP
        refine im_last (q := 101) D369_100 sf_7032 hg12.1 hg12.2 (by decide) hg15 ?_
        refine im_ld (q := 102) (i := 0) D369_101 rfl rfl rfl ?_
        refine im_gfR (q := 105) (b := 7033) D369_102 (im_fl cn_369 fl_12_255) sf_6952 rfl rfl tR_12_119 rf_6952_119 ?_
        refine im_ld (q := 106) (i := 0) D369_105 rfl rfl rfl ?_
        refine im_gfI (q := 109) D369_106 (im_fl cn_369 fl_12_965) sf_6952 rfl rfl tI_12_116 ((im_rdn _ _ _ _ (by decide)).trans (im_rdn _ _ _ _ (by decide))) ?_
        refine im_ld (q := 111) (i := 5) D369_109 rfl rfl rfl ?_
        obtain ⟨hg17, hP⟩ := hP
        refine im_iast (q := 112) D369_111 sf_7033 hg12.1 hg12.2 (by decide) hg17 ?_
        refine im_ld (q := 113) (i := 0) D369_112 rfl rfl rfl ?_
        refine im_dup (q := 114) D369_113 rfl ?_
        refine im_gfI (q := 117) D369_114 (im_fl cn_369 fl_12_965) sf_6952 rfl rfl tI_12_116 ((im_rdn _ _ _ _ (by decide)).trans ((im_rdn _ _ _ _ (by decide)).trans (im_rdn _ _ _ _ (by decide)))) ?_
        refine im_iconst (q := 118) D369_117 ?_
        refine im_iadd (q := 119) D369_118 ?_
        obtain ⟨hg19, hP⟩ := hP
        refine im_pfI (q := 122) D369_119 (im_fl cn_369 fl_12_965) sf_6952 rfl rfl ti_12_116 hg19 ?_
        exact im_vret (q := 123) D369_122 rfl hP
      · replace hP := hP.2 (Decidable.not_not.mp hc8)
        refine im_ld (q := 75) (i := 0) D369_74 rfl rfl rfl ?_
        refine im_bipush (q := 77) D369_75 rfl ?_
        refine im_callV (q := 80) (kd := 1) (y := 368) (n := 1) (ci := 12) (a := 6952) (vs := [.ref 6952, vI (-9)]) (r := []) (L2 := [some (.ref 6952), some (vI (-9))]) D369_77 (im_cal cn_369 cl_12_959) (Or.inl rfl) rfl sf_6952 rfl rfl rfl rfl hd ⟨rfl, rfl, trivial⟩ ?_
        refine hP.mono ?_
        rintro _ e21 M20 ⟨rfl, rfl, hP⟩
        refine im_bkN ?_
        exact im_vret (q := 81) D369_80 rfl hP
    · replace hP := hP.2 hc6
      refine im_ld (q := 23) (i := 0) D369_22 rfl rfl rfl ?_
      refine im_ld (q := 24) (i := 0) D369_23 rfl rfl rfl ?_
      refine im_gfR (q := 27) (b := 7033) D369_24 (im_fl cn_369 fl_12_255) sf_6952 rfl rfl tR_12_119 rf_6952_119 ?_
      refine im_ld (q := 29) (i := 6) D369_27 rfl rfl rfl ?_
      obtain ⟨hg10, hP⟩ := hP
      refine im_rng (j := x2) sf_7033 hg10.1 hg10.2 (fun hr11 => ?_)
      refine im_iald (q := 30) D369_29 sf_7033 hg10.1 hg10.2 (by decide) rfl ?_
      refine im_ld (q := 32) (i := 5) D369_30 rfl rfl rfl ?_
      refine im_iconst (q := 33) D369_32 ?_
      refine im_callV (q := 36) (kd := 1) (y := 371) (n := 3) (ci := 12) (a := 6952) (vs := [.ref 6952, vI (M1 7033 x2), vI p5, vI 1]) (r := []) (L2 := [some (.ref 6952), some (vI (M1 7033 x2)), some (vI p5), some (vI 1), none]) D369_33 (im_cal cn_369 cl_12_962) (Or.inl rfl) rfl sf_6952 rfl rfl rfl rfl hd ⟨rfl, rfl, rfl, rfl, trivial⟩ ?_
      refine hP.mono ?_
      rintro _ e32 M22 ⟨x23, rfl, rfl, hP⟩
      refine im_bkS ?_
      refine im_st1 (q := 38) (i := 7) (L' := [some (.ref 6952), some (vL p1), none, some (vL p3), none, some (vI p5), some (vI x2), some (vI x23)]) D369_36 (Or.inr rfl) (Nat.le_of_ble_eq_true rfl) rfl ?_
      refine im_ld (q := 39) (i := 0) D369_38 rfl rfl rfl ?_
      refine im_gfR (q := 42) (b := 7033) D369_39 (im_fl cn_369 fl_12_255) sf_6952 rfl rfl tR_12_119 rf_6952_119 ?_
      refine im_ld (q := 44) (i := 6) D369_42 rfl rfl rfl ?_
      refine im_ld (q := 45) (i := 0) D369_44 rfl rfl rfl ?_
      refine im_rng (j := 101) sf_6952 (by decide) (by decide) (fun hr24 => ?_)
      refine im_gfI (q := 48) D369_45 (im_fl cn_369 fl_12_855) sf_6952 rfl rfl tI_12_101 rfl ?_
      have hJ28 := hP
      have kJ29 : ∀ x27 : Int, (((¬ (M22 6952 101) = 0) ∧ x27 = (M22 7033 x2)) ∨ (((M22 6952 101) = 0) ∧ x27 = x23)) → im_T g d 369 63 [none, none, none, none, none, none, none, none] [vI x27, vI x2, .ref 7033] e M22 K := by
        intro x27 hx30
        have hP := hJ28 x27 hx30
        obtain ⟨hg31, hP⟩ := hP
        refine im_iast (q := 64) D369_63 sf_7033 hg10.1 hg10.2 (by decide) hg31 ?_
        exact im_vret (q := 65) D369_64 rfl hP
      refine im_ifc (q := 51) (t := 56) D369_48 rfl hr24 (fun hc25 => ?_) (fun hc25 => ?_)
      · refine im_ld (q := 57) (i := 0) D369_56 rfl rfl rfl ?_
        refine im_gfR (q := 60) (b := 7033) D369_57 (im_fl cn_369 fl_12_255) sf_6952 rfl rfl tR_12_119 rf_6952_119 ?_
        refine im_ld (q := 62) (i := 6) D369_60 rfl rfl rfl ?_
        refine im_rng (j := x2) sf_7033 hg10.1 hg10.2 (fun hr26 => ?_)
        refine im_iald (q := 63) D369_62 sf_7033 hg10.1 hg10.2 (by decide) rfl ?_
        exact (kJ29 ((M22 7033 x2)) (Or.inl ⟨hc25, rfl⟩)).wk trivial
      · refine im_ld (q := 53) (i := 7) D369_51 rfl rfl rfl ?_
        refine im_goto (q := 56) (t := 63) D369_53 rfl ?_
        exact (kJ29 (x23) (Or.inr ⟨(Decidable.not_not.mp hc25), rfl⟩)).wk trivial
  · replace hP := hP.2 hc4
    exact im_vret (q := 16) D369_15 rfl hP
set_option maxRecDepth 20000 in
set_option maxHeartbeats 4000000 in
theorem b_walletAt_0 {g : im_g} {d : Nat} {e : im_E} {M : im_M} {K : im_K} {p1 p3 : Int} (hP : im_T g d 370 3 [some (.ref 6952), some (vL p1), none, some (vL p3), none, some (vI 0)] [] e M K) : im_T g d 370 0 [some (.ref 6952), some (vL p1), none, some (vL p3), none, none] [] e M K := by
  refine im_iconst (q := 1) D370_0 ?_
  refine im_st1 (q := 3) (i := 5) (L' := [some (.ref 6952), some (vL p1), none, some (vL p3), none, some (vI 0)]) D370_1 (Or.inr rfl) (Nat.le_of_ble_eq_true rfl) rfl ?_
  exact hP.wk ⟨rfl, rfl, rfl, rfl, trivial⟩
set_option maxRecDepth 20000 in
set_option maxHeartbeats 4000000 in
theorem b_walletAt_3 {g : im_g} {d : Nat} {e : im_E} {M : im_M} {K : im_K} {p1 p3 p5 : Int} (hP : (im_i32 p5) ∧ (((((M 6952 116) ≤ p5 → K (.inl (some (vI (-1)))) e M) ∧ (p5 < (M 6952 116) → (0 ≤ p5 ∧ p5 < 61) ∧ (im_i64 p1) ∧ (((M 7031 p5) = p1 → (im_i64 p3) ∧ (((M 7032 p5) = p3 → K (.inl (some (vI p5))) e M))))))) ∧ ((((p5 < (M 6952 116)) ∧ (¬ (M 7031 p5) = p1)) ∨ ((p5 < (M 6952 116)) ∧ ((M 7031 p5) = p1) ∧ (¬ (M 7032 p5) = p3))) → im_T g d 370 3 [some (.ref 6952), some (vL p1), none, some (vL p3), none, some (vI (p5 + 1))] [] e M K))) : im_T g d 370 3 [some (.ref 6952), some (vL p1), none, some (vL p3), none, some (vI p5)] [] e M K := by
  refine im_ld (q := 5) (i := 5) D370_3 rfl rfl rfl ?_
  refine im_ld (q := 6) (i := 0) D370_5 rfl rfl rfl ?_
  refine im_rng (j := 116) sf_6952 (by decide) (by decide) (fun hr1 => ?_)
  refine im_gfI (q := 9) D370_6 (im_fl cn_370 fl_12_965) sf_6952 rfl rfl tI_12_116 rfl ?_
  obtain ⟨hg2, hP⟩ := hP
  obtain ⟨hP, hJ11⟩ := hP
  have kJ12 : (((p5 < (M 6952 116)) ∧ (¬ (M 7031 p5) = p1)) ∨ ((p5 < (M 6952 116)) ∧ ((M 7031 p5) = p1) ∧ (¬ (M 7032 p5) = p3))) → im_T g d 370 39 [some (.ref 6952), some (vL p1), none, some (vL p3), none, some (vI p5)] [] e M K := by
    intro  hx13
    have hP := hJ11  hx13
    refine im_iinc (q := 42) (i := 5) (L' := [some (.ref 6952), some (vL p1), none, some (vL p3), none, some (vI (p5 + 1))]) D370_39 rfl (Nat.le_of_ble_eq_true rfl) rfl ?_
    refine im_goto (q := 45) (t := 3) D370_42 rfl ?_
    exact hP.wk ⟨rfl, rfl, rfl, rfl, trivial⟩
  refine im_icmp (q := 12) (t := 45) D370_9 rfl hg2 hr1 (fun hc3 => ?_) (fun hc3 => ?_)
  · replace hP := hP.1 hc3
    refine im_iconst (q := 46) D370_45 ?_
    exact im_iret (q := 47) D370_46 rfl hP
  · replace hP := hP.2 (Int.not_le.mp hc3)
    refine im_ld (q := 13) (i := 0) D370_12 rfl rfl rfl ?_
    refine im_gfR (q := 16) (b := 7031) D370_13 (im_fl cn_370 fl_12_249) sf_6952 rfl rfl tR_12_117 rf_6952_117 ?_
    refine im_ld (q := 18) (i := 5) D370_16 rfl rfl rfl ?_
    obtain ⟨hg4, hP⟩ := hP
    refine im_rng (j := p5) sf_7031 hg4.1 hg4.2 (fun hr5 => ?_)
    refine im_lald (q := 19) D370_18 sf_7031 hg4.1 hg4.2 (by decide) rfl ?_
    refine im_ld (q := 20) (i := 1) D370_19 rfl rfl rfl ?_
    obtain ⟨hg6, hP⟩ := hP
    refine im_lif (q := 21) (q2 := 24) (t := 39) D370_20 D370_21 rfl hr5 hg6 (fun hc7 => ?_) (fun hc7 => ?_)
    · exact (kJ12  (Or.inl ⟨(Int.not_le.mp hc3), hc7⟩)).wk ⟨rfl, rfl, rfl, rfl, trivial⟩
    · replace hP := hP (Decidable.not_not.mp hc7)
      refine im_ld (q := 25) (i := 0) D370_24 rfl rfl rfl ?_
      refine im_gfR (q := 28) (b := 7032) D370_25 (im_fl cn_370 fl_12_252) sf_6952 rfl rfl tR_12_118 rf_6952_118 ?_
      refine im_ld (q := 30) (i := 5) D370_28 rfl rfl rfl ?_
      refine im_rng (j := p5) sf_7032 hg4.1 hg4.2 (fun hr8 => ?_)
      refine im_lald (q := 31) D370_30 sf_7032 hg4.1 hg4.2 (by decide) rfl ?_
      refine im_ld (q := 32) (i := 3) D370_31 rfl rfl rfl ?_
      obtain ⟨hg9, hP⟩ := hP
      refine im_lif (q := 33) (q2 := 36) (t := 39) D370_32 D370_33 rfl hr8 hg9 (fun hc10 => ?_) (fun hc10 => ?_)
      · exact (kJ12  (Or.inr ⟨(Int.not_le.mp hc3), (Decidable.not_not.mp hc7), hc10⟩)).wk ⟨rfl, rfl, rfl, rfl, trivial⟩
      · replace hP := hP (Decidable.not_not.mp hc10)
        refine im_ld (q := 38) (i := 5) D370_36 rfl rfl rfl ?_
        exact im_iret (q := 39) D370_38 rfl hP
set_option maxRecDepth 20000 in
set_option maxHeartbeats 4000000 in
theorem b_sum_0 {g : im_g} {d : Nat} {e : im_E} {M : im_M} {K : im_K} {p1 p2 p3 : Int} (hd : 1 ≤ d) (hP : im_T g (d - 1) 372 0 [some (.ref 6952), some (vI p1), some (vI p2), some (vI p3), none, none, none, none, none, none, none, none, none] [] e (im_u M 6952 8 0) (im_ri (fun x2 e_ M1 => e = e_ ∧ (((M1 6952 8) = 0 → K (.inl (some (vI x2))) e M1) ∧ (¬ (M1 6952 8) = 0 → im_T g (d - 1) 368 0 [some (.ref 6952), some (vI (-8))] [] e M1 (im_r0 (fun  e_ M5 => e = e_ ∧ K (.inl (some (vI x2))) e M5))))))) : im_T g d 371 0 [some (.ref 6952), some (vI p1), some (vI p2), some (vI p3), none] [] e M K := by
  refine im_ld (q := 1) (i := 0) D371_0 rfl rfl rfl ?_
  refine im_iconst (q := 2) D371_1 ?_
  refine im_pfZ (q := 5) D371_2 (im_fl cn_371 fl_12_452) sf_6952 rfl rfl tz_12_8 (by decide) ?_
  refine im_ld (q := 6) (i := 0) D371_5 rfl rfl rfl ?_
  refine im_ld (q := 7) (i := 1) D371_6 rfl rfl rfl ?_
  refine im_ld (q := 8) (i := 2) D371_7 rfl rfl rfl ?_
  refine im_ld (q := 9) (i := 3) D371_8 rfl rfl rfl ?_
  refine im_callV (q := 12) (kd := 1) (y := 372) (n := 3) (ci := 12) (a := 6952) (vs := [.ref 6952, vI p1, vI p2, vI p3]) (r := []) (L2 := [some (.ref 6952), some (vI p1), some (vI p2), some (vI p3), none, none, none, none, none, none, none, none, none]) D371_9 (im_cal cn_371 cl_12_914) (Or.inl rfl) rfl sf_6952 rfl rfl rfl rfl hd ⟨rfl, rfl, rfl, rfl, trivial⟩ ?_
  refine hP.mono ?_
  rintro _ e7 M1 ⟨x2, rfl, rfl, hP⟩
  refine im_bkS ?_
  refine im_st1 (q := 14) (i := 4) (L' := [some (.ref 6952), some (vI p1), some (vI p2), some (vI p3), some (vI x2)]) D371_12 (Or.inr rfl) (Nat.le_of_ble_eq_true rfl) rfl ?_
  refine im_ld (q := 15) (i := 0) D371_14 rfl rfl rfl ?_
  refine im_rng (j := 8) sf_6952 (by decide) (by decide) (fun hr3 => ?_)
  refine im_gfI (q := 18) D371_15 (im_fl cn_371 fl_12_452) sf_6952 rfl rfl tI_12_8 rfl ?_
  refine im_ifc (q := 21) (t := 27) D371_18 rfl (im_z32 hr3) (fun hc4 => ?_) (fun hc4 => ?_)
  · replace hP := hP.1 hc4
    refine im_ld (q := 29) (i := 4) D371_27 rfl rfl rfl ?_
    exact im_iret (q := 30) D371_29 rfl hP
  · replace hP := hP.2 hc4
    refine im_ld (q := 22) (i := 0) D371_21 rfl rfl rfl ?_
    refine im_bipush (q := 24) D371_22 rfl ?_
    refine im_callV (q := 27) (kd := 1) (y := 368) (n := 1) (ci := 12) (a := 6952) (vs := [.ref 6952, vI (-8)]) (r := []) (L2 := [some (.ref 6952), some (vI (-8))]) D371_24 (im_cal cn_371 cl_12_959) (Or.inl rfl) rfl sf_6952 rfl rfl rfl rfl hd ⟨rfl, rfl, trivial⟩ ?_
    refine hP.mono ?_
    rintro _ e6 M5 ⟨rfl, rfl, hP⟩
    refine im_bkN ?_
    refine im_ld (q := 29) (i := 4) D371_27 rfl rfl rfl ?_
    exact im_iret (q := 30) D371_29 rfl hP
set_option maxRecDepth 20000 in
set_option maxHeartbeats 4000000 in
theorem b_toAccount_0 {g : im_g} {d : Nat} {e : im_E} {M : im_M} {K : im_K} {p1 p3 p5 : Int} (hd : 1 ≤ d) (hP : im_T g (d - 1) 375 0 [some (.ref 6952), some (vL p1), none, some (vL p3), none, none] [] e M (im_ri (fun x2 e_ M1 => e = e_ ∧ im_T g (d - 1) 376 0 [some (.ref 6952), some (vL p1), none, some (vL p3), none, none] [] e M1 (im_ri (fun x4 e_ M3 => e = e_ ∧ (im_i32 x4) ∧ ((x4 = 0 → ((¬ (M3 6952 85) = 40 → im_T g d 374 82 [some (.ref 6952), some (vL p1), none, some (vL p3), none, some (vI p5), some (vI x2), some (vI (M3 6952 85))] [] e M3 K) ∧ ((M3 6952 85) = 40 → im_T g (d - 1) 368 0 [some (.ref 6952), some (vI (-9))] [] e M3 (im_r0 (fun  e_ M12 => e = e_ ∧ K (.inl none) e M12))))) ∧ (¬ x4 = 0 → (0 ≤ x2 ∧ x2 < 41) ∧ im_T g (d - 1) 371 0 [some (.ref 6952), some (vI (M3 7013 x2)), some (vI p5), some (vI 1), none] [] e M3 (im_ri (fun x15 e_ M14 => e = e_ ∧ ((∀ x19 : Int, (((¬ (M14 6952 101) = 0) ∧ x19 = (M14 7013 x2)) ∨ (((M14 6952 101) = 0) ∧ x19 = x15)) → (im_i32 x19) ∧ K (.inl none) e (im_u M14 7013 x2 x19)))))))))))) : im_T g d 374 0 [some (.ref 6952), some (vL p1), none, some (vL p3), none, some (vI p5), none, none] [] e M K := by
  refine im_ld (q := 1) (i := 0) D374_0 rfl rfl rfl ?_
  refine im_ld (q := 2) (i := 1) D374_1 rfl rfl rfl ?_
  refine im_ld (q := 3) (i := 3) D374_2 rfl rfl rfl ?_
  refine im_callV (q := 6) (kd := 1) (y := 375) (n := 2) (ci := 12) (a := 6952) (vs := [.ref 6952, vL p1, vL p3]) (r := []) (L2 := [some (.ref 6952), some (vL p1), none, some (vL p3), none, none]) D374_3 (im_cal cn_374 cl_12_876) (Or.inl rfl) rfl sf_6952 rfl rfl rfl rfl hd ⟨rfl, rfl, rfl, trivial⟩ ?_
  refine hP.mono ?_
  rintro _ e26 M1 ⟨x2, rfl, rfl, hP⟩
  refine im_bkS ?_
  refine im_st1 (q := 8) (i := 6) (L' := [some (.ref 6952), some (vL p1), none, some (vL p3), none, some (vI p5), some (vI x2), none]) D374_6 (Or.inr rfl) (Nat.le_of_ble_eq_true rfl) rfl ?_
  refine im_ld (q := 9) (i := 0) D374_8 rfl rfl rfl ?_
  refine im_ld (q := 10) (i := 1) D374_9 rfl rfl rfl ?_
  refine im_ld (q := 11) (i := 3) D374_10 rfl rfl rfl ?_
  refine im_callV (q := 14) (kd := 1) (y := 376) (n := 2) (ci := 12) (a := 6952) (vs := [.ref 6952, vL p1, vL p3]) (r := []) (L2 := [some (.ref 6952), some (vL p1), none, some (vL p3), none, none]) D374_11 (im_cal cn_374 cl_12_895) (Or.inl rfl) rfl sf_6952 rfl rfl rfl rfl hd ⟨rfl, rfl, rfl, trivial⟩ ?_
  refine hP.mono ?_
  rintro _ e25 M3 ⟨x4, rfl, rfl, hP⟩
  refine im_bkS ?_
  obtain ⟨hg5, hP⟩ := hP
  refine im_ifc (q := 17) (t := 60) D374_14 rfl hg5 (fun hc6 => ?_) (fun hc6 => ?_)
  · replace hP := hP.1 hc6
    refine im_ld (q := 61) (i := 0) D374_60 rfl rfl rfl ?_
    refine im_rng (j := 85) sf_6952 (by decide) (by decide) (fun hr7 => ?_)
    refine im_gfI (q := 64) D374_61 (im_fl cn_374 fl_12_864) sf_6952 rfl rfl tI_12_85 rfl ?_
    refine im_bipush (q := 66) D374_64 rfl ?_
    refine im_icmp (q := 69) (t := 76) D374_66 rfl hr7 (by decide) (fun hc8 => ?_) (fun hc8 => ?_)
    · replace hP := hP.1 hc8
      refine im_ld (q := 77) (i := 0) D374_76 rfl rfl rfl ?_
      refine im_gfI (q := 80) D374_77 (im_fl cn_374 fl_12_864) sf_6952 rfl rfl tI_12_85 rfl ?_
      refine im_st1 (q := 82) (i := 7) (L' := [some (.ref 6952), some (vL p1), none, some (vL p3), none, some (vI p5), some (vI x2), some (vI (M3 6952 85))]) D374_80 (Or.inr rfl) (Nat.le_of_ble_eq_true rfl) rfl ?_
      exact hP.wk ⟨rfl, rfl, rfl, rfl, rfl, rfl, trivial⟩
    · replace hP := hP.2 (Decidable.not_not.mp hc8)
      refine im_ld (q := 70) (i := 0) D374_69 rfl rfl rfl ?_
      refine im_bipush (q := 72) D374_70 rfl ?_
      refine im_callV (q := 75) (kd := 1) (y := 368) (n := 1) (ci := 12) (a := 6952) (vs := [.ref 6952, vI (-9)]) (r := []) (L2 := [some (.ref 6952), some (vI (-9))]) D374_72 (im_cal cn_374 cl_12_959) (Or.inl rfl) rfl sf_6952 rfl rfl rfl rfl hd ⟨rfl, rfl, trivial⟩ ?_
      refine hP.mono ?_
      rintro _ e13 M12 ⟨rfl, rfl, hP⟩
      refine im_bkN ?_
      exact im_vret (q := 76) D374_75 rfl hP
  · replace hP := hP.2 hc6
    refine im_ld (q := 18) (i := 0) D374_17 rfl rfl rfl ?_
    refine im_ld (q := 19) (i := 0) D374_18 rfl rfl rfl ?_
    refine im_gfR (q := 22) (b := 7013) D374_19 (im_fl cn_374 fl_12_195) sf_6952 rfl rfl tR_12_88 rf_6952_88 ?_
    refine im_ld (q := 24) (i := 6) D374_22 rfl rfl rfl ?_
    obtain ⟨hg10, hP⟩ := hP
    refine im_rng (j := x2) sf_7013 hg10.1 hg10.2 (fun hr11 => ?_)
    refine im_iald (q := 25) D374_24 sf_7013 hg10.1 hg10.2 (by decide) rfl ?_
    refine im_ld (q := 27) (i := 5) D374_25 rfl rfl rfl ?_
    refine im_iconst (q := 28) D374_27 ?_
    refine im_callV (q := 31) (kd := 1) (y := 371) (n := 3) (ci := 12) (a := 6952) (vs := [.ref 6952, vI (M3 7013 x2), vI p5, vI 1]) (r := []) (L2 := [some (.ref 6952), some (vI (M3 7013 x2)), some (vI p5), some (vI 1), none]) D374_28 (im_cal cn_374 cl_12_962) (Or.inl rfl) rfl sf_6952 rfl rfl rfl rfl hd ⟨rfl, rfl, rfl, rfl, trivial⟩ ?_
    refine hP.mono ?_
    rintro _ e24 M14 ⟨x15, rfl, rfl, hP⟩
    refine im_bkS ?_
    refine im_st1 (q := 33) (i := 7) (L' := [some (.ref 6952), some (vL p1), none, some (vL p3), none, some (vI p5), some (vI x2), some (vI x15)]) D374_31 (Or.inr rfl) (Nat.le_of_ble_eq_true rfl) rfl ?_
    refine im_ld (q := 34) (i := 0) D374_33 rfl rfl rfl ?_
    refine im_gfR (q := 37) (b := 7013) D374_34 (im_fl cn_374 fl_12_195) sf_6952 rfl rfl tR_12_88 rf_6952_88 ?_
    refine im_ld (q := 39) (i := 6) D374_37 rfl rfl rfl ?_
    refine im_ld (q := 40) (i := 0) D374_39 rfl rfl rfl ?_
    refine im_rng (j := 101) sf_6952 (by decide) (by decide) (fun hr16 => ?_)
    refine im_gfI (q := 43) D374_40 (im_fl cn_374 fl_12_855) sf_6952 rfl rfl tI_12_101 rfl ?_
    have hJ20 := hP
    have kJ21 : ∀ x19 : Int, (((¬ (M14 6952 101) = 0) ∧ x19 = (M14 7013 x2)) ∨ (((M14 6952 101) = 0) ∧ x19 = x15)) → im_T g d 374 58 [none, none, none, none, none, none, none, none] [vI x19, vI x2, .ref 7013] e M14 K := by
      intro x19 hx22
      have hP := hJ20 x19 hx22
      obtain ⟨hg23, hP⟩ := hP
      refine im_iast (q := 59) D374_58 sf_7013 hg10.1 hg10.2 (by decide) hg23 ?_
      exact im_vret (q := 60) D374_59 rfl hP
    refine im_ifc (q := 46) (t := 51) D374_43 rfl hr16 (fun hc17 => ?_) (fun hc17 => ?_)
    · refine im_ld (q := 52) (i := 0) D374_51 rfl rfl rfl ?_
      refine im_gfR (q := 55) (b := 7013) D374_52 (im_fl cn_374 fl_12_195) sf_6952 rfl rfl tR_12_88 rf_6952_88 ?_
      refine im_ld (q := 57) (i := 6) D374_55 rfl rfl rfl ?_
      refine im_rng (j := x2) sf_7013 hg10.1 hg10.2 (fun hr18 => ?_)
      refine im_iald (q := 58) D374_57 sf_7013 hg10.1 hg10.2 (by decide) rfl ?_
      exact (kJ21 ((M14 7013 x2)) (Or.inl ⟨hc17, rfl⟩)).wk trivial
    · refine im_ld (q := 48) (i := 7) D374_46 rfl rfl rfl ?_
      refine im_goto (q := 51) (t := 58) D374_48 rfl ?_
      exact (kJ21 (x15) (Or.inr ⟨(Decidable.not_not.mp hc17), rfl⟩)).wk trivial
set_option maxRecDepth 20000 in
set_option maxHeartbeats 4000000 in
theorem b_toAccount_82 {g : im_g} {d : Nat} {e : im_E} {M : im_M} {K : im_K} {p1 p3 p5 p6 p7 : Int} (hP : (im_i32 p7) ∧ (im_i32 p6) ∧ ((p7 ≤ p6 → (im_i32 ((M 6952 85) + 1)) ∧ (0 ≤ p6 ∧ p6 < 41) ∧ (im_i64 p1) ∧ (im_i64 p3) ∧ (im_i32 p5) ∧ K (.inl none) e (im_u (im_u (im_u (im_u M 6952 85 ((M 6952 85) + 1)) 7011 p6 p1) 7012 p6 p3) 7013 p6 p5)) ∧ (p6 < p7 → (0 ≤ (p7 - 1) ∧ (p7 - 1) < 41) ∧ (0 ≤ p7 ∧ p7 < 41) ∧ im_T g d 374 82 [some (.ref 6952), some (vL p1), none, some (vL p3), none, some (vI p5), some (vI p6), some (vI (p7 + (-1)))] [] e (im_u (im_u (im_u M 7011 p7 (M 7011 (p7 - 1))) 7012 p7 (M 7012 (p7 - 1))) 7013 p7 (M 7013 (p7 - 1))) K))) : im_T g d 374 82 [some (.ref 6952), some (vL p1), none, some (vL p3), none, some (vI p5), some (vI p6), some (vI p7)] [] e M K := by
  refine im_ld (q := 84) (i := 7) D374_82 rfl rfl rfl ?_
  refine im_ld (q := 86) (i := 6) D374_84 rfl rfl rfl ?_
  obtain ⟨hg1, hP⟩ := hP
  obtain ⟨hg2, hP⟩ := hP
  refine im_icmp (q := 89) (t := 143) D374_86 rfl hg1 hg2 (fun hc3 => ?_) (fun hc3 => ?_)
  · replace hP := hP.1 hc3
    refine im_ld (q := 144) (i := 0) D374_143 rfl rfl rfl ?_
    refine im_dup (q := 145) D374_144 rfl ?_
    refine im_rng (j := 85) sf_6952 (by decide) (by decide) (fun hr4 => ?_)
    refine im_gfI (q := 148) D374_145 (im_fl cn_374 fl_12_864) sf_6952 rfl rfl tI_12_85 rfl ?_
    refine im_iconst (q := 149) D374_148 ?_
    refine im_iadd (q := 150) D374_149 ?_
    obtain ⟨hg7, hP⟩ := hP
    refine im_pfI (q := 153) D374_150 (im_fl cn_374 fl_12_864) sf_6952 rfl rfl ti_12_85 hg7 ?_
    refine im_ld (q := 154) (i := 0) D374_153 rfl rfl rfl ?_
    refine im_gfR (q := 157) (b := 7011) D374_154 (im_fl cn_374 fl_12_189) sf_6952 rfl rfl tR_12_86 rf_6952_86 ?_
    refine im_ld (q := 159) (i := 6) D374_157 rfl rfl rfl ?_
    refine im_ld (q := 160) (i := 1) D374_159 rfl rfl rfl ?_
    obtain ⟨hg8, hP⟩ := hP
    obtain ⟨hg9, hP⟩ := hP
    refine im_last (q := 161) D374_160 sf_7011 hg8.1 hg8.2 (by decide) hg9 ?_
    refine im_ld (q := 162) (i := 0) D374_161 rfl rfl rfl ?_
    refine im_gfR (q := 165) (b := 7012) D374_162 (im_fl cn_374 fl_12_192) sf_6952 rfl rfl tR_12_87 rf_6952_87 ?_
    refine im_ld (q := 167) (i := 6) D374_165 rfl rfl rfl ?_
    refine im_ld (q := 168) (i := 3) D374_167 rfl rfl rfl ?_
    obtain ⟨hg10, hP⟩ := hP
    refine im_last (q := 169) D374_168 sf_7012 hg8.1 hg8.2 (by decide) hg10 ?_
    refine im_ld (q := 170) (i := 0) D374_169 rfl rfl rfl ?_
    refine im_gfR (q := 173) (b := 7013) D374_170 (im_fl cn_374 fl_12_195) sf_6952 rfl rfl tR_12_88 rf_6952_88 ?_
    refine im_ld (q := 175) (i := 6) D374_173 rfl rfl rfl ?_
    refine im_ld (q := 177) (i := 5) D374_175 rfl rfl rfl ?_
    obtain ⟨hg11, hP⟩ := hP
    refine im_iast (q := 178) D374_177 sf_7013 hg8.1 hg8.2 (by decide) hg11 ?_
    exact im_vret (q := 179) D374_178 rfl hP
  · replace hP := hP.2 (Int.not_le.mp hc3)
    refine im_ld (q := 90) (i := 0) D374_89 rfl rfl rfl ?_
    refine im_gfR (q := 93) (b := 7011) D374_90 (im_fl cn_374 fl_12_189) sf_6952 rfl rfl tR_12_86 rf_6952_86 ?_
    refine im_ld (q := 95) (i := 7) D374_93 rfl rfl rfl ?_
    refine im_ld (q := 96) (i := 0) D374_95 rfl rfl rfl ?_
    refine im_gfR (q := 99) (b := 7011) D374_96 (im_fl cn_374 fl_12_189) sf_6952 rfl rfl tR_12_86 rf_6952_86 ?_
    refine im_ld (q := 101) (i := 7) D374_99 rfl rfl rfl ?_
    refine im_iconst (q := 102) D374_101 ?_
    refine im_isub (q := 103) D374_102 ?_
    obtain ⟨hg5, hP⟩ := hP
    refine im_rng (j := (p7 - 1)) sf_7011 hg5.1 hg5.2 (fun hr6 => ?_)
    refine im_lald (q := 104) D374_103 sf_7011 hg5.1 hg5.2 (by decide) rfl ?_
    obtain ⟨hg12, hP⟩ := hP
    refine im_last (q := 105) D374_104 sf_7011 hg12.1 hg12.2 (by decide) hr6 ?_
    refine im_ld (q := 106) (i := 0) D374_105 rfl rfl rfl ?_
    refine im_gfR (q := 109) (b := 7012) D374_106 (im_fl cn_374 fl_12_192) sf_6952 rfl rfl tR_12_87 rf_6952_87 ?_
    refine im_ld (q := 111) (i := 7) D374_109 rfl rfl rfl ?_
    refine im_ld (q := 112) (i := 0) D374_111 rfl rfl rfl ?_
    refine im_gfR (q := 115) (b := 7012) D374_112 (im_fl cn_374 fl_12_192) sf_6952 rfl rfl tR_12_87 rf_6952_87 ?_
    refine im_ld (q := 117) (i := 7) D374_115 rfl rfl rfl ?_
    refine im_iconst (q := 118) D374_117 ?_
    refine im_isub (q := 119) D374_118 ?_
    refine im_rng (j := (p7 - 1)) sf_7012 hg5.1 hg5.2 (fun hr13 => ?_)
    refine im_lald (q := 120) D374_119 sf_7012 hg5.1 hg5.2 (by decide) (im_rdn _ _ _ _ (by decide)) ?_
    refine im_last (q := 121) D374_120 sf_7012 hg12.1 hg12.2 (by decide) (im_rgc hr13 (im_rdn _ _ _ _ (by decide))) ?_
    refine im_ld (q := 122) (i := 0) D374_121 rfl rfl rfl ?_
    refine im_gfR (q := 125) (b := 7013) D374_122 (im_fl cn_374 fl_12_195) sf_6952 rfl rfl tR_12_88 rf_6952_88 ?_
    refine im_ld (q := 127) (i := 7) D374_125 rfl rfl rfl ?_
    refine im_ld (q := 128) (i := 0) D374_127 rfl rfl rfl ?_
    refine im_gfR (q := 131) (b := 7013) D374_128 (im_fl cn_374 fl_12_195) sf_6952 rfl rfl tR_12_88 rf_6952_88 ?_
    refine im_ld (q := 133) (i := 7) D374_131 rfl rfl rfl ?_
    refine im_iconst (q := 134) D374_133 ?_
    refine im_isub (q := 135) D374_134 ?_
    refine im_rng (j := (p7 - 1)) sf_7013 hg5.1 hg5.2 (fun hr14 => ?_)
    refine im_iald (q := 136) D374_135 sf_7013 hg5.1 hg5.2 (by decide) ((im_rdn _ _ _ _ (by decide)).trans (im_rdn _ _ _ _ (by decide))) ?_
    refine im_iast (q := 137) D374_136 sf_7013 hg12.1 hg12.2 (by decide) (im_rgc hr14 ((im_rdn _ _ _ _ (by decide)).trans (im_rdn _ _ _ _ (by decide)))) ?_
    refine im_iinc (q := 140) (i := 7) (L' := [some (.ref 6952), some (vL p1), none, some (vL p3), none, some (vI p5), some (vI p6), some (vI (p7 + (-1)))]) D374_137 rfl (Nat.le_of_ble_eq_true rfl) rfl ?_
    refine im_goto (q := 143) (t := 82) D374_140 rfl ?_
    exact hP.wk ⟨rfl, rfl, rfl, rfl, rfl, rfl, trivial⟩
set_option maxRecDepth 20000 in
set_option maxHeartbeats 4000000 in
theorem b_accountAt_0 {g : im_g} {d : Nat} {e : im_E} {M : im_M} {K : im_K} {p1 p3 : Int} (hP : im_T g d 375 3 [some (.ref 6952), some (vL p1), none, some (vL p3), none, some (vI 0)] [] e M K) : im_T g d 375 0 [some (.ref 6952), some (vL p1), none, some (vL p3), none, none] [] e M K := by
  refine im_iconst (q := 1) D375_0 ?_
  refine im_st1 (q := 3) (i := 5) (L' := [some (.ref 6952), some (vL p1), none, some (vL p3), none, some (vI 0)]) D375_1 (Or.inr rfl) (Nat.le_of_ble_eq_true rfl) rfl ?_
  exact hP.wk ⟨rfl, rfl, rfl, rfl, trivial⟩
set_option maxRecDepth 20000 in
set_option maxHeartbeats 4000000 in
theorem b_accountAt_3 {g : im_g} {d : Nat} {e : im_E} {M : im_M} {K : im_K} {p1 p3 p5 : Int} (hP : (im_i32 p5) ∧ ((((p5 < (M 6952 85) → (0 ≤ p5 ∧ p5 < 41) ∧ (im_i64 p1) ∧ ((p1 ≤ (M 7011 p5) → (((M 7011 p5) = p1 → (im_i64 p3)))))))) ∧ ((((p5 < (M 6952 85)) ∧ ((M 7011 p5) < p1)) ∨ ((p5 < (M 6952 85)) ∧ (p1 ≤ (M 7011 p5)) ∧ ((M 7011 p5) = p1) ∧ ((M 7012 p5) < p3))) → im_T g d 375 3 [some (.ref 6952), some (vL p1), none, some (vL p3), none, some (vI (p5 + 1))] [] e M K) ∧ (((((M 6952 85) ≤ p5)) ∨ ((p5 < (M 6952 85)) ∧ (p1 ≤ (M 7011 p5)) ∧ (¬ (M 7011 p5) = p1)) ∨ ((p5 < (M 6952 85)) ∧ (p1 ≤ (M 7011 p5)) ∧ ((M 7011 p5) = p1) ∧ (p3 ≤ (M 7012 p5)))) → K (.inl (some (vI p5))) e M))) : im_T g d 375 3 [some (.ref 6952), some (vL p1), none, some (vL p3), none, some (vI p5)] [] e M K := by
  refine im_ld (q := 5) (i := 5) D375_3 rfl rfl rfl ?_
  refine im_ld (q := 6) (i := 0) D375_5 rfl rfl rfl ?_
  refine im_rng (j := 85) sf_6952 (by decide) (by decide) (fun hr1 => ?_)
  refine im_gfI (q := 9) D375_6 (im_fl cn_375 fl_12_864) sf_6952 rfl rfl tI_12_85 rfl ?_
  obtain ⟨hg2, hP⟩ := hP
  obtain ⟨hP, hJ13, hJ16⟩ := hP
  have kJ14 : (((p5 < (M 6952 85)) ∧ ((M 7011 p5) < p1)) ∨ ((p5 < (M 6952 85)) ∧ (p1 ≤ (M 7011 p5)) ∧ ((M 7011 p5) = p1) ∧ ((M 7012 p5) < p3))) → im_T g d 375 48 [some (.ref 6952), some (vL p1), none, some (vL p3), none, some (vI p5)] [] e M K := by
    intro  hx15
    have hP := hJ13  hx15
    refine im_iinc (q := 51) (i := 5) (L' := [some (.ref 6952), some (vL p1), none, some (vL p3), none, some (vI (p5 + 1))]) D375_48 rfl (Nat.le_of_ble_eq_true rfl) rfl ?_
    refine im_goto (q := 54) (t := 3) D375_51 rfl ?_
    exact hP.wk ⟨rfl, rfl, rfl, rfl, trivial⟩
  have kJ17 : ((((M 6952 85) ≤ p5)) ∨ ((p5 < (M 6952 85)) ∧ (p1 ≤ (M 7011 p5)) ∧ (¬ (M 7011 p5) = p1)) ∨ ((p5 < (M 6952 85)) ∧ (p1 ≤ (M 7011 p5)) ∧ ((M 7011 p5) = p1) ∧ (p3 ≤ (M 7012 p5)))) → im_T g d 375 54 [none, none, none, none, none, some (vI p5)] [] e M K := by
    intro  hx18
    have hP := hJ16  hx18
    refine im_ld (q := 56) (i := 5) D375_54 rfl rfl rfl ?_
    exact im_iret (q := 57) D375_56 rfl hP
  refine im_icmp (q := 12) (t := 54) D375_9 rfl hg2 hr1 (fun hc3 => ?_) (fun hc3 => ?_)
  · exact (kJ17  (Or.inl hc3)).wk ⟨rfl, trivial⟩
  · replace hP := hP (Int.not_le.mp hc3)
    refine im_ld (q := 13) (i := 0) D375_12 rfl rfl rfl ?_
    refine im_gfR (q := 16) (b := 7011) D375_13 (im_fl cn_375 fl_12_189) sf_6952 rfl rfl tR_12_86 rf_6952_86 ?_
    refine im_ld (q := 18) (i := 5) D375_16 rfl rfl rfl ?_
    obtain ⟨hg4, hP⟩ := hP
    refine im_rng (j := p5) sf_7011 hg4.1 hg4.2 (fun hr5 => ?_)
    refine im_lald (q := 19) D375_18 sf_7011 hg4.1 hg4.2 (by decide) rfl ?_
    refine im_ld (q := 20) (i := 1) D375_19 rfl rfl rfl ?_
    obtain ⟨hg6, hP⟩ := hP
    refine im_lif (q := 21) (q2 := 24) (t := 48) D375_20 D375_21 rfl hr5 hg6 (fun hc7 => ?_) (fun hc7 => ?_)
    · exact (kJ14  (Or.inl ⟨(Int.not_le.mp hc3), hc7⟩)).wk ⟨rfl, rfl, rfl, rfl, trivial⟩
    · replace hP := hP (Int.not_lt.mp hc7)
      refine im_ld (q := 25) (i := 0) D375_24 rfl rfl rfl ?_
      refine im_gfR (q := 28) (b := 7011) D375_25 (im_fl cn_375 fl_12_189) sf_6952 rfl rfl tR_12_86 rf_6952_86 ?_
      refine im_ld (q := 30) (i := 5) D375_28 rfl rfl rfl ?_
      refine im_lald (q := 31) D375_30 sf_7011 hg4.1 hg4.2 (by decide) rfl ?_
      refine im_ld (q := 32) (i := 1) D375_31 rfl rfl rfl ?_
      refine im_lif (q := 33) (q2 := 36) (t := 54) D375_32 D375_33 rfl hr5 hg6 (fun hc9 => ?_) (fun hc9 => ?_)
      · exact (kJ17  (Or.inr (Or.inl ⟨(Int.not_le.mp hc3), (Int.not_lt.mp hc7), hc9⟩))).wk ⟨rfl, trivial⟩
      · replace hP := hP (Decidable.not_not.mp hc9)
        refine im_ld (q := 37) (i := 0) D375_36 rfl rfl rfl ?_
        refine im_gfR (q := 40) (b := 7012) D375_37 (im_fl cn_375 fl_12_192) sf_6952 rfl rfl tR_12_87 rf_6952_87 ?_
        refine im_ld (q := 42) (i := 5) D375_40 rfl rfl rfl ?_
        refine im_rng (j := p5) sf_7012 hg4.1 hg4.2 (fun hr10 => ?_)
        refine im_lald (q := 43) D375_42 sf_7012 hg4.1 hg4.2 (by decide) rfl ?_
        refine im_ld (q := 44) (i := 3) D375_43 rfl rfl rfl ?_
        have hg11 := hP
        refine im_lif (q := 45) (q2 := 48) (t := 54) D375_44 D375_45 rfl hr10 hg11 (fun hc12 => ?_) (fun hc12 => ?_)
        · exact (kJ17  (Or.inr (Or.inr ⟨(Int.not_le.mp hc3), (Int.not_lt.mp hc7), (Decidable.not_not.mp hc9), hc12⟩))).wk ⟨rfl, trivial⟩
        · exact (kJ14  (Or.inr ⟨(Int.not_le.mp hc3), (Int.not_lt.mp hc7), (Decidable.not_not.mp hc9), (Int.not_le.mp hc12)⟩)).wk ⟨rfl, rfl, rfl, rfl, trivial⟩
set_option maxRecDepth 20000 in
set_option maxHeartbeats 4000000 in
theorem b_hasAccount_0 {g : im_g} {d : Nat} {e : im_E} {M : im_M} {K : im_K} {p1 p3 : Int} (hd : 1 ≤ d) (hP : im_T g (d - 1) 375 0 [some (.ref 6952), some (vL p1), none, some (vL p3), none, none] [] e M (im_ri (fun x2 e_ M1 => e = e_ ∧ (im_i32 x2) ∧ ((((x2 < (M1 6952 85) → (0 ≤ x2 ∧ x2 < 41) ∧ (im_i64 p1) ∧ (((M1 7011 x2) = p1 → (im_i64 p3) ∧ (((M1 7012 x2) = p3 → K (.inl (some (vI 1))) e M1))))))) ∧ (((((M1 6952 85) ≤ x2)) ∨ ((x2 < (M1 6952 85)) ∧ (¬ (M1 7011 x2) = p1)) ∨ ((x2 < (M1 6952 85)) ∧ ((M1 7011 x2) = p1) ∧ (¬ (M1 7012 x2) = p3))) → K (.inl (some (vI 0))) e M1))))) : im_T g d 376 0 [some (.ref 6952), some (vL p1), none, some (vL p3), none, none] [] e M K := by
  refine im_ld (q := 1) (i := 0) D376_0 rfl rfl rfl ?_
  refine im_ld (q := 2) (i := 1) D376_1 rfl rfl rfl ?_
  refine im_ld (q := 3) (i := 3) D376_2 rfl rfl rfl ?_
  refine im_callV (q := 6) (kd := 1) (y := 375) (n := 2) (ci := 12) (a := 6952) (vs := [.ref 6952, vL p1, vL p3]) (r := []) (L2 := [some (.ref 6952), some (vL p1), none, some (vL p3), none, none]) D376_3 (im_cal cn_376 cl_12_876) (Or.inl rfl) rfl sf_6952 rfl rfl rfl rfl hd ⟨rfl, rfl, rfl, trivial⟩ ?_
  refine hP.mono ?_
  rintro _ e16 M1 ⟨x2, rfl, rfl, hP⟩
  refine im_bkS ?_
  refine im_st1 (q := 8) (i := 5) (L' := [some (.ref 6952), some (vL p1), none, some (vL p3), none, some (vI x2)]) D376_6 (Or.inr rfl) (Nat.le_of_ble_eq_true rfl) rfl ?_
  refine im_ld (q := 10) (i := 5) D376_8 rfl rfl rfl ?_
  refine im_ld (q := 11) (i := 0) D376_10 rfl rfl rfl ?_
  refine im_rng (j := 85) sf_6952 (by decide) (by decide) (fun hr3 => ?_)
  refine im_gfI (q := 14) D376_11 (im_fl cn_376 fl_12_864) sf_6952 rfl rfl tI_12_85 rfl ?_
  obtain ⟨hg4, hP⟩ := hP
  obtain ⟨hP, hJ13⟩ := hP
  have kJ14 : ((((M1 6952 85) ≤ x2)) ∨ ((x2 < (M1 6952 85)) ∧ (¬ (M1 7011 x2) = p1)) ∨ ((x2 < (M1 6952 85)) ∧ ((M1 7011 x2) = p1) ∧ (¬ (M1 7012 x2) = p3))) → im_T g d 376 45 [none, none, none, none, none, none] [] e M1 K := by
    intro  hx15
    have hP := hJ13  hx15
    refine im_iconst (q := 46) D376_45 ?_
    exact im_zret (q := 47) D376_46 rfl (by decide) hP
  refine im_icmp (q := 17) (t := 45) D376_14 rfl hg4 hr3 (fun hc5 => ?_) (fun hc5 => ?_)
  · exact (kJ14  (Or.inl hc5)).wk trivial
  · replace hP := hP (Int.not_le.mp hc5)
    refine im_ld (q := 18) (i := 0) D376_17 rfl rfl rfl ?_
    refine im_gfR (q := 21) (b := 7011) D376_18 (im_fl cn_376 fl_12_189) sf_6952 rfl rfl tR_12_86 rf_6952_86 ?_
    refine im_ld (q := 23) (i := 5) D376_21 rfl rfl rfl ?_
    obtain ⟨hg6, hP⟩ := hP
    refine im_rng (j := x2) sf_7011 hg6.1 hg6.2 (fun hr7 => ?_)
    refine im_lald (q := 24) D376_23 sf_7011 hg6.1 hg6.2 (by decide) rfl ?_
    refine im_ld (q := 25) (i := 1) D376_24 rfl rfl rfl ?_
    obtain ⟨hg8, hP⟩ := hP
    refine im_lif (q := 26) (q2 := 29) (t := 45) D376_25 D376_26 rfl hr7 hg8 (fun hc9 => ?_) (fun hc9 => ?_)
    · exact (kJ14  (Or.inr (Or.inl ⟨(Int.not_le.mp hc5), hc9⟩))).wk trivial
    · replace hP := hP (Decidable.not_not.mp hc9)
      refine im_ld (q := 30) (i := 0) D376_29 rfl rfl rfl ?_
      refine im_gfR (q := 33) (b := 7012) D376_30 (im_fl cn_376 fl_12_192) sf_6952 rfl rfl tR_12_87 rf_6952_87 ?_
      refine im_ld (q := 35) (i := 5) D376_33 rfl rfl rfl ?_
      refine im_rng (j := x2) sf_7012 hg6.1 hg6.2 (fun hr10 => ?_)
      refine im_lald (q := 36) D376_35 sf_7012 hg6.1 hg6.2 (by decide) rfl ?_
      refine im_ld (q := 37) (i := 3) D376_36 rfl rfl rfl ?_
      obtain ⟨hg11, hP⟩ := hP
      refine im_lif (q := 38) (q2 := 41) (t := 45) D376_37 D376_38 rfl hr10 hg11 (fun hc12 => ?_) (fun hc12 => ?_)
      · exact (kJ14  (Or.inr (Or.inr ⟨(Int.not_le.mp hc5), (Decidable.not_not.mp hc9), hc12⟩))).wk trivial
      · replace hP := hP (Decidable.not_not.mp hc12)
        refine im_iconst (q := 42) D376_41 ?_
        refine im_goto (q := 45) (t := 46) D376_42 rfl ?_
        exact im_zret (q := 47) D376_46 rfl (by decide) hP

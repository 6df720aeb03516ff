/-! blocks of the reference -/
theorem D318_0 {g : im_g} : im_D g 318 0 (.aload_n 0) 1 := im_D.of (by decide +kernel)
theorem D318_1 {g : im_g} : im_D g 318 1 (.getfield 33) 4 := im_D.of (by decide +kernel)
theorem D318_4 {g : im_g} : im_D g 318 4 (.iload_n 1) 5 := im_D.of (by decide +kernel)
theorem D318_5 {g : im_g} : im_D g 318 5 (.iaload) 6 := im_D.of (by decide +kernel)
theorem D318_6 {g : im_g} : im_D g 318 6 (.istore_n 2) 7 := im_D.of (by decide +kernel)
theorem D318_7 {g : im_g} : im_D g 318 7 (.iload_n 2) 8 := im_D.of (by decide +kernel)
theorem D318_8 {g : im_g} : im_D g 318 8 (.i2l) 9 := im_D.of (by decide +kernel)
theorem D318_9 {g : im_g} : im_D g 318 9 (.ldc2_w 759) 12 := im_D.of (by decide +kernel)
theorem D318_12 {g : im_g} : im_D g 318 12 (.ldc2_w 447) 15 := im_D.of (by decide +kernel)
theorem D318_15 {g : im_g} : im_D g 318 15 (.invokestatic 428) 18 := im_D.of (by decide +kernel)
theorem D318_18 {g : im_g} : im_D g 318 18 (.ifCond .eq 9) 21 := im_D.of (by decide +kernel)
theorem D318_21 {g : im_g} : im_D g 318 21 (.aload_n 0) 22 := im_D.of (by decide +kernel)
theorem D318_22 {g : im_g} : im_D g 318 22 (.iload_n 1) 23 := im_D.of (by decide +kernel)
theorem D318_23 {g : im_g} : im_D g 318 23 (.invokevirtual 761) 26 := im_D.of (by decide +kernel)
theorem D318_26 {g : im_g} : im_D g 318 26 (.return_) 27 := im_D.of (by decide +kernel)
theorem D318_27 {g : im_g} : im_D g 318 27 (.iload_n 2) 28 := im_D.of (by decide +kernel)
theorem D318_28 {g : im_g} : im_D g 318 28 (.bipush 21) 30 := im_D.of (by decide +kernel)
theorem D318_30 {g : im_g} : im_D g 318 30 (.if_icmp .ne 14) 33 := im_D.of (by decide +kernel)
theorem D318_33 {g : im_g} : im_D g 318 33 (.aload_n 0) 34 := im_D.of (by decide +kernel)
theorem D318_34 {g : im_g} : im_D g 318 34 (.aload_n 0) 35 := im_D.of (by decide +kernel)
theorem D318_35 {g : im_g} : im_D g 318 35 (.getfield 36) 38 := im_D.of (by decide +kernel)
theorem D318_38 {g : im_g} : im_D g 318 38 (.iload_n 1) 39 := im_D.of (by decide +kernel)
theorem D318_39 {g : im_g} : im_D g 318 39 (.laload) 40 := im_D.of (by decide +kernel)
theorem D318_40 {g : im_g} : im_D g 318 40 (.invokevirtual 764) 43 := im_D.of (by decide +kernel)
theorem D318_43 {g : im_g} : im_D g 318 43 (.return_) 44 := im_D.of (by decide +kernel)
theorem D318_44 {g : im_g} : im_D g 318 44 (.iload_n 2) 45 := im_D.of (by decide +kernel)
theorem D318_45 {g : im_g} : im_D g 318 45 (.bipush 20) 47 := im_D.of (by decide +kernel)
theorem D318_47 {g : im_g} : im_D g 318 47 (.if_icmp .ne 18) 50 := im_D.of (by decide +kernel)
theorem D318_50 {g : im_g} : im_D g 318 50 (.aload_n 0) 51 := im_D.of (by decide +kernel)
theorem D318_51 {g : im_g} : im_D g 318 51 (.invokevirtual 438) 54 := im_D.of (by decide +kernel)
theorem D318_54 {g : im_g} : im_D g 318 54 (.aload_n 0) 55 := im_D.of (by decide +kernel)
theorem D318_55 {g : im_g} : im_D g 318 55 (.aload_n 0) 56 := im_D.of (by decide +kernel)
theorem D318_56 {g : im_g} : im_D g 318 56 (.getfield 57) 59 := im_D.of (by decide +kernel)
theorem D318_59 {g : im_g} : im_D g 318 59 (.iload_n 1) 60 := im_D.of (by decide +kernel)
theorem D318_60 {g : im_g} : im_D g 318 60 (.iaload) 61 := im_D.of (by decide +kernel)
theorem D318_61 {g : im_g} : im_D g 318 61 (.invokevirtual 756) 64 := im_D.of (by decide +kernel)
theorem D318_64 {g : im_g} : im_D g 318 64 (.return_) 65 := im_D.of (by decide +kernel)
theorem D318_65 {g : im_g} : im_D g 318 65 (.aload_n 0) 66 := im_D.of (by decide +kernel)
theorem D318_66 {g : im_g} : im_D g 318 66 (.iload_n 2) 67 := im_D.of (by decide +kernel)
theorem D318_67 {g : im_g} : im_D g 318 67 (.invokestatic 767) 70 := im_D.of (by decide +kernel)
theorem D318_70 {g : im_g} : im_D g 318 70 (.invokevirtual 750) 73 := im_D.of (by decide +kernel)
theorem D318_73 {g : im_g} : im_D g 318 73 (.iload_n 2) 74 := im_D.of (by decide +kernel)
theorem D318_74 {g : im_g} : im_D g 318 74 (.iconst 5) 75 := im_D.of (by decide +kernel)
theorem D318_75 {g : im_g} : im_D g 318 75 (.if_icmp .ne 44) 78 := im_D.of (by decide +kernel)
theorem D318_78 {g : im_g} : im_D g 318 78 (.aload_n 0) 79 := im_D.of (by decide +kernel)
theorem D318_79 {g : im_g} : im_D g 318 79 (.iconst 0) 80 := im_D.of (by decide +kernel)
theorem D318_80 {g : im_g} : im_D g 318 80 (.aload_n 0) 81 := im_D.of (by decide +kernel)
theorem D318_81 {g : im_g} : im_D g 318 81 (.getfield 48) 84 := im_D.of (by decide +kernel)
theorem D318_84 {g : im_g} : im_D g 318 84 (.iload_n 1) 85 := im_D.of (by decide +kernel)
theorem D318_85 {g : im_g} : im_D g 318 85 (.iaload) 86 := im_D.of (by decide +kernel)
theorem D318_86 {g : im_g} : im_D g 318 86 (.invokevirtual 753) 89 := im_D.of (by decide +kernel)
theorem D318_89 {g : im_g} : im_D g 318 89 (.aload_n 0) 90 := im_D.of (by decide +kernel)
theorem D318_90 {g : im_g} : im_D g 318 90 (.iconst 3) 91 := im_D.of (by decide +kernel)
theorem D318_91 {g : im_g} : im_D g 318 91 (.iload_n 1) 92 := im_D.of (by decide +kernel)
theorem D318_92 {g : im_g} : im_D g 318 92 (.invokevirtual 753) 95 := im_D.of (by decide +kernel)
theorem D318_95 {g : im_g} : im_D g 318 95 (.aload_n 0) 96 := im_D.of (by decide +kernel)
theorem D318_96 {g : im_g} : im_D g 318 96 (.iconst 2) 97 := im_D.of (by decide +kernel)
theorem D318_97 {g : im_g} : im_D g 318 97 (.iload_n 1) 98 := im_D.of (by decide +kernel)
theorem D318_98 {g : im_g} : im_D g 318 98 (.invokevirtual 753) 101 := im_D.of (by decide +kernel)
theorem D318_101 {g : im_g} : im_D g 318 101 (.aload_n 0) 102 := im_D.of (by decide +kernel)
theorem D318_102 {g : im_g} : im_D g 318 102 (.iconst 0) 103 := im_D.of (by decide +kernel)
theorem D318_103 {g : im_g} : im_D g 318 103 (.aload_n 0) 104 := im_D.of (by decide +kernel)
theorem D318_104 {g : im_g} : im_D g 318 104 (.getfield 45) 107 := im_D.of (by decide +kernel)
theorem D318_107 {g : im_g} : im_D g 318 107 (.iload_n 1) 108 := im_D.of (by decide +kernel)
theorem D318_108 {g : im_g} : im_D g 318 108 (.iaload) 109 := im_D.of (by decide +kernel)
theorem D318_109 {g : im_g} : im_D g 318 109 (.invokevirtual 753) 112 := im_D.of (by decide +kernel)
theorem D318_112 {g : im_g} : im_D g 318 112 (.aload_n 0) 113 := im_D.of (by decide +kernel)
theorem D318_113 {g : im_g} : im_D g 318 113 (.iconst 1) 114 := im_D.of (by decide +kernel)
theorem D318_114 {g : im_g} : im_D g 318 114 (.iload_n 1) 115 := im_D.of (by decide +kernel)
theorem D318_115 {g : im_g} : im_D g 318 115 (.invokevirtual 753) 118 := im_D.of (by decide +kernel)
theorem D318_118 {g : im_g} : im_D g 318 118 (.return_) 119 := im_D.of (by decide +kernel)
theorem D318_119 {g : im_g} : im_D g 318 119 (.aload_n 0) 120 := im_D.of (by decide +kernel)
theorem D318_120 {g : im_g} : im_D g 318 120 (.iconst 0) 121 := im_D.of (by decide +kernel)
theorem D318_121 {g : im_g} : im_D g 318 121 (.aload_n 0) 122 := im_D.of (by decide +kernel)
theorem D318_122 {g : im_g} : im_D g 318 122 (.getfield 51) 125 := im_D.of (by decide +kernel)
theorem D318_125 {g : im_g} : im_D g 318 125 (.iload_n 1) 126 := im_D.of (by decide +kernel)
theorem D318_126 {g : im_g} : im_D g 318 126 (.iaload) 127 := im_D.of (by decide +kernel)
theorem D318_127 {g : im_g} : im_D g 318 127 (.invokevirtual 753) 130 := im_D.of (by decide +kernel)
theorem D318_130 {g : im_g} : im_D g 318 130 (.aload_n 0) 131 := im_D.of (by decide +kernel)
theorem D318_131 {g : im_g} : im_D g 318 131 (.iconst 0) 132 := im_D.of (by decide +kernel)
theorem D318_132 {g : im_g} : im_D g 318 132 (.aload_n 0) 133 := im_D.of (by decide +kernel)
theorem D318_133 {g : im_g} : im_D g 318 133 (.getfield 48) 136 := im_D.of (by decide +kernel)
theorem D318_136 {g : im_g} : im_D g 318 136 (.iload_n 1) 137 := im_D.of (by decide +kernel)
theorem D318_137 {g : im_g} : im_D g 318 137 (.iaload) 138 := im_D.of (by decide +kernel)
theorem D318_138 {g : im_g} : im_D g 318 138 (.invokevirtual 753) 141 := im_D.of (by decide +kernel)
theorem D318_141 {g : im_g} : im_D g 318 141 (.aload_n 0) 142 := im_D.of (by decide +kernel)
theorem D318_142 {g : im_g} : im_D g 318 142 (.iconst 0) 143 := im_D.of (by decide +kernel)
theorem D318_143 {g : im_g} : im_D g 318 143 (.aload_n 0) 144 := im_D.of (by decide +kernel)
theorem D318_144 {g : im_g} : im_D g 318 144 (.getfield 45) 147 := im_D.of (by decide +kernel)
theorem D318_147 {g : im_g} : im_D g 318 147 (.iload_n 1) 148 := im_D.of (by decide +kernel)
theorem D318_148 {g : im_g} : im_D g 318 148 (.iaload) 149 := im_D.of (by decide +kernel)
theorem D318_149 {g : im_g} : im_D g 318 149 (.invokevirtual 753) 152 := im_D.of (by decide +kernel)
theorem D318_152 {g : im_g} : im_D g 318 152 (.aload_n 0) 153 := im_D.of (by decide +kernel)
theorem D318_153 {g : im_g} : im_D g 318 153 (.getfield 36) 156 := im_D.of (by decide +kernel)
theorem D318_156 {g : im_g} : im_D g 318 156 (.iload_n 1) 157 := im_D.of (by decide +kernel)
theorem D318_157 {g : im_g} : im_D g 318 157 (.laload) 158 := im_D.of (by decide +kernel)
theorem D318_158 {g : im_g} : im_D g 318 158 (.lconst 0) 159 := im_D.of (by decide +kernel)
theorem D318_159 {g : im_g} : im_D g 318 159 (.lcmp) 160 := im_D.of (by decide +kernel)
theorem D318_160 {g : im_g} : im_D g 318 160 (.ifCond .eq 13) 163 := im_D.of (by decide +kernel)
theorem D318_163 {g : im_g} : im_D g 318 163 (.aload_n 0) 164 := im_D.of (by decide +kernel)
theorem D318_164 {g : im_g} : im_D g 318 164 (.aload_n 0) 165 := im_D.of (by decide +kernel)
theorem D318_165 {g : im_g} : im_D g 318 165 (.getfield 36) 168 := im_D.of (by decide +kernel)
theorem D318_168 {g : im_g} : im_D g 318 168 (.iload_n 1) 169 := im_D.of (by decide +kernel)
theorem D318_169 {g : im_g} : im_D g 318 169 (.laload) 170 := im_D.of (by decide +kernel)
theorem D318_170 {g : im_g} : im_D g 318 170 (.invokevirtual 750) 173 := im_D.of (by decide +kernel)
theorem D318_173 {g : im_g} : im_D g 318 173 (.iload_n 2) 174 := im_D.of (by decide +kernel)
theorem D318_174 {g : im_g} : im_D g 318 174 (.iconst 2) 175 := im_D.of (by decide +kernel)
theorem D318_175 {g : im_g} : im_D g 318 175 (.if_icmp .eq 8) 178 := im_D.of (by decide +kernel)
theorem D318_178 {g : im_g} : im_D g 318 178 (.iload_n 2) 179 := im_D.of (by decide +kernel)
theorem D318_179 {g : im_g} : im_D g 318 179 (.iconst 3) 180 := im_D.of (by decide +kernel)
theorem D318_180 {g : im_g} : im_D g 318 180 (.if_icmp .ne 21) 183 := im_D.of (by decide +kernel)
theorem D318_183 {g : im_g} : im_D g 318 183 (.aload_n 0) 184 := im_D.of (by decide +kernel)
theorem D318_184 {g : im_g} : im_D g 318 184 (.iload_n 2) 185 := im_D.of (by decide +kernel)
theorem D318_185 {g : im_g} : im_D g 318 185 (.iconst 2) 186 := im_D.of (by decide +kernel)
theorem D318_186 {g : im_g} : im_D g 318 186 (.if_icmp .ne 9) 189 := im_D.of (by decide +kernel)
theorem D318_189 {g : im_g} : im_D g 318 189 (.ldc2_w 509) 192 := im_D.of (by decide +kernel)
theorem D318_192 {g : im_g} : im_D g 318 192 (.goto 6) 195 := im_D.of (by decide +kernel)
theorem D318_195 {g : im_g} : im_D g 318 195 (.ldc2_w 511) 198 := im_D.of (by decide +kernel)
theorem D318_198 {g : im_g} : im_D g 318 198 (.invokevirtual 750) 201 := im_D.of (by decide +kernel)
theorem D318_201 {g : im_g} : im_D g 318 201 (.aload_n 0) 202 := im_D.of (by decide +kernel)
theorem D318_202 {g : im_g} : im_D g 318 202 (.getfield 39) 205 := im_D.of (by decide +kernel)
theorem D318_205 {g : im_g} : im_D g 318 205 (.iload_n 1) 206 := im_D.of (by decide +kernel)
theorem D318_206 {g : im_g} : im_D g 318 206 (.laload) 207 := im_D.of (by decide +kernel)
theorem D318_207 {g : im_g} : im_D g 318 207 (.lconst 0) 208 := im_D.of (by decide +kernel)
theorem D318_208 {g : im_g} : im_D g 318 208 (.lcmp) 209 := im_D.of (by decide +kernel)
theorem D318_209 {g : im_g} : im_D g 318 209 (.ifCond .eq 13) 212 := im_D.of (by decide +kernel)
theorem D318_212 {g : im_g} : im_D g 318 212 (.aload_n 0) 213 := im_D.of (by decide +kernel)
theorem D318_213 {g : im_g} : im_D g 318 213 (.aload_n 0) 214 := im_D.of (by decide +kernel)
theorem D318_214 {g : im_g} : im_D g 318 214 (.getfield 39) 217 := im_D.of (by decide +kernel)
theorem D318_217 {g : im_g} : im_D g 318 217 (.iload_n 1) 218 := im_D.of (by decide +kernel)
theorem D318_218 {g : im_g} : im_D g 318 218 (.laload) 219 := im_D.of (by decide +kernel)
theorem D318_219 {g : im_g} : im_D g 318 219 (.invokevirtual 750) 222 := im_D.of (by decide +kernel)
theorem D318_222 {g : im_g} : im_D g 318 222 (.aload_n 0) 223 := im_D.of (by decide +kernel)
theorem D318_223 {g : im_g} : im_D g 318 223 (.getfield 42) 226 := im_D.of (by decide +kernel)
theorem D318_226 {g : im_g} : im_D g 318 226 (.iload_n 1) 227 := im_D.of (by decide +kernel)
theorem D318_227 {g : im_g} : im_D g 318 227 (.laload) 228 := im_D.of (by decide +kernel)
theorem D318_228 {g : im_g} : im_D g 318 228 (.lconst 0) 229 := im_D.of (by decide +kernel)
theorem D318_229 {g : im_g} : im_D g 318 229 (.lcmp) 230 := im_D.of (by decide +kernel)
theorem D318_230 {g : im_g} : im_D g 318 230 (.ifCond .eq 13) 233 := im_D.of (by decide +kernel)
theorem D318_233 {g : im_g} : im_D g 318 233 (.aload_n 0) 234 := im_D.of (by decide +kernel)
theorem D318_234 {g : im_g} : im_D g 318 234 (.aload_n 0) 235 := im_D.of (by decide +kernel)
theorem D318_235 {g : im_g} : im_D g 318 235 (.getfield 42) 238 := im_D.of (by decide +kernel)
theorem D318_238 {g : im_g} : im_D g 318 238 (.iload_n 1) 239 := im_D.of (by decide +kernel)
theorem D318_239 {g : im_g} : im_D g 318 239 (.laload) 240 := im_D.of (by decide +kernel)
theorem D318_240 {g : im_g} : im_D g 318 240 (.invokevirtual 750) 243 := im_D.of (by decide +kernel)
theorem D318_243 {g : im_g} : im_D g 318 243 (.return_) 244 := im_D.of (by decide +kernel)
theorem D319_0 {g : im_g} : im_D g 319 0 (.aload_n 0) 1 := im_D.of (by decide +kernel)
theorem D319_1 {g : im_g} : im_D g 319 1 (.ldc2_w 517) 4 := im_D.of (by decide +kernel)
theorem D319_4 {g : im_g} : im_D g 319 4 (.invokevirtual 750) 7 := im_D.of (by decide +kernel)
theorem D319_7 {g : im_g} : im_D g 319 7 (.aload_n 0) 8 := im_D.of (by decide +kernel)
theorem D319_8 {g : im_g} : im_D g 319 8 (.aload_n 0) 9 := im_D.of (by decide +kernel)
theorem D319_9 {g : im_g} : im_D g 319 9 (.getfield 33) 12 := im_D.of (by decide +kernel)
theorem D319_12 {g : im_g} : im_D g 319 12 (.iload_n 1) 13 := im_D.of (by decide +kernel)
theorem D319_13 {g : im_g} : im_D g 319 13 (.iaload) 14 := im_D.of (by decide +kernel)
theorem D319_14 {g : im_g} : im_D g 319 14 (.bipush 8) 16 := im_D.of (by decide +kernel)
theorem D319_16 {g : im_g} : im_D g 319 16 (.if_icmp .ne 9) 19 := im_D.of (by decide +kernel)
theorem D319_19 {g : im_g} : im_D g 319 19 (.ldc2_w 519) 22 := im_D.of (by decide +kernel)
theorem D319_22 {g : im_g} : im_D g 319 22 (.goto 23) 25 := im_D.of (by decide +kernel)
theorem D319_25 {g : im_g} : im_D g 319 25 (.aload_n 0) 26 := im_D.of (by decide +kernel)
theorem D319_26 {g : im_g} : im_D g 319 26 (.getfield 33) 29 := im_D.of (by decide +kernel)
theorem D319_29 {g : im_g} : im_D g 319 29 (.iload_n 1) 30 := im_D.of (by decide +kernel)
theorem D319_30 {g : im_g} : im_D g 319 30 (.iaload) 31 := im_D.of (by decide +kernel)
theorem D319_31 {g : im_g} : im_D g 319 31 (.bipush 9) 33 := im_D.of (by decide +kernel)
theorem D319_33 {g : im_g} : im_D g 319 33 (.if_icmp .ne 9) 36 := im_D.of (by decide +kernel)
theorem D319_36 {g : im_g} : im_D g 319 36 (.ldc2_w 521) 39 := im_D.of (by decide +kernel)
theorem D319_39 {g : im_g} : im_D g 319 39 (.goto 6) 42 := im_D.of (by decide +kernel)
theorem D319_42 {g : im_g} : im_D g 319 42 (.ldc2_w 523) 45 := im_D.of (by decide +kernel)
theorem D319_45 {g : im_g} : im_D g 319 45 (.invokevirtual 750) 48 := im_D.of (by decide +kernel)
theorem D319_48 {g : im_g} : im_D g 319 48 (.aload_n 0) 49 := im_D.of (by decide +kernel)
theorem D319_49 {g : im_g} : im_D g 319 49 (.iconst 0) 50 := im_D.of (by decide +kernel)
theorem D319_50 {g : im_g} : im_D g 319 50 (.aload_n 0) 51 := im_D.of (by decide +kernel)
theorem D319_51 {g : im_g} : im_D g 319 51 (.getfield 54) 54 := im_D.of (by decide +kernel)
theorem D319_54 {g : im_g} : im_D g 319 54 (.iload_n 1) 55 := im_D.of (by decide +kernel)
theorem D319_55 {g : im_g} : im_D g 319 55 (.iaload) 56 := im_D.of (by decide +kernel)
theorem D319_56 {g : im_g} : im_D g 319 56 (.invokevirtual 753) 59 := im_D.of (by decide +kernel)
theorem D319_59 {g : im_g} : im_D g 319 59 (.aload_n 0) 60 := im_D.of (by decide +kernel)
theorem D319_60 {g : im_g} : im_D g 319 60 (.iconst 0) 61 := im_D.of (by decide +kernel)
theorem D319_61 {g : im_g} : im_D g 319 61 (.aload_n 0) 62 := im_D.of (by decide +kernel)
theorem D319_62 {g : im_g} : im_D g 319 62 (.getfield 48) 65 := im_D.of (by decide +kernel)
theorem D319_65 {g : im_g} : im_D g 319 65 (.iload_n 1) 66 := im_D.of (by decide +kernel)
theorem D319_66 {g : im_g} : im_D g 319 66 (.iaload) 67 := im_D.of (by decide +kernel)
theorem D319_67 {g : im_g} : im_D g 319 67 (.invokevirtual 753) 70 := im_D.of (by decide +kernel)
theorem D319_70 {g : im_g} : im_D g 319 70 (.aload_n 0) 71 := im_D.of (by decide +kernel)
theorem D319_71 {g : im_g} : im_D g 319 71 (.iconst 0) 72 := im_D.of (by decide +kernel)
theorem D319_72 {g : im_g} : im_D g 319 72 (.aload_n 0) 73 := im_D.of (by decide +kernel)
theorem D319_73 {g : im_g} : im_D g 319 73 (.getfield 45) 76 := im_D.of (by decide +kernel)
theorem D319_76 {g : im_g} : im_D g 319 76 (.iload_n 1) 77 := im_D.of (by decide +kernel)
theorem D319_77 {g : im_g} : im_D g 319 77 (.iaload) 78 := im_D.of (by decide +kernel)
theorem D319_78 {g : im_g} : im_D g 319 78 (.invokevirtual 753) 81 := im_D.of (by decide +kernel)
theorem D319_81 {g : im_g} : im_D g 319 81 (.aload_n 0) 82 := im_D.of (by decide +kernel)
theorem D319_82 {g : im_g} : im_D g 319 82 (.getfield 33) 85 := im_D.of (by decide +kernel)
theorem D319_85 {g : im_g} : im_D g 319 85 (.iload_n 1) 86 := im_D.of (by decide +kernel)
theorem D319_86 {g : im_g} : im_D g 319 86 (.iaload) 87 := im_D.of (by decide +kernel)
theorem D319_87 {g : im_g} : im_D g 319 87 (.bipush 10) 89 := im_D.of (by decide +kernel)
theorem D319_89 {g : im_g} : im_D g 319 89 (.if_icmp .ne 4) 92 := im_D.of (by decide +kernel)
theorem D319_92 {g : im_g} : im_D g 319 92 (.return_) 93 := im_D.of (by decide +kernel)
theorem D319_93 {g : im_g} : im_D g 319 93 (.aload_n 0) 94 := im_D.of (by decide +kernel)
theorem D319_94 {g : im_g} : im_D g 319 94 (.aload_n 0) 95 := im_D.of (by decide +kernel)
theorem D319_95 {g : im_g} : im_D g 319 95 (.getfield 36) 98 := im_D.of (by decide +kernel)
theorem D319_98 {g : im_g} : im_D g 319 98 (.iload_n 1) 99 := im_D.of (by decide +kernel)
theorem D319_99 {g : im_g} : im_D g 319 99 (.laload) 100 := im_D.of (by decide +kernel)
theorem D319_100 {g : im_g} : im_D g 319 100 (.invokevirtual 750) 103 := im_D.of (by decide +kernel)
theorem D319_103 {g : im_g} : im_D g 319 103 (.aload_n 0) 104 := im_D.of (by decide +kernel)
theorem D319_104 {g : im_g} : im_D g 319 104 (.aload_n 0) 105 := im_D.of (by decide +kernel)
theorem D319_105 {g : im_g} : im_D g 319 105 (.getfield 39) 108 := im_D.of (by decide +kernel)
theorem D319_108 {g : im_g} : im_D g 319 108 (.iload_n 1) 109 := im_D.of (by decide +kernel)
theorem D319_109 {g : im_g} : im_D g 319 109 (.laload) 110 := im_D.of (by decide +kernel)
theorem D319_110 {g : im_g} : im_D g 319 110 (.invokevirtual 750) 113 := im_D.of (by decide +kernel)
theorem D319_113 {g : im_g} : im_D g 319 113 (.aload_n 0) 114 := im_D.of (by decide +kernel)
theorem D319_114 {g : im_g} : im_D g 319 114 (.getfield 33) 117 := im_D.of (by decide +kernel)
theorem D319_117 {g : im_g} : im_D g 319 117 (.iload_n 1) 118 := im_D.of (by decide +kernel)
theorem D319_118 {g : im_g} : im_D g 319 118 (.iaload) 119 := im_D.of (by decide +kernel)
theorem D319_119 {g : im_g} : im_D g 319 119 (.bipush 8) 121 := im_D.of (by decide +kernel)
theorem D319_121 {g : im_g} : im_D g 319 121 (.if_icmp .ne 14) 124 := im_D.of (by decide +kernel)
theorem D319_124 {g : im_g} : im_D g 319 124 (.aload_n 0) 125 := im_D.of (by decide +kernel)
theorem D319_125 {g : im_g} : im_D g 319 125 (.aload_n 0) 126 := im_D.of (by decide +kernel)
theorem D319_126 {g : im_g} : im_D g 319 126 (.getfield 42) 129 := im_D.of (by decide +kernel)
theorem D319_129 {g : im_g} : im_D g 319 129 (.iload_n 1) 130 := im_D.of (by decide +kernel)
theorem D319_130 {g : im_g} : im_D g 319 130 (.laload) 131 := im_D.of (by decide +kernel)
theorem D319_131 {g : im_g} : im_D g 319 131 (.invokevirtual 750) 134 := im_D.of (by decide +kernel)
theorem D319_134 {g : im_g} : im_D g 319 134 (.return_) 135 := im_D.of (by decide +kernel)
theorem D319_135 {g : im_g} : im_D g 319 135 (.aload_n 0) 136 := im_D.of (by decide +kernel)
theorem D319_136 {g : im_g} : im_D g 319 136 (.bipush 32) 138 := im_D.of (by decide +kernel)
theorem D319_138 {g : im_g} : im_D g 319 138 (.invokevirtual 432) 141 := im_D.of (by decide +kernel)
theorem D319_141 {g : im_g} : im_D g 319 141 (.aload_n 0) 142 := im_D.of (by decide +kernel)
theorem D319_142 {g : im_g} : im_D g 319 142 (.bipush 91) 144 := im_D.of (by decide +kernel)
theorem D319_144 {g : im_g} : im_D g 319 144 (.invokevirtual 432) 147 := im_D.of (by decide +kernel)
theorem D319_147 {g : im_g} : im_D g 319 147 (.aload_n 0) 148 := im_D.of (by decide +kernel)
theorem D319_148 {g : im_g} : im_D g 319 148 (.getfield 67) 151 := im_D.of (by decide +kernel)
theorem D319_151 {g : im_g} : im_D g 319 151 (.iload_n 1) 152 := im_D.of (by decide +kernel)
theorem D319_152 {g : im_g} : im_D g 319 152 (.iaload) 153 := im_D.of (by decide +kernel)
theorem D319_153 {g : im_g} : im_D g 319 153 (.istore_n 2) 154 := im_D.of (by decide +kernel)
theorem D319_154 {g : im_g} : im_D g 319 154 (.iload_n 2) 155 := im_D.of (by decide +kernel)
theorem D319_155 {g : im_g} : im_D g 319 155 (.aload_n 0) 156 := im_D.of (by decide +kernel)
theorem D319_156 {g : im_g} : im_D g 319 156 (.getfield 67) 159 := im_D.of (by decide +kernel)
theorem D319_159 {g : im_g} : im_D g 319 159 (.iload_n 1) 160 := im_D.of (by decide +kernel)
theorem D319_160 {g : im_g} : im_D g 319 160 (.iaload) 161 := im_D.of (by decide +kernel)
theorem D319_161 {g : im_g} : im_D g 319 161 (.aload_n 0) 162 := im_D.of (by decide +kernel)
theorem D319_162 {g : im_g} : im_D g 319 162 (.getfield 70) 165 := im_D.of (by decide +kernel)
theorem D319_165 {g : im_g} : im_D g 319 165 (.iload_n 1) 166 := im_D.of (by decide +kernel)
theorem D319_166 {g : im_g} : im_D g 319 166 (.iaload) 167 := im_D.of (by decide +kernel)
theorem D319_167 {g : im_g} : im_D g 319 167 (.iadd) 168 := im_D.of (by decide +kernel)
theorem D319_168 {g : im_g} : im_D g 319 168 (.if_icmp .ge 41) 171 := im_D.of (by decide +kernel)
theorem D319_171 {g : im_g} : im_D g 319 171 (.aload_n 0) 172 := im_D.of (by decide +kernel)
theorem D319_172 {g : im_g} : im_D g 319 172 (.bipush 32) 174 := im_D.of (by decide +kernel)
theorem D319_174 {g : im_g} : im_D g 319 174 (.invokevirtual 432) 177 := im_D.of (by decide +kernel)
theorem D319_177 {g : im_g} : im_D g 319 177 (.aload_n 0) 178 := im_D.of (by decide +kernel)
theorem D319_178 {g : im_g} : im_D g 319 178 (.aload_n 0) 179 := im_D.of (by decide +kernel)
theorem D319_179 {g : im_g} : im_D g 319 179 (.getfield 73) 182 := im_D.of (by decide +kernel)
theorem D319_182 {g : im_g} : im_D g 319 182 (.iload_n 2) 183 := im_D.of (by decide +kernel)
theorem D319_183 {g : im_g} : im_D g 319 183 (.iaload) 184 := im_D.of (by decide +kernel)
theorem D319_184 {g : im_g} : im_D g 319 184 (.invokevirtual 756) 187 := im_D.of (by decide +kernel)
theorem D319_187 {g : im_g} : im_D g 319 187 (.aload_n 0) 188 := im_D.of (by decide +kernel)
theorem D319_188 {g : im_g} : im_D g 319 188 (.bipush 32) 190 := im_D.of (by decide +kernel)
theorem D319_190 {g : im_g} : im_D g 319 190 (.invokevirtual 432) 193 := im_D.of (by decide +kernel)
theorem D319_193 {g : im_g} : im_D g 319 193 (.aload_n 0) 194 := im_D.of (by decide +kernel)
theorem D319_194 {g : im_g} : im_D g 319 194 (.aload_n 0) 195 := im_D.of (by decide +kernel)
theorem D319_195 {g : im_g} : im_D g 319 195 (.getfield 76) 198 := im_D.of (by decide +kernel)
theorem D319_198 {g : im_g} : im_D g 319 198 (.iload_n 2) 199 := im_D.of (by decide +kernel)
theorem D319_199 {g : im_g} : im_D g 319 199 (.iaload) 200 := im_D.of (by decide +kernel)
theorem D319_200 {g : im_g} : im_D g 319 200 (.invokevirtual 756) 203 := im_D.of (by decide +kernel)
theorem D319_203 {g : im_g} : im_D g 319 203 (.iinc 2 1) 206 := im_D.of (by decide +kernel)
theorem D319_206 {g : im_g} : im_D g 319 206 (.goto (-52)) 209 := im_D.of (by decide +kernel)
theorem D319_209 {g : im_g} : im_D g 319 209 (.aload_n 0) 210 := im_D.of (by decide +kernel)
theorem D319_210 {g : im_g} : im_D g 319 210 (.bipush 32) 212 := im_D.of (by decide +kernel)
theorem D319_212 {g : im_g} : im_D g 319 212 (.invokevirtual 432) 215 := im_D.of (by decide +kernel)
theorem D319_215 {g : im_g} : im_D g 319 215 (.aload_n 0) 216 := im_D.of (by decide +kernel)
theorem D319_216 {g : im_g} : im_D g 319 216 (.bipush 93) 218 := im_D.of (by decide +kernel)
theorem D319_218 {g : im_g} : im_D g 319 218 (.invokevirtual 432) 221 := im_D.of (by decide +kernel)
theorem D319_221 {g : im_g} : im_D g 319 221 (.return_) 222 := im_D.of (by decide +kernel)
theorem D320_0 {g : im_g} : im_D g 320 0 (.aload_n 0) 1 := im_D.of (by decide +kernel)
theorem D320_1 {g : im_g} : im_D g 320 1 (.invokevirtual 438) 4 := im_D.of (by decide +kernel)
theorem D320_4 {g : im_g} : im_D g 320 4 (.aload_n 0) 5 := im_D.of (by decide +kernel)
theorem D320_5 {g : im_g} : im_D g 320 5 (.lload_n 1) 6 := im_D.of (by decide +kernel)
theorem D320_6 {g : im_g} : im_D g 320 6 (.invokevirtual 441) 9 := im_D.of (by decide +kernel)
theorem D320_9 {g : im_g} : im_D g 320 9 (.return_) 10 := im_D.of (by decide +kernel)
theorem D321_0 {g : im_g} : im_D g 321 0 (.aload_n 0) 1 := im_D.of (by decide +kernel)
theorem D321_1 {g : im_g} : im_D g 321 1 (.getfield 423) 4 := im_D.of (by decide +kernel)
theorem D321_4 {g : im_g} : im_D g 321 4 (.ifCond .le 9) 7 := im_D.of (by decide +kernel)
theorem D321_7 {g : im_g} : im_D g 321 7 (.aload_n 0) 8 := im_D.of (by decide +kernel)
theorem D321_8 {g : im_g} : im_D g 321 8 (.bipush 32) 10 := im_D.of (by decide +kernel)
theorem D321_10 {g : im_g} : im_D g 321 10 (.invokevirtual 432) 13 := im_D.of (by decide +kernel)
theorem D321_13 {g : im_g} : im_D g 321 13 (.return_) 14 := im_D.of (by decide +kernel)
theorem D322_0 {g : im_g} : im_D g 322 0 (.aload_n 0) 1 := im_D.of (by decide +kernel)
theorem D322_1 {g : im_g} : im_D g 322 1 (.getfield 423) 4 := im_D.of (by decide +kernel)
theorem D322_4 {g : im_g} : im_D g 322 4 (.sipush 16384) 7 := im_D.of (by decide +kernel)
theorem D322_7 {g : im_g} : im_D g 322 7 (.if_icmp .ge 23) 10 := im_D.of (by decide +kernel)
theorem D322_10 {g : im_g} : im_D g 322 10 (.aload_n 0) 11 := im_D.of (by decide +kernel)
theorem D322_11 {g : im_g} : im_D g 322 11 (.getfield 13) 14 := im_D.of (by decide +kernel)
theorem D322_14 {g : im_g} : im_D g 322 14 (.aload_n 0) 15 := im_D.of (by decide +kernel)
theorem D322_15 {g : im_g} : im_D g 322 15 (.getfield 423) 18 := im_D.of (by decide +kernel)
theorem D322_18 {g : im_g} : im_D g 322 18 (.iload_n 1) 19 := im_D.of (by decide +kernel)
theorem D322_19 {g : im_g} : im_D g 322 19 (.iastore) 20 := im_D.of (by decide +kernel)
theorem D322_20 {g : im_g} : im_D g 322 20 (.aload_n 0) 21 := im_D.of (by decide +kernel)
theorem D322_21 {g : im_g} : im_D g 322 21 (.dup) 22 := im_D.of (by decide +kernel)
theorem D322_22 {g : im_g} : im_D g 322 22 (.getfield 423) 25 := im_D.of (by decide +kernel)
theorem D322_25 {g : im_g} : im_D g 322 25 (.iconst 1) 26 := im_D.of (by decide +kernel)
theorem D322_26 {g : im_g} : im_D g 322 26 (.iadd) 27 := im_D.of (by decide +kernel)
theorem D322_27 {g : im_g} : im_D g 322 27 (.putfield 423) 30 := im_D.of (by decide +kernel)
theorem D322_30 {g : im_g} : im_D g 322 30 (.return_) 31 := im_D.of (by decide +kernel)
theorem D323_0 {g : im_g} : im_D g 323 0 (.bipush 56) 2 := im_D.of (by decide +kernel)
theorem D323_2 {g : im_g} : im_D g 323 2 (.istore_n 3) 3 := im_D.of (by decide +kernel)
theorem D323_3 {g : im_g} : im_D g 323 3 (.iload_n 3) 4 := im_D.of (by decide +kernel)
theorem D323_4 {g : im_g} : im_D g 323 4 (.ifCond .lt 29) 7 := im_D.of (by decide +kernel)
theorem D323_7 {g : im_g} : im_D g 323 7 (.lload_n 1) 8 := im_D.of (by decide +kernel)
theorem D323_8 {g : im_g} : im_D g 323 8 (.iload_n 3) 9 := im_D.of (by decide +kernel)
theorem D323_9 {g : im_g} : im_D g 323 9 (.lshr) 10 := im_D.of (by decide +kernel)
theorem D323_10 {g : im_g} : im_D g 323 10 (.lconst 0) 11 := im_D.of (by decide +kernel)
theorem D323_11 {g : im_g} : im_D g 323 11 (.lcmp) 12 := im_D.of (by decide +kernel)
theorem D323_12 {g : im_g} : im_D g 323 12 (.ifCond .le 15) 15 := im_D.of (by decide +kernel)
theorem D323_15 {g : im_g} : im_D g 323 15 (.aload_n 0) 16 := im_D.of (by decide +kernel)
theorem D323_16 {g : im_g} : im_D g 323 16 (.lload_n 1) 17 := im_D.of (by decide +kernel)
theorem D323_17 {g : im_g} : im_D g 323 17 (.iload_n 3) 18 := im_D.of (by decide +kernel)
theorem D323_18 {g : im_g} : im_D g 323 18 (.lshr) 19 := im_D.of (by decide +kernel)
theorem D323_19 {g : im_g} : im_D g 323 19 (.ldc2_w 436) 22 := im_D.of (by decide +kernel)
theorem D323_22 {g : im_g} : im_D g 323 22 (.land) 23 := im_D.of (by decide +kernel)
theorem D323_23 {g : im_g} : im_D g 323 23 (.l2i) 24 := im_D.of (by decide +kernel)
theorem D323_24 {g : im_g} : im_D g 323 24 (.invokevirtual 432) 27 := im_D.of (by decide +kernel)
theorem D323_27 {g : im_g} : im_D g 323 27 (.iinc 3 (-8)) 30 := im_D.of (by decide +kernel)
theorem D323_30 {g : im_g} : im_D g 323 30 (.goto (-27)) 33 := im_D.of (by decide +kernel)
theorem D323_33 {g : im_g} : im_D g 323 33 (.return_) 34 := im_D.of (by decide +kernel)
theorem D324_0 {g : im_g} : im_D g 324 0 (.aload_n 0) 1 := im_D.of (by decide +kernel)
theorem D324_1 {g : im_g} : im_D g 324 1 (.getfield 17) 4 := im_D.of (by decide +kernel)
theorem D324_4 {g : im_g} : im_D g 324 4 (.iload_n 1) 5 := im_D.of (by decide +kernel)
theorem D324_5 {g : im_g} : im_D g 324 5 (.iaload) 6 := im_D.of (by decide +kernel)
theorem D324_6 {g : im_g} : im_D g 324 6 (.ifCond .ge 9) 9 := im_D.of (by decide +kernel)
theorem D324_9 {g : im_g} : im_D g 324 9 (.aload_n 0) 10 := im_D.of (by decide +kernel)
theorem D324_10 {g : im_g} : im_D g 324 10 (.bipush 45) 12 := im_D.of (by decide +kernel)
theorem D324_12 {g : im_g} : im_D g 324 12 (.invokevirtual 432) 15 := im_D.of (by decide +kernel)
theorem D324_15 {g : im_g} : im_D g 324 15 (.aload_n 0) 16 := im_D.of (by decide +kernel)
theorem D324_16 {g : im_g} : im_D g 324 16 (.getfield 17) 19 := im_D.of (by decide +kernel)
theorem D324_19 {g : im_g} : im_D g 324 19 (.iload_n 1) 20 := im_D.of (by decide +kernel)
theorem D324_20 {g : im_g} : im_D g 324 20 (.iconst 1) 21 := im_D.of (by decide +kernel)
theorem D324_21 {g : im_g} : im_D g 324 21 (.iadd) 22 := im_D.of (by decide +kernel)
theorem D324_22 {g : im_g} : im_D g 324 22 (.iaload) 23 := im_D.of (by decide +kernel)
theorem D324_23 {g : im_g} : im_D g 324 23 (.ifCond .ne 9) 26 := im_D.of (by decide +kernel)
theorem D324_26 {g : im_g} : im_D g 324 26 (.aload_n 0) 27 := im_D.of (by decide +kernel)
theorem D324_27 {g : im_g} : im_D g 324 27 (.bipush 48) 29 := im_D.of (by decide +kernel)
theorem D324_29 {g : im_g} : im_D g 324 29 (.invokevirtual 432) 32 := im_D.of (by decide +kernel)
theorem D324_32 {g : im_g} : im_D g 324 32 (.aload_n 0) 33 := im_D.of (by decide +kernel)
theorem D324_33 {g : im_g} : im_D g 324 33 (.getfield 17) 36 := im_D.of (by decide +kernel)
theorem D324_36 {g : im_g} : im_D g 324 36 (.iload_n 1) 37 := im_D.of (by decide +kernel)
theorem D324_37 {g : im_g} : im_D g 324 37 (.iconst 1) 38 := im_D.of (by decide +kernel)
theorem D324_38 {g : im_g} : im_D g 324 38 (.iadd) 39 := im_D.of (by decide +kernel)
theorem D324_39 {g : im_g} : im_D g 324 39 (.iaload) 40 := im_D.of (by decide +kernel)
theorem D324_40 {g : im_g} : im_D g 324 40 (.iconst 1) 41 := im_D.of (by decide +kernel)
theorem D324_41 {g : im_g} : im_D g 324 41 (.isub) 42 := im_D.of (by decide +kernel)
theorem D324_42 {g : im_g} : im_D g 324 42 (.istore_n 2) 43 := im_D.of (by decide +kernel)
theorem D324_43 {g : im_g} : im_D g 324 43 (.iload_n 2) 44 := im_D.of (by decide +kernel)
theorem D324_44 {g : im_g} : im_D g 324 44 (.ifCond .lt 26) 47 := im_D.of (by decide +kernel)
theorem D324_47 {g : im_g} : im_D g 324 47 (.aload_n 0) 48 := im_D.of (by decide +kernel)
theorem D324_48 {g : im_g} : im_D g 324 48 (.bipush 48) 50 := im_D.of (by decide +kernel)
theorem D324_50 {g : im_g} : im_D g 324 50 (.aload_n 0) 51 := im_D.of (by decide +kernel)
theorem D324_51 {g : im_g} : im_D g 324 51 (.getfield 17) 54 := im_D.of (by decide +kernel)
theorem D324_54 {g : im_g} : im_D g 324 54 (.iload_n 1) 55 := im_D.of (by decide +kernel)
theorem D324_55 {g : im_g} : im_D g 324 55 (.iconst 2) 56 := im_D.of (by decide +kernel)
theorem D324_56 {g : im_g} : im_D g 324 56 (.iadd) 57 := im_D.of (by decide +kernel)
theorem D324_57 {g : im_g} : im_D g 324 57 (.iload_n 2) 58 := im_D.of (by decide +kernel)
theorem D324_58 {g : im_g} : im_D g 324 58 (.iadd) 59 := im_D.of (by decide +kernel)
theorem D324_59 {g : im_g} : im_D g 324 59 (.iaload) 60 := im_D.of (by decide +kernel)
theorem D324_60 {g : im_g} : im_D g 324 60 (.iadd) 61 := im_D.of (by decide +kernel)
theorem D324_61 {g : im_g} : im_D g 324 61 (.invokevirtual 432) 64 := im_D.of (by decide +kernel)
theorem D324_64 {g : im_g} : im_D g 324 64 (.iinc 2 (-1)) 67 := im_D.of (by decide +kernel)
theorem D324_67 {g : im_g} : im_D g 324 67 (.goto (-24)) 70 := im_D.of (by decide +kernel)
theorem D324_70 {g : im_g} : im_D g 324 70 (.return_) 71 := im_D.of (by decide +kernel)
theorem D325_0 {g : im_g} : im_D g 325 0 (.aload_n 0) 1 := im_D.of (by decide +kernel)
theorem D325_1 {g : im_g} : im_D g 325 1 (.invokevirtual 438) 4 := im_D.of (by decide +kernel)
theorem D325_4 {g : im_g} : im_D g 325 4 (.aload_n 0) 5 := im_D.of (by decide +kernel)
theorem D325_5 {g : im_g} : im_D g 325 5 (.bipush 63) 7 := im_D.of (by decide +kernel)
theorem D325_7 {g : im_g} : im_D g 325 7 (.invokevirtual 432) 10 := im_D.of (by decide +kernel)
theorem D325_10 {g : im_g} : im_D g 325 10 (.aload_n 0) 11 := im_D.of (by decide +kernel)
theorem D325_11 {g : im_g} : im_D g 325 11 (.lload_n 1) 12 := im_D.of (by decide +kernel)
theorem D325_12 {g : im_g} : im_D g 325 12 (.invokevirtual 441) 15 := im_D.of (by decide +kernel)
theorem D325_15 {g : im_g} : im_D g 325 15 (.return_) 16 := im_D.of (by decide +kernel)
set_option maxRecDepth 20000 in
set_option maxHeartbeats 4000000 in
theorem b_tellNode_0 {g : im_g} {d : Nat} {e : im_E} {M : im_M} {K : im_K} {p1 : Int} (hd : 1 ≤ d) (hP : (0 ≤ p1 ∧ p1 < 5100) ∧ im_T g (d - 1) 268 0 [some (vL (M 6960 p1)), none, some (vL 8), none, some (vL 10), none] [] e M (im_ri (fun x4 e_ M3 => e = e_ ∧ (im_i32 x4) ∧ ((x4 = 0 → ((¬ (M 6960 p1) = 21 → ((¬ (M 6960 p1) = 20 → im_T g (d - 1) 326 0 [some (vI (M 6960 p1)), none, none, none, none, none, none, none, none, none, none] [] e M3 (im_rl (fun x11 e_ M10 => e = e_ ∧ im_T g (d - 1) 320 0 [some (.ref 6952), some (vL x11), none] [] e M10 (im_r0 (fun  e_ M12 => e = e_ ∧ ((¬ (M 6960 p1) = 5 → im_T g (d - 1) 317 0 [some (.ref 6952), some (vI 0), some (vI (M12 6966 p1))] [] e M12 (im_r0 (fun  e_ M16 => e = e_ ∧ im_T g (d - 1) 317 0 [some (.ref 6952), some (vI 0), some (vI (M16 6965 p1))] [] e M16 (im_r0 (fun  e_ M18 => e = e_ ∧ im_T g (d - 1) 317 0 [some (.ref 6952), some (vI 0), some (vI (M18 6964 p1))] [] e M18 (im_r0 (fun  e_ M20 => e = e_ ∧ (((M20 6961 p1) = 0 → ((((¬ (M 6960 p1) = 2 → ((¬ (M 6960 p1) = 3 → (((M20 6962 p1) = 0 → (((M20 6963 p1) = 0 → K (.inl none) e M20) ∧ (¬ (M20 6963 p1) = 0 → im_T g (d - 1) 320 0 [some (.ref 6952), some (vL (M20 6963 p1)), none] [] e M20 (im_r0 (fun  e_ M57 => e = e_ ∧ K (.inl none) e M57))))) ∧ (¬ (M20 6962 p1) = 0 → im_T g (d - 1) 320 0 [some (.ref 6952), some (vL (M20 6962 p1)), none] [] e M20 (im_r0 (fun  e_ M59 => e = e_ ∧ (((M59 6963 p1) = 0 → K (.inl none) e M59) ∧ (¬ (M59 6963 p1) = 0 → im_T g (d - 1) 320 0 [some (.ref 6952), some (vL (M59 6963 p1)), none] [] e M59 (im_r0 (fun  e_ M63 => e = e_ ∧ K (.inl none) e M63))))))))))))) ∧ (((((M 6960 p1) = 2)) ∨ ((¬ (M 6960 p1) = 2) ∧ ((M 6960 p1) = 3))) → ((∀ x30 : Int, (((¬ (M 6960 p1) = 2) ∧ x30 = 1768846447) ∨ (((M 6960 p1) = 2) ∧ x30 = 29807)) → im_T g (d - 1) 320 0 [some (.ref 6952), some (vL x30), none] [] e M20 (im_r0 (fun  e_ M34 => e = e_ ∧ (((M34 6962 p1) = 0 → (((M34 6963 p1) = 0 → K (.inl none) e M34) ∧ (¬ (M34 6963 p1) = 0 → im_T g (d - 1) 320 0 [some (.ref 6952), some (vL (M34 6963 p1)), none] [] e M34 (im_r0 (fun  e_ M41 => e = e_ ∧ K (.inl none) e M41))))) ∧ (¬ (M34 6962 p1) = 0 → im_T g (d - 1) 320 0 [some (.ref 6952), some (vL (M34 6962 p1)), none] [] e M34 (im_r0 (fun  e_ M43 => e = e_ ∧ (((M43 6963 p1) = 0 → K (.inl none) e M43) ∧ (¬ (M43 6963 p1) = 0 → im_T g (d - 1) 320 0 [some (.ref 6952), some (vL (M43 6963 p1)), none] [] e M43 (im_r0 (fun  e_ M47 => e = e_ ∧ K (.inl none) e M47))))))))))))))) ∧ (¬ (M20 6961 p1) = 0 → im_T g (d - 1) 320 0 [some (.ref 6952), some (vL (M20 6961 p1)), none] [] e M20 (im_r0 (fun  e_ M66 => e = e_ ∧ ((((¬ (M 6960 p1) = 2 → ((¬ (M 6960 p1) = 3 → (((M66 6962 p1) = 0 → (((M66 6963 p1) = 0 → K (.inl none) e M66) ∧ (¬ (M66 6963 p1) = 0 → im_T g (d - 1) 320 0 [some (.ref 6952), some (vL (M66 6963 p1)), none] [] e M66 (im_r0 (fun  e_ M100 => e = e_ ∧ K (.inl none) e M100))))) ∧ (¬ (M66 6962 p1) = 0 → im_T g (d - 1) 320 0 [some (.ref 6952), some (vL (M66 6962 p1)), none] [] e M66 (im_r0 (fun  e_ M102 => e = e_ ∧ (((M102 6963 p1) = 0 → K (.inl none) e M102) ∧ (¬ (M102 6963 p1) = 0 → im_T g (d - 1) 320 0 [some (.ref 6952), some (vL (M102 6963 p1)), none] [] e M102 (im_r0 (fun  e_ M106 => e = e_ ∧ K (.inl none) e M106))))))))))))) ∧ (((((M 6960 p1) = 2)) ∨ ((¬ (M 6960 p1) = 2) ∧ ((M 6960 p1) = 3))) → ((∀ x73 : Int, (((¬ (M 6960 p1) = 2) ∧ x73 = 1768846447) ∨ (((M 6960 p1) = 2) ∧ x73 = 29807)) → im_T g (d - 1) 320 0 [some (.ref 6952), some (vL x73), none] [] e M66 (im_r0 (fun  e_ M77 => e = e_ ∧ (((M77 6962 p1) = 0 → (((M77 6963 p1) = 0 → K (.inl none) e M77) ∧ (¬ (M77 6963 p1) = 0 → im_T g (d - 1) 320 0 [some (.ref 6952), some (vL (M77 6963 p1)), none] [] e M77 (im_r0 (fun  e_ M84 => e = e_ ∧ K (.inl none) e M84))))) ∧ (¬ (M77 6962 p1) = 0 → im_T g (d - 1) 320 0 [some (.ref 6952), some (vL (M77 6962 p1)), none] [] e M77 (im_r0 (fun  e_ M86 => e = e_ ∧ (((M86 6963 p1) = 0 → K (.inl none) e M86) ∧ (¬ (M86 6963 p1) = 0 → im_T g (d - 1) 320 0 [some (.ref 6952), some (vL (M86 6963 p1)), none] [] e M86 (im_r0 (fun  e_ M90 => e = e_ ∧ K (.inl none) e M90))))))))))))))))))))))))) ∧ ((M 6960 p1) = 5 → im_T g (d - 1) 317 0 [some (.ref 6952), some (vI 0), some (vI (M12 6965 p1))] [] e M12 (im_r0 (fun  e_ M113 => e = e_ ∧ im_T g (d - 1) 317 0 [some (.ref 6952), some (vI 3), some (vI p1)] [] e M113 (im_r0 (fun  e_ M114 => e = e_ ∧ im_T g (d - 1) 317 0 [some (.ref 6952), some (vI 2), some (vI p1)] [] e M114 (im_r0 (fun  e_ M115 => e = e_ ∧ im_T g (d - 1) 317 0 [some (.ref 6952), some (vI 0), some (vI (M115 6964 p1))] [] e M115 (im_r0 (fun  e_ M117 => e = e_ ∧ im_T g (d - 1) 317 0 [some (.ref 6952), some (vI 1), some (vI p1)] [] e M117 (im_r0 (fun  e_ M118 => e = e_ ∧ K (.inl none) e M118))))))))))))))))) ∧ ((M 6960 p1) = 20 → im_T g (d - 1) 321 0 [some (.ref 6952)] [] e M3 (im_r0 (fun  e_ M126 => e = e_ ∧ im_T g (d - 1) 324 0 [some (.ref 6952), some (vI (M126 6968 p1)), none] [] e M126 (im_r0 (fun  e_ M128 => e = e_ ∧ K (.inl none) e M128))))))) ∧ ((M 6960 p1) = 21 → im_T g (d - 1) 325 0 [some (.ref 6952), some (vL (M3 6961 p1)), none] [] e M3 (im_r0 (fun  e_ M131 => e = e_ ∧ K (.inl none) e M131))))) ∧ (¬ x4 = 0 → im_T g (d - 1) 319 0 [some (.ref 6952), some (vI p1), none] [] e M3 (im_r0 (fun  e_ M133 => e = e_ ∧ K (.inl none) e M133))))))) : im_T g d 318 0 [some (.ref 6952), some (vI p1), none] [] e M K := by
  refine im_ld (q := 1) (i := 0) D318_0 rfl rfl rfl ?_
  refine im_gfR (q := 4) (b := 6960) D318_1 (im_fl cn_318 fl_12_33) sf_6952 rfl rfl tR_12_21 rf_6952_21 ?_
  refine im_ld (q := 5) (i := 1) D318_4 rfl rfl rfl ?_
  obtain ⟨hg1, hP⟩ := hP
  refine im_rng (j := p1) sf_6960 hg1.1 hg1.2 (fun hr2 => ?_)
  refine im_iald (q := 6) D318_5 sf_6960 hg1.1 hg1.2 (by decide) rfl ?_
  refine im_st1 (q := 7) (i := 2) (L' := [some (.ref 6952), some (vI p1), some (vI (M 6960 p1))]) D318_6 (Or.inl ⟨_, rfl, rfl⟩) (Nat.le_of_ble_eq_true rfl) rfl ?_
  refine im_ld (q := 8) (i := 2) D318_7 rfl rfl rfl ?_
  refine im_i2l (q := 9) D318_8 hr2 ?_
  refine im_ldc2 (q := 12) (n := 8) D318_9 rfl ?_
  refine im_ldc2 (q := 15) (n := 10) D318_12 rfl ?_
  refine im_callS (q := 18) (kd := 0) (y := 268) (n := 3) (z := 12) (vs := [vL (M 6960 p1), vL 8, vL 10]) (r := []) (L2 := [some (vL (M 6960 p1)), none, some (vL 8), none, some (vL 10), none]) D318_15 rfl (im_cal cn_318 cl_12_428) (Or.inl rfl) rfl rfl rfl rfl rfl hd ⟨rfl, rfl, rfl, trivial⟩ ?_
  refine hP.mono ?_
  rintro _ e135 M3 ⟨x4, rfl, rfl, hP⟩
  refine im_bkS ?_
  obtain ⟨hg5, hP⟩ := hP
  refine im_ifc (q := 21) (t := 27) D318_18 rfl hg5 (fun hc6 => ?_) (fun hc6 => ?_)
  · replace hP := hP.1 hc6
    refine im_ld (q := 28) (i := 2) D318_27 rfl rfl rfl ?_
    refine im_bipush (q := 30) D318_28 rfl ?_
    refine im_icmp (q := 33) (t := 44) D318_30 rfl hr2 (by decide) (fun hc7 => ?_) (fun hc7 => ?_)
    · replace hP := hP.1 hc7
      refine im_ld (q := 45) (i := 2) D318_44 rfl rfl rfl ?_
      refine im_bipush (q := 47) D318_45 rfl ?_
      refine im_icmp (q := 50) (t := 65) D318_47 rfl hr2 (by decide) (fun hc8 => ?_) (fun hc8 => ?_)
      · replace hP := hP.1 hc8
        refine im_ld (q := 66) (i := 0) D318_65 rfl rfl rfl ?_
        refine im_ld (q := 67) (i := 2) D318_66 rfl rfl rfl ?_
        refine im_callS (q := 70) (kd := 0) (y := 326) (n := 1) (z := 12) (vs := [vI (M 6960 p1)]) (r := [.ref 6952]) (L2 := [some (vI (M 6960 p1)), none, none, none, none, none, none, none, none, none, none]) D318_67 rfl (im_cal cn_318 cl_12_767) (Or.inl rfl) rfl rfl rfl rfl rfl hd ⟨rfl, trivial⟩ ?_
        refine hP.mono ?_
        rintro _ e125 M10 ⟨x11, rfl, rfl, hP⟩
        refine im_bkS ?_
        refine im_callV (q := 73) (kd := 1) (y := 320) (n := 1) (ci := 12) (a := 6952) (vs := [.ref 6952, vL x11]) (r := []) (L2 := [some (.ref 6952), some (vL x11), none]) D318_70 (im_cal cn_318 cl_12_750) (Or.inl rfl) rfl sf_6952 rfl rfl rfl rfl hd ⟨rfl, rfl, trivial⟩ ?_
        refine hP.mono ?_
        rintro _ e124 M12 ⟨rfl, rfl, hP⟩
        refine im_bkN ?_
        refine im_ld (q := 74) (i := 2) D318_73 rfl rfl rfl ?_
        refine im_iconst (q := 75) D318_74 ?_
        refine im_icmp (q := 78) (t := 119) D318_75 rfl hr2 (by decide) (fun hc13 => ?_) (fun hc13 => ?_)
        · replace hP := hP.1 hc13
          refine im_ld (q := 120) (i := 0) D318_119 rfl rfl rfl ?_
          refine im_iconst (q := 121) D318_120 ?_
          refine im_ld (q := 122) (i := 0) D318_121 rfl rfl rfl ?_
          refine im_gfR (q := 125) (b := 6966) D318_122 (im_fl cn_318 fl_12_51) sf_6952 rfl rfl tR_12_27 rf_6952_27 ?_
          refine im_ld (q := 126) (i := 1) D318_125 rfl rfl rfl ?_
          refine im_rng (j := p1) sf_6966 hg1.1 hg1.2 (fun hr14 => ?_)
          refine im_iald (q := 127) D318_126 sf_6966 hg1.1 hg1.2 (by decide) rfl ?_
          refine im_callV (q := 130) (kd := 1) (y := 317) (n := 2) (ci := 12) (a := 6952) (vs := [.ref 6952, vI 0, vI (M12 6966 p1)]) (r := []) (L2 := [some (.ref 6952), some (vI 0), some (vI (M12 6966 p1))]) D318_127 (im_cal cn_318 cl_12_753) (Or.inl rfl) rfl sf_6952 rfl rfl rfl rfl hd ⟨rfl, rfl, rfl, trivial⟩ ?_
          refine hP.mono ?_
          rintro _ e112 M16 ⟨rfl, rfl, hP⟩
          refine im_bkN ?_
          refine im_ld (q := 131) (i := 0) D318_130 rfl rfl rfl ?_
          refine im_iconst (q := 132) D318_131 ?_
          refine im_ld (q := 133) (i := 0) D318_132 rfl rfl rfl ?_
          refine im_gfR (q := 136) (b := 6965) D318_133 (im_fl cn_318 fl_12_48) sf_6952 rfl rfl tR_12_26 rf_6952_26 ?_
          refine im_ld (q := 137) (i := 1) D318_136 rfl rfl rfl ?_
          refine im_rng (j := p1) sf_6965 hg1.1 hg1.2 (fun hr17 => ?_)
          refine im_iald (q := 138) D318_137 sf_6965 hg1.1 hg1.2 (by decide) rfl ?_
          refine im_callV (q := 141) (kd := 1) (y := 317) (n := 2) (ci := 12) (a := 6952) (vs := [.ref 6952, vI 0, vI (M16 6965 p1)]) (r := []) (L2 := [some (.ref 6952), some (vI 0), some (vI (M16 6965 p1))]) D318_138 (im_cal cn_318 cl_12_753) (Or.inl rfl) rfl sf_6952 rfl rfl rfl rfl hd ⟨rfl, rfl, rfl, trivial⟩ ?_
          refine hP.mono ?_
          rintro _ e111 M18 ⟨rfl, rfl, hP⟩
          refine im_bkN ?_
          refine im_ld (q := 142) (i := 0) D318_141 rfl rfl rfl ?_
          refine im_iconst (q := 143) D318_142 ?_
          refine im_ld (q := 144) (i := 0) D318_143 rfl rfl rfl ?_
          refine im_gfR (q := 147) (b := 6964) D318_144 (im_fl cn_318 fl_12_45) sf_6952 rfl rfl tR_12_25 rf_6952_25 ?_
          refine im_ld (q := 148) (i := 1) D318_147 rfl rfl rfl ?_
          refine im_rng (j := p1) sf_6964 hg1.1 hg1.2 (fun hr19 => ?_)
          refine im_iald (q := 149) D318_148 sf_6964 hg1.1 hg1.2 (by decide) rfl ?_
          refine im_callV (q := 152) (kd := 1) (y := 317) (n := 2) (ci := 12) (a := 6952) (vs := [.ref 6952, vI 0, vI (M18 6964 p1)]) (r := []) (L2 := [some (.ref 6952), some (vI 0), some (vI (M18 6964 p1))]) D318_149 (im_cal cn_318 cl_12_753) (Or.inl rfl) rfl sf_6952 rfl rfl rfl rfl hd ⟨rfl, rfl, rfl, trivial⟩ ?_
          refine hP.mono ?_
          rintro _ e110 M20 ⟨rfl, rfl, hP⟩
          refine im_bkN ?_
          refine im_ld (q := 153) (i := 0) D318_152 rfl rfl rfl ?_
          refine im_gfR (q := 156) (b := 6961) D318_153 (im_fl cn_318 fl_12_36) sf_6952 rfl rfl tR_12_22 rf_6952_22 ?_
          refine im_ld (q := 157) (i := 1) D318_156 rfl rfl rfl ?_
          refine im_rng (j := p1) sf_6961 hg1.1 hg1.2 (fun hr21 => ?_)
          refine im_lald (q := 158) D318_157 sf_6961 hg1.1 hg1.2 (by decide) rfl ?_
          refine im_lconst (q := 159) (z := 0) D318_158 rfl ?_
          refine im_lif (q := 160) (q2 := 163) (t := 173) D318_159 D318_160 rfl hr21 (by decide) (fun hc22 => ?_) (fun hc22 => ?_)
          · replace hP := hP.1 hc22
            refine im_ld (q := 174) (i := 2) D318_173 rfl rfl rfl ?_
            refine im_iconst (q := 175) D318_174 ?_
            obtain ⟨hP, hJ26⟩ := hP
            have kJ27 : ((((M 6960 p1) = 2)) ∨ ((¬ (M 6960 p1) = 2) ∧ ((M 6960 p1) = 3))) → im_T g d 318 183 [some (.ref 6952), some (vI p1), some (vI (M 6960 p1))] [] e M20 K := by
              intro  hx28
              have hP := hJ26  hx28
              refine im_ld (q := 184) (i := 0) D318_183 rfl rfl rfl ?_
              refine im_ld (q := 185) (i := 2) D318_184 rfl rfl rfl ?_
              refine im_iconst (q := 186) D318_185 ?_
              have hJ31 := hP
              have kJ32 : ∀ x30 : Int, (((¬ (M 6960 p1) = 2) ∧ x30 = 1768846447) ∨ (((M 6960 p1) = 2) ∧ x30 = 29807)) → im_T g d 318 198 [some (.ref 6952), some (vI p1), none] [vL x30, .ref 6952] e M20 K := by
                intro x30 hx33
                have hP := hJ31 x30 hx33
                refine im_callV (q := 201) (kd := 1) (y := 320) (n := 1) (ci := 12) (a := 6952) (vs := [.ref 6952, vL x30]) (r := []) (L2 := [some (.ref 6952), some (vL x30), none]) D318_198 (im_cal cn_318 cl_12_750) (Or.inl rfl) rfl sf_6952 rfl rfl rfl rfl hd ⟨rfl, rfl, trivial⟩ ?_
                refine hP.mono ?_
                rintro _ e50 M34 ⟨rfl, rfl, hP⟩
                refine im_bkN ?_
                refine im_ld (q := 202) (i := 0) D318_201 rfl rfl rfl ?_
                refine im_gfR (q := 205) (b := 6962) D318_202 (im_fl cn_318 fl_12_39) sf_6952 rfl rfl tR_12_23 rf_6952_23 ?_
                refine im_ld (q := 206) (i := 1) D318_205 rfl rfl rfl ?_
                refine im_rng (j := p1) sf_6962 hg1.1 hg1.2 (fun hr35 => ?_)
                refine im_lald (q := 207) D318_206 sf_6962 hg1.1 hg1.2 (by decide) rfl ?_
                refine im_lconst (q := 208) (z := 0) D318_207 rfl ?_
                refine im_lif (q := 209) (q2 := 212) (t := 222) D318_208 D318_209 rfl hr35 (by decide) (fun hc36 => ?_) (fun hc36 => ?_)
                · replace hP := hP.1 hc36
                  refine im_ld (q := 223) (i := 0) D318_222 rfl rfl rfl ?_
                  refine im_gfR (q := 226) (b := 6963) D318_223 (im_fl cn_318 fl_12_42) sf_6952 rfl rfl tR_12_24 rf_6952_24 ?_
                  refine im_ld (q := 227) (i := 1) D318_226 rfl rfl rfl ?_
                  refine im_rng (j := p1) sf_6963 hg1.1 hg1.2 (fun hr38 => ?_)
                  refine im_lald (q := 228) D318_227 sf_6963 hg1.1 hg1.2 (by decide) rfl ?_
                  refine im_lconst (q := 229) (z := 0) D318_228 rfl ?_
                  refine im_lif (q := 230) (q2 := 233) (t := 243) D318_229 D318_230 rfl hr38 (by decide) (fun hc39 => ?_) (fun hc39 => ?_)
                  · replace hP := hP.1 hc39
                    exact im_vret (q := 244) D318_243 rfl hP
                  · replace hP := hP.2 hc39
                    refine im_ld (q := 234) (i := 0) D318_233 rfl rfl rfl ?_
                    refine im_ld (q := 235) (i := 0) D318_234 rfl rfl rfl ?_
                    refine im_gfR (q := 238) (b := 6963) D318_235 (im_fl cn_318 fl_12_42) sf_6952 rfl rfl tR_12_24 rf_6952_24 ?_
                    refine im_ld (q := 239) (i := 1) D318_238 rfl rfl rfl ?_
                    refine im_lald (q := 240) D318_239 sf_6963 hg1.1 hg1.2 (by decide) rfl ?_
                    refine im_callV (q := 243) (kd := 1) (y := 320) (n := 1) (ci := 12) (a := 6952) (vs := [.ref 6952, vL (M34 6963 p1)]) (r := []) (L2 := [some (.ref 6952), some (vL (M34 6963 p1)), none]) D318_240 (im_cal cn_318 cl_12_750) (Or.inl rfl) rfl sf_6952 rfl rfl rfl rfl hd ⟨rfl, rfl, trivial⟩ ?_
                    refine hP.mono ?_
                    rintro _ e42 M41 ⟨rfl, rfl, hP⟩
                    refine im_bkN ?_
                    exact im_vret (q := 244) D318_243 rfl hP
                · replace hP := hP.2 hc36
                  refine im_ld (q := 213) (i := 0) D318_212 rfl rfl rfl ?_
                  refine im_ld (q := 214) (i := 0) D318_213 rfl rfl rfl ?_
                  refine im_gfR (q := 217) (b := 6962) D318_214 (im_fl cn_318 fl_12_39) sf_6952 rfl rfl tR_12_23 rf_6952_23 ?_
                  refine im_ld (q := 218) (i := 1) D318_217 rfl rfl rfl ?_
                  refine im_lald (q := 219) D318_218 sf_6962 hg1.1 hg1.2 (by decide) rfl ?_
                  refine im_callV (q := 222) (kd := 1) (y := 320) (n := 1) (ci := 12) (a := 6952) (vs := [.ref 6952, vL (M34 6962 p1)]) (r := []) (L2 := [some (.ref 6952), some (vL (M34 6962 p1)), none]) D318_219 (im_cal cn_318 cl_12_750) (Or.inl rfl) rfl sf_6952 rfl rfl rfl rfl hd ⟨rfl, rfl, trivial⟩ ?_
                  refine hP.mono ?_
                  rintro _ e49 M43 ⟨rfl, rfl, hP⟩
                  refine im_bkN ?_
                  refine im_ld (q := 223) (i := 0) D318_222 rfl rfl rfl ?_
                  refine im_gfR (q := 226) (b := 6963) D318_223 (im_fl cn_318 fl_12_42) sf_6952 rfl rfl tR_12_24 rf_6952_24 ?_
                  refine im_ld (q := 227) (i := 1) D318_226 rfl rfl rfl ?_
                  refine im_rng (j := p1) sf_6963 hg1.1 hg1.2 (fun hr44 => ?_)
                  refine im_lald (q := 228) D318_227 sf_6963 hg1.1 hg1.2 (by decide) rfl ?_
                  refine im_lconst (q := 229) (z := 0) D318_228 rfl ?_
                  refine im_lif (q := 230) (q2 := 233) (t := 243) D318_229 D318_230 rfl hr44 (by decide) (fun hc45 => ?_) (fun hc45 => ?_)
                  · replace hP := hP.1 hc45
                    exact im_vret (q := 244) D318_243 rfl hP
                  · replace hP := hP.2 hc45
                    refine im_ld (q := 234) (i := 0) D318_233 rfl rfl rfl ?_
                    refine im_ld (q := 235) (i := 0) D318_234 rfl rfl rfl ?_
                    refine im_gfR (q := 238) (b := 6963) D318_235 (im_fl cn_318 fl_12_42) sf_6952 rfl rfl tR_12_24 rf_6952_24 ?_
                    refine im_ld (q := 239) (i := 1) D318_238 rfl rfl rfl ?_
                    refine im_lald (q := 240) D318_239 sf_6963 hg1.1 hg1.2 (by decide) rfl ?_
                    refine im_callV (q := 243) (kd := 1) (y := 320) (n := 1) (ci := 12) (a := 6952) (vs := [.ref 6952, vL (M43 6963 p1)]) (r := []) (L2 := [some (.ref 6952), some (vL (M43 6963 p1)), none]) D318_240 (im_cal cn_318 cl_12_750) (Or.inl rfl) rfl sf_6952 rfl rfl rfl rfl hd ⟨rfl, rfl, trivial⟩ ?_
                    refine hP.mono ?_
                    rintro _ e48 M47 ⟨rfl, rfl, hP⟩
                    refine im_bkN ?_
                    exact im_vret (q := 244) D318_243 rfl hP
              refine im_icmp (q := 189) (t := 195) D318_186 rfl hr2 (by decide) (fun hc29 => ?_) (fun hc29 => ?_)
              · refine im_ldc2 (q := 198) (n := 1768846447) D318_195 rfl ?_
                exact (kJ32 (1768846447) (Or.inl ⟨hc29, rfl⟩)).wk ⟨rfl, rfl, trivial⟩
              · refine im_ldc2 (q := 192) (n := 29807) D318_189 rfl ?_
                refine im_goto (q := 195) (t := 198) D318_192 rfl ?_
                exact (kJ32 (29807) (Or.inr ⟨(Decidable.not_not.mp hc29), rfl⟩)).wk ⟨rfl, rfl, trivial⟩
            refine im_icmp (q := 178) (t := 183) D318_175 rfl hr2 (by decide) (fun hc24 => ?_) (fun hc24 => ?_)
            · exact (kJ27  (Or.inl hc24)).wk ⟨rfl, rfl, rfl, trivial⟩
            · replace hP := hP hc24
              refine im_ld (q := 179) (i := 2) D318_178 rfl rfl rfl ?_
              refine im_iconst (q := 180) D318_179 ?_
              refine im_icmp (q := 183) (t := 201) D318_180 rfl hr2 (by decide) (fun hc25 => ?_) (fun hc25 => ?_)
              · replace hP := hP hc25
                refine im_ld (q := 202) (i := 0) D318_201 rfl rfl rfl ?_
                refine im_gfR (q := 205) (b := 6962) D318_202 (im_fl cn_318 fl_12_39) sf_6952 rfl rfl tR_12_23 rf_6952_23 ?_
                refine im_ld (q := 206) (i := 1) D318_205 rfl rfl rfl ?_
                refine im_rng (j := p1) sf_6962 hg1.1 hg1.2 (fun hr51 => ?_)
                refine im_lald (q := 207) D318_206 sf_6962 hg1.1 hg1.2 (by decide) rfl ?_
                refine im_lconst (q := 208) (z := 0) D318_207 rfl ?_
                refine im_lif (q := 209) (q2 := 212) (t := 222) D318_208 D318_209 rfl hr51 (by decide) (fun hc52 => ?_) (fun hc52 => ?_)
                · replace hP := hP.1 hc52
                  refine im_ld (q := 223) (i := 0) D318_222 rfl rfl rfl ?_
                  refine im_gfR (q := 226) (b := 6963) D318_223 (im_fl cn_318 fl_12_42) sf_6952 rfl rfl tR_12_24 rf_6952_24 ?_
                  refine im_ld (q := 227) (i := 1) D318_226 rfl rfl rfl ?_
                  refine im_rng (j := p1) sf_6963 hg1.1 hg1.2 (fun hr54 => ?_)
                  refine im_lald (q := 228) D318_227 sf_6963 hg1.1 hg1.2 (by decide) rfl ?_
                  refine im_lconst (q := 229) (z := 0) D318_228 rfl ?_
                  refine im_lif (q := 230) (q2 := 233) (t := 243) D318_229 D318_230 rfl hr54 (by decide) (fun hc55 => ?_) (fun hc55 => ?_)
                  · replace hP := hP.1 hc55
                    exact im_vret (q := 244) D318_243 rfl hP
                  · replace hP := hP.2 hc55
                    refine im_ld (q := 234) (i := 0) D318_233 rfl rfl rfl ?_
                    refine im_ld (q := 235) (i := 0) D318_234 rfl rfl rfl ?_
                    refine im_gfR (q := 238) (b := 6963) D318_235 (im_fl cn_318 fl_12_42) sf_6952 rfl rfl tR_12_24 rf_6952_24 ?_
                    refine im_ld (q := 239) (i := 1) D318_238 rfl rfl rfl ?_
                    refine im_lald (q := 240) D318_239 sf_6963 hg1.1 hg1.2 (by decide) rfl ?_
                    refine im_callV (q := 243) (kd := 1) (y := 320) (n := 1) (ci := 12) (a := 6952) (vs := [.ref 6952, vL (M20 6963 p1)]) (r := []) (L2 := [some (.ref 6952), some (vL (M20 6963 p1)), none]) D318_240 (im_cal cn_318 cl_12_750) (Or.inl rfl) rfl sf_6952 rfl rfl rfl rfl hd ⟨rfl, rfl, trivial⟩ ?_
                    refine hP.mono ?_
                    rintro _ e58 M57 ⟨rfl, rfl, hP⟩
                    refine im_bkN ?_
                    exact im_vret (q := 244) D318_243 rfl hP
                · replace hP := hP.2 hc52
                  refine im_ld (q := 213) (i := 0) D318_212 rfl rfl rfl ?_
                  refine im_ld (q := 214) (i := 0) D318_213 rfl rfl rfl ?_
                  refine im_gfR (q := 217) (b := 6962) D318_214 (im_fl cn_318 fl_12_39) sf_6952 rfl rfl tR_12_23 rf_6952_23 ?_
                  refine im_ld (q := 218) (i := 1) D318_217 rfl rfl rfl ?_
                  refine im_lald (q := 219) D318_218 sf_6962 hg1.1 hg1.2 (by decide) rfl ?_
                  refine im_callV (q := 222) (kd := 1) (y := 320) (n := 1) (ci := 12) (a := 6952) (vs := [.ref 6952, vL (M20 6962 p1)]) (r := []) (L2 := [some (.ref 6952), some (vL (M20 6962 p1)), none]) D318_219 (im_cal cn_318 cl_12_750) (Or.inl rfl) rfl sf_6952 rfl rfl rfl rfl hd ⟨rfl, rfl, trivial⟩ ?_
                  refine hP.mono ?_
                  rintro _ e65 M59 ⟨rfl, rfl, hP⟩
                  refine im_bkN ?_
                  refine im_ld (q := 223) (i := 0) D318_222 rfl rfl rfl ?_
                  refine im_gfR (q := 226) (b := 6963) D318_223 (im_fl cn_318 fl_12_42) sf_6952 rfl rfl tR_12_24 rf_6952_24 ?_
                  refine im_ld (q := 227) (i := 1) D318_226 rfl rfl rfl ?_
                  refine im_rng (j := p1) sf_6963 hg1.1 hg1.2 (fun hr60 => ?_)
                  refine im_lald (q := 228) D318_227 sf_6963 hg1.1 hg1.2 (by decide) rfl ?_
                  refine im_lconst (q := 229) (z := 0) D318_228 rfl ?_
                  refine im_lif (q := 230) (q2 := 233) (t := 243) D318_229 D318_230 rfl hr60 (by decide) (fun hc61 => ?_) (fun hc61 => ?_)
                  · replace hP := hP.1 hc61
                    exact im_vret (q := 244) D318_243 rfl hP
                  · replace hP := hP.2 hc61
                    refine im_ld (q := 234) (i := 0) D318_233 rfl rfl rfl ?_
                    refine im_ld (q := 235) (i := 0) D318_234 rfl rfl rfl ?_
                    refine im_gfR (q := 238) (b := 6963) D318_235 (im_fl cn_318 fl_12_42) sf_6952 rfl rfl tR_12_24 rf_6952_24 ?_
                    refine im_ld (q := 239) (i := 1) D318_238 rfl rfl rfl ?_
                    refine im_lald (q := 240) D318_239 sf_6963 hg1.1 hg1.2 (by decide) rfl ?_
                    refine im_callV (q := 243) (kd := 1) (y := 320) (n := 1) (ci := 12) (a := 6952) (vs := [.ref 6952, vL (M59 6963 p1)]) (r := []) (L2 := [some (.ref 6952), some (vL (M59 6963 p1)), none]) D318_240 (im_cal cn_318 cl_12_750) (Or.inl rfl) rfl sf_6952 rfl rfl rfl rfl hd ⟨rfl, rfl, trivial⟩ ?_
                    refine hP.mono ?_
                    rintro _ e64 M63 ⟨rfl, rfl, hP⟩
                    refine im_bkN ?_
                    exact im_vret (q := 244) D318_243 rfl hP
              · exact (kJ27  (Or.inr ⟨hc24, (Decidable.not_not.mp hc25)⟩)).wk ⟨rfl, rfl, rfl, trivial⟩
          · replace hP := hP.2 hc22
            refine im_ld (q := 164) (i := 0) D318_163 rfl rfl rfl ?_
            refine im_ld (q := 165) (i := 0) D318_164 rfl rfl rfl ?_
            refine im_gfR (q := 168) (b := 6961) D318_165 (im_fl cn_318 fl_12_36) sf_6952 rfl rfl tR_12_22 rf_6952_22 ?_
            refine im_ld (q := 169) (i := 1) D318_168 rfl rfl rfl ?_
            refine im_lald (q := 170) D318_169 sf_6961 hg1.1 hg1.2 (by decide) rfl ?_
            refine im_callV (q := 173) (kd := 1) (y := 320) (n := 1) (ci := 12) (a := 6952) (vs := [.ref 6952, vL (M20 6961 p1)]) (r := []) (L2 := [some (.ref 6952), some (vL (M20 6961 p1)), none]) D318_170 (im_cal cn_318 cl_12_750) (Or.inl rfl) rfl sf_6952 rfl rfl rfl rfl hd ⟨rfl, rfl, trivial⟩ ?_
            refine hP.mono ?_
            rintro _ e109 M66 ⟨rfl, rfl, hP⟩
            refine im_bkN ?_
            refine im_ld (q := 174) (i := 2) D318_173 rfl rfl rfl ?_
            refine im_iconst (q := 175) D318_174 ?_
            obtain ⟨hP, hJ69⟩ := hP
            have kJ70 : ((((M 6960 p1) = 2)) ∨ ((¬ (M 6960 p1) = 2) ∧ ((M 6960 p1) = 3))) → im_T g d 318 183 [some (.ref 6952), some (vI p1), some (vI (M 6960 p1))] [] e M66 K := by
              intro  hx71
              have hP := hJ69  hx71
              refine im_ld (q := 184) (i := 0) D318_183 rfl rfl rfl ?_
              refine im_ld (q := 185) (i := 2) D318_184 rfl rfl rfl ?_
              refine im_iconst (q := 186) D318_185 ?_
              have hJ74 := hP
              have kJ75 : ∀ x73 : Int, (((¬ (M 6960 p1) = 2) ∧ x73 = 1768846447) ∨ (((M 6960 p1) = 2) ∧ x73 = 29807)) → im_T g d 318 198 [some (.ref 6952), some (vI p1), none] [vL x73, .ref 6952] e M66 K := by
                intro x73 hx76
                have hP := hJ74 x73 hx76
                refine im_callV (q := 201) (kd := 1) (y := 320) (n := 1) (ci := 12) (a := 6952) (vs := [.ref 6952, vL x73]) (r := []) (L2 := [some (.ref 6952), some (vL x73), none]) D318_198 (im_cal cn_318 cl_12_750) (Or.inl rfl) rfl sf_6952 rfl rfl rfl rfl hd ⟨rfl, rfl, trivial⟩ ?_
                refine hP.mono ?_
                rintro _ e93 M77 ⟨rfl, rfl, hP⟩
                refine im_bkN ?_
                refine im_ld (q := 202) (i := 0) D318_201 rfl rfl rfl ?_
                refine im_gfR (q := 205) (b := 6962) D318_202 (im_fl cn_318 fl_12_39) sf_6952 rfl rfl tR_12_23 rf_6952_23 ?_
                refine im_ld (q := 206) (i := 1) D318_205 rfl rfl rfl ?_
                refine im_rng (j := p1) sf_6962 hg1.1 hg1.2 (fun hr78 => ?_)
                refine im_lald (q := 207) D318_206 sf_6962 hg1.1 hg1.2 (by decide) rfl ?_
                refine im_lconst (q := 208) (z := 0) D318_207 rfl ?_
                refine im_lif (q := 209) (q2 := 212) (t := 222) D318_208 D318_209 rfl hr78 (by decide) (fun hc79 => ?_) (fun hc79 => ?_)
                · replace hP := hP.1 hc79
                  refine im_ld (q := 223) (i := 0) D318_222 rfl rfl rfl ?_
                  refine im_gfR (q := 226) (b := 6963) D318_223 (im_fl cn_318 fl_12_42) sf_6952 rfl rfl tR_12_24 rf_6952_24 ?_
                  refine im_ld (q := 227) (i := 1) D318_226 rfl rfl rfl ?_
                  refine im_rng (j := p1) sf_6963 hg1.1 hg1.2 (fun hr81 => ?_)
                  refine im_lald (q := 228) D318_227 sf_6963 hg1.1 hg1.2 (by decide) rfl ?_
                  refine im_lconst (q := 229) (z := 0) D318_228 rfl ?_
                  refine im_lif (q := 230) (q2 := 233) (t := 243) D318_229 D318_230 rfl hr81 (by decide) (fun hc82 => ?_) (fun hc82 => ?_)
                  · replace hP := hP.1 hc82
                    exact im_vret (q := 244) D318_243 rfl hP
                  · replace hP := hP.2 hc82
                    refine im_ld (q := 234) (i := 0) D318_233 rfl rfl rfl ?_
                    refine im_ld (q := 235) (i := 0) D318_234 rfl rfl rfl ?_
                    refine im_gfR (q := 238) (b := 6963) D318_235 (im_fl cn_318 fl_12_42) sf_6952 rfl rfl tR_12_24 rf_6952_24 ?_
                    refine im_ld (q := 239) (i := 1) D318_238 rfl rfl rfl ?_
                    refine im_lald (q := 240) D318_239 sf_6963 hg1.1 hg1.2 (by decide) rfl ?_
                    refine im_callV (q := 243) (kd := 1) (y := 320) (n := 1) (ci := 12) (a := 6952) (vs := [.ref 6952, vL (M77 6963 p1)]) (r := []) (L2 := [some (.ref 6952), some (vL (M77 6963 p1)), none]) D318_240 (im_cal cn_318 cl_12_750) (Or.inl rfl) rfl sf_6952 rfl rfl rfl rfl hd ⟨rfl, rfl, trivial⟩ ?_
                    refine hP.mono ?_
                    rintro _ e85 M84 ⟨rfl, rfl, hP⟩
                    refine im_bkN ?_
                    exact im_vret (q := 244) D318_243 rfl hP
                · replace hP := hP.2 hc79
                  refine im_ld (q := 213) (i := 0) D318_212 rfl rfl rfl ?_
                  refine im_ld (q := 214) (i := 0) D318_213 rfl rfl rfl ?_
                  refine im_gfR (q := 217) (b := 6962) D318_214 (im_fl cn_318 fl_12_39) sf_6952 rfl rfl tR_12_23 rf_6952_23 ?_
                  refine im_ld (q := 218) (i := 1) D318_217 rfl rfl rfl ?_
                  refine im_lald (q := 219) D318_218 sf_6962 hg1.1 hg1.2 (by decide) rfl ?_
                  refine im_callV (q := 222) (kd := 1) (y := 320) (n := 1) (ci := 12) (a := 6952) (vs := [.ref 6952, vL (M77 6962 p1)]) (r := []) (L2 := [some (.ref 6952), some (vL (M77 6962 p1)), none]) D318_219 (im_cal cn_318 cl_12_750) (Or.inl rfl) rfl sf_6952 rfl rfl rfl rfl hd ⟨rfl, rfl, trivial⟩ ?_
                  refine hP.mono ?_
                  rintro _ e92 M86 ⟨rfl, rfl, hP⟩
                  refine im_bkN ?_
                  refine im_ld (q := 223) (i := 0) D318_222 rfl rfl rfl ?_
                  refine im_gfR (q := 226) (b := 6963) D318_223 (im_fl cn_318 fl_12_42) sf_6952 rfl rfl tR_12_24 rf_6952_24 ?_
                  refine im_ld (q := 227) (i := 1) D318_226 rfl rfl rfl ?_
                  refine im_rng (j := p1) sf_6963 hg1.1 hg1.2 (fun hr87 => ?_)
                  refine im_lald (q := 228) D318_227 sf_6963 hg1.1 hg1.2 (by decide) rfl ?_
                  refine im_lconst (q := 229) (z := 0) D318_228 rfl ?_
                  refine im_lif (q := 230) (q2 := 233) (t := 243) D318_229 D318_230 rfl hr87 (by decide) (fun hc88 => ?_) (fun hc88 => ?_)
                  · replace hP := hP.1 hc88
                    exact im_vret (q := 244) D318_243 rfl hP
                  · replace hP := hP.2 hc88
                    refine im_ld (q := 234) (i := 0) D318_233 rfl rfl rfl ?_
                    refine im_ld (q := 235) (i := 0) D318_234 rfl rfl rfl ?_
                    refine im_gfR (q := 238) (b := 6963) D318_235 (im_fl cn_318 fl_12_42) sf_6952 rfl rfl tR_12_24 rf_6952_24 ?_
                    refine im_ld (q := 239) (i := 1) D318_238 rfl rfl rfl ?_
                    refine im_lald (q := 240) D318_239 sf_6963 hg1.1 hg1.2 (by decide) rfl ?_
                    refine im_callV (q := 243) (kd := 1) (y := 320) (n := 1) (ci := 12) (a := 6952) (vs := [.ref 6952, vL (M86 6963 p1)]) (r := []) (L2 := [some (.ref 6952), some (vL (M86 6963 p1)), none]) D318_240 (im_cal cn_318 cl_12_750) (Or.inl rfl) rfl sf_6952 rfl rfl rfl rfl hd ⟨rfl, rfl, trivial⟩ ?_
                    refine hP.mono ?_
                    rintro _ e91 M90 ⟨rfl, rfl, hP⟩
                    refine im_bkN ?_
                    exact im_vret (q := 244) D318_243 rfl hP
              refine im_icmp (q := 189) (t := 195) D318_186 rfl hr2 (by decide) (fun hc72 => ?_) (fun hc72 => ?_)
              · refine im_ldc2 (q := 198) (n := 1768846447) D318_195 rfl ?_
                exact (kJ75 (1768846447) (Or.inl ⟨hc72, rfl⟩)).wk ⟨rfl, rfl, trivial⟩
              · refine im_ldc2 (q := 192) (n := 29807) D318_189 rfl ?_
                refine im_goto (q := 195) (t := 198) D318_192 rfl ?_
                exact (kJ75 (29807) (Or.inr ⟨(Decidable.not_not.mp hc72), rfl⟩)).wk ⟨rfl, rfl, trivial⟩
            refine im_icmp (q := 178) (t := 183) D318_175 rfl hr2 (by decide) (fun hc67 => ?_) (fun hc67 => ?_)
            · exact (kJ70  (Or.inl hc67)).wk ⟨rfl, rfl, rfl, trivial⟩
            · replace hP := hP hc67
              refine im_ld (q := 179) (i := 2) D318_178 rfl rfl rfl ?_
              refine im_iconst (q := 180) D318_179 ?_
              refine im_icmp (q := 183) (t := 201) D318_180 rfl hr2 (by decide) (fun hc68 => ?_) (fun hc68 => ?_)
              · replace hP := hP hc68
                refine im_ld (q := 202) (i := 0) D318_201 rfl rfl rfl ?_
                refine im_gfR (q := 205) (b := 6962) D318_202 (im_fl cn_318 fl_12_39) sf_6952 rfl rfl tR_12_23 rf_6952_23 ?_
                refine im_ld (q := 206) (i := 1) D318_205 rfl rfl rfl ?_
                refine im_rng (j := p1) sf_6962 hg1.1 hg1.2 (fun hr94 => ?_)
                refine im_lald (q := 207) D318_206 sf_6962 hg1.1 hg1.2 (by decide) rfl ?_
                refine im_lconst (q := 208) (z := 0) D318_207 rfl ?_
                refine im_lif (q := 209) (q2 := 212) (t := 222) D318_208 D318_209 rfl hr94 (by decide) (fun hc95 => ?_) (fun hc95 => ?_)
                · replace hP := hP.1 hc95
                  refine im_ld (q := 223) (i := 0) D318_222 rfl rfl rfl ?_
                  refine im_gfR (q := 226) (b := 6963) D318_223 (im_fl cn_318 fl_12_42) sf_6952 rfl rfl tR_12_24 rf_6952_24 ?_
                  refine im_ld (q := 227) (i := 1) D318_226 rfl rfl rfl ?_
                  refine im_rng (j := p1) sf_6963 hg1.1 hg1.2 (fun hr97 => ?_)
                  refine im_lald (q := 228) D318_227 sf_6963 hg1.1 hg1.2 (by decide) rfl ?_
                  refine im_lconst (q := 229) (z := 0) D318_228 rfl ?_
                  refine im_lif (q := 230) (q2 := 233) (t := 243) D318_229 D318_230 rfl hr97 (by decide) (fun hc98 => ?_) (fun hc98 => ?_)
                  · replace hP := hP.1 hc98
                    exact im_vret (q := 244) D318_243 rfl hP
                  · replace hP := hP.2 hc98
                    refine im_ld (q := 234) (i := 0) D318_233 rfl rfl rfl ?_
                    refine im_ld (q := 235) (i := 0) D318_234 rfl rfl rfl ?_
                    refine im_gfR (q := 238) (b := 6963) D318_235 (im_fl cn_318 fl_12_42) sf_6952 rfl rfl tR_12_24 rf_6952_24 ?_
                    refine im_ld (q := 239) (i := 1) D318_238 rfl rfl rfl ?_
                    refine im_lald (q := 240) D318_239 sf_6963 hg1.1 hg1.2 (by decide) rfl ?_
                    refine im_callV (q := 243) (kd := 1) (y := 320) (n := 1) (ci := 12) (a := 6952) (vs := [.ref 6952, vL (M66 6963 p1)]) (r := []) (L2 := [some (.ref 6952), some (vL (M66 6963 p1)), none]) D318_240 (im_cal cn_318 cl_12_750) (Or.inl rfl) rfl sf_6952 rfl rfl rfl rfl hd ⟨rfl, rfl, trivial⟩ ?_
                    refine hP.mono ?_
                    rintro _ e101 M100 ⟨rfl, rfl, hP⟩
                    refine im_bkN ?_
                    exact im_vret (q := 244) D318_243 rfl hP
                · replace hP := hP.2 hc95
                  refine im_ld (q := 213) (i := 0) D318_212 rfl rfl rfl ?_
                  refine im_ld (q := 214) (i := 0) D318_213 rfl rfl rfl ?_
                  refine im_gfR (q := 217) (b := 6962) D318_214 (im_fl cn_318 fl_12_39) sf_6952 rfl rfl tR_12_23 rf_6952_23 ?_
                  refine im_ld (q := 218) (i := 1) D318_217 rfl rfl rfl ?_
                  refine im_lald (q := 219) D318_218 sf_6962 hg1.1 hg1.2 (by decide) rfl ?_
                  refine im_callV (q := 222) (kd := 1) (y := 320) (n := 1) (ci := 12) (a := 6952) (vs := [.ref 6952, vL (M66 6962 p1)]) (r := []) (L2 := [some (.ref 6952), some (vL (M66 6962 p1)), none]) D318_219 (im_cal cn_318 cl_12_750) (Or.inl rfl) rfl sf_6952 rfl rfl rfl rfl hd ⟨rfl, rfl, trivial⟩ ?_
                  refine hP.mono ?_
                  rintro _ e108 M102 ⟨rfl, rfl, hP⟩
                  refine im_bkN ?_
                  refine im_ld (q := 223) (i := 0) D318_222 rfl rfl rfl ?_
                  refine im_gfR (q := 226) (b := 6963) D318_223 (im_fl cn_318 fl_12_42) sf_6952 rfl rfl tR_12_24 rf_6952_24 ?_
                  refine im_ld (q := 227) (i := 1) D318_226 rfl rfl rfl ?_
                  refine im_rng (j := p1) sf_6963 hg1.1 hg1.2 (fun hr103 => ?_)
                  refine im_lald (q := 228) D318_227 sf_6963 hg1.1 hg1.2 (by decide) rfl ?_
                  refine im_lconst (q := 229) (z := 0) D318_228 rfl ?_
                  refine im_lif (q := 230) (q2 := 233) (t := 243) D318_229 D318_230 rfl hr103 (by decide) (fun hc104 => ?_) (fun hc104 => ?_)
                  · replace hP := hP.1 hc104
                    exact im_vret (q := 244) D318_243 rfl hP
                  · replace hP := hP.2 hc104
                    refine im_ld (q := 234) (i := 0) D318_233 rfl rfl rfl ?_
                    refine im_ld (q := 235) (i := 0) D318_234 rfl rfl rfl ?_
                    refine im_gfR (q := 238) (b := 6963) D318_235 (im_fl cn_318 fl_12_42) sf_6952 rfl rfl tR_12_24 rf_6952_24 ?_
                    refine im_ld (q := 239) (i := 1) D318_238 rfl rfl rfl ?_
                    refine im_lald (q := 240) D318_239 sf_6963 hg1.1 hg1.2 (by decide) rfl ?_
                    refine im_callV (q := 243) (kd := 1) (y := 320) (n := 1) (ci := 12) (a := 6952) (vs := [.ref 6952, vL (M102 6963 p1)]) (r := []) (L2 := [some (.ref 6952), some (vL (M102 6963 p1)), none]) D318_240 (im_cal cn_318 cl_12_750) (Or.inl rfl) rfl sf_6952 rfl rfl rfl rfl hd ⟨rfl, rfl, trivial⟩ ?_
                    refine hP.mono ?_
                    rintro _ e107 M106 ⟨rfl, rfl, hP⟩
                    refine im_bkN ?_
                    exact im_vret (q := 244) D318_243 rfl hP
              · exact (kJ70  (Or.inr ⟨hc67, (Decidable.not_not.mp hc68)⟩)).wk ⟨rfl, rfl, rfl, trivial⟩
        · replace hP := hP.2 (Decidable.not_not.mp hc13)
          refine im_ld (q := 79) (i := 0) D318_78 rfl rfl rfl ?_
          refine im_iconst (q := 80) D318_79 ?_
          refine im_ld (q := 81) (i := 0) D318_80 rfl rfl rfl ?_
          refine im_gfR (q := 84) (b := 6965) D318_81 (im_fl cn_318 fl_12_48) sf_6952 rfl rfl tR_12_26 rf_6952_26 ?_
          refine im_ld (q := 85) (i := 1) D318_84 rfl rfl rfl ?_
          refine im_rng (j := p1) sf_6965 hg1.1 hg1.2 (fun hr15 => ?_)
          refine im_iald (q := 86) D318_85 sf_6965 hg1.1 hg1.2 (by decide) rfl ?_
          refine im_callV (q := 89) (kd := 1) (y := 317) (n := 2) (ci := 12) (a := 6952) (vs := [.ref 6952, vI 0, vI (M12 6965 p1)]) (r := []) (L2 := [some (.ref 6952), some (vI 0), some (vI (M12 6965 p1))]) D318_86 (im_cal cn_318 cl_12_753) (Or.inl rfl) rfl sf_6952 rfl rfl rfl rfl hd ⟨rfl, rfl, rfl, trivial⟩ ?_
          refine hP.mono ?_
          rintro _ e123 M113 ⟨rfl, rfl, hP⟩
          refine im_bkN ?_
          refine im_ld (q := 90) (i := 0) D318_89 rfl rfl rfl ?_
          refine im_iconst (q := 91) D318_90 ?_
          refine im_ld (q := 92) (i := 1) D318_91 rfl rfl rfl ?_
          refine im_callV (q := 95) (kd := 1) (y := 317) (n := 2) (ci := 12) (a := 6952) (vs := [.ref 6952, vI 3, vI p1]) (r := []) (L2 := [some (.ref 6952), some (vI 3), some (vI p1)]) D318_92 (im_cal cn_318 cl_12_753) (Or.inl rfl) rfl sf_6952 rfl rfl rfl rfl hd ⟨rfl, rfl, rfl, trivial⟩ ?_
          refine hP.mono ?_
          rintro _ e122 M114 ⟨rfl, rfl, hP⟩
          refine im_bkN ?_
          refine im_ld (q := 96) (i := 0) D318_95 rfl rfl rfl ?_
          refine im_iconst (q := 97) D318_96 ?_
          refine im_ld (q := 98) (i := 1) D318_97 rfl rfl rfl ?_
          refine im_callV (q := 101) (kd := 1) (y := 317) (n := 2) (ci := 12) (a := 6952) (vs := [.ref 6952, vI 2, vI p1]) (r := []) (L2 := [some (.ref 6952), some (vI 2), some (vI p1)]) D318_98 (im_cal cn_318 cl_12_753) (Or.inl rfl) rfl sf_6952 rfl rfl rfl rfl hd ⟨rfl, rfl, rfl, trivial⟩ ?_
          refine hP.mono ?_
          rintro _ e121 M115 ⟨rfl, rfl, hP⟩
          refine im_bkN ?_
          refine im_ld (q := 102) (i := 0) D318_101 rfl rfl rfl ?_
          refine im_iconst (q := 103) D318_102 ?_
          refine im_ld (q := 104) (i := 0) D318_103 rfl rfl rfl ?_
          refine im_gfR (q := 107) (b := 6964) D318_104 (im_fl cn_318 fl_12_45) sf_6952 rfl rfl tR_12_25 rf_6952_25 ?_
          refine im_ld (q := 108) (i := 1) D318_107 rfl rfl rfl ?_
          refine im_rng (j := p1) sf_6964 hg1.1 hg1.2 (fun hr116 => ?_)
          refine im_iald (q := 109) D318_108 sf_6964 hg1.1 hg1.2 (by decide) rfl ?_
          refine im_callV (q := 112) (kd := 1) (y := 317) (n := 2) (ci := 12) (a := 6952) (vs := [.ref 6952, vI 0, vI (M115 6964 p1)]) (r := []) (L2 := [some (.ref 6952), some (vI 0), some (vI (M115 6964 p1))]) D318_109 (im_cal cn_318 cl_12_753) (Or.inl rfl) rfl sf_6952 rfl rfl rfl rfl hd ⟨rfl, rfl, rfl, trivial⟩ ?_
          refine hP.mono ?_
          rintro _ e120 M117 ⟨rfl, rfl, hP⟩
          refine im_bkN ?_
          refine im_ld (q := 113) (i := 0) D318_112 rfl rfl rfl ?_
          refine im_iconst (q := 114) D318_113 ?_
          refine im_ld (q := 115) (i := 1) D318_114 rfl rfl rfl ?_
          refine im_callV (q := 118) (kd := 1) (y := 317) (n := 2) (ci := 12) (a := 6952) (vs := [.ref 6952, vI 1, vI p1]) (r := []) (L2 := [some (.ref 6952), some (vI 1), some (vI p1)]) D318_115 (im_cal cn_318 cl_12_753) (Or.inl rfl) rfl sf_6952 rfl rfl rfl rfl hd ⟨rfl, rfl, rfl, trivial⟩ ?_
          refine hP.mono ?_
          rintro _ e119 M118 ⟨rfl, rfl, hP⟩
          refine im_bkN ?_
          exact im_vret (q := 119) D318_118 rfl hP
      · replace hP := hP.2 (Decidable.not_not.mp hc8)
        refine im_ld (q := 51) (i := 0) D318_50 rfl rfl rfl ?_
        refine im_callV (q := 54) (kd := 1) (y := 321) (n := 0) (ci := 12) (a := 6952) (vs := [.ref 6952]) (r := []) (L2 := [some (.ref 6952)]) D318_51 (im_cal cn_318 cl_12_438) (Or.inl rfl) rfl sf_6952 rfl rfl rfl rfl hd ⟨rfl, trivial⟩ ?_
        refine hP.mono ?_
        rintro _ e130 M126 ⟨rfl, rfl, hP⟩
        refine im_bkN ?_
        refine im_ld (q := 55) (i := 0) D318_54 rfl rfl rfl ?_
        refine im_ld (q := 56) (i := 0) D318_55 rfl rfl rfl ?_
        refine im_gfR (q := 59) (b := 6968) D318_56 (im_fl cn_318 fl_12_57) sf_6952 rfl rfl tR_12_29 rf_6952_29 ?_
        refine im_ld (q := 60) (i := 1) D318_59 rfl rfl rfl ?_
        refine im_rng (j := p1) sf_6968 hg1.1 hg1.2 (fun hr127 => ?_)
        refine im_iald (q := 61) D318_60 sf_6968 hg1.1 hg1.2 (by decide) rfl ?_
        refine im_callV (q := 64) (kd := 1) (y := 324) (n := 1) (ci := 12) (a := 6952) (vs := [.ref 6952, vI (M126 6968 p1)]) (r := []) (L2 := [some (.ref 6952), some (vI (M126 6968 p1)), none]) D318_61 (im_cal cn_318 cl_12_756) (Or.inl rfl) rfl sf_6952 rfl rfl rfl rfl hd ⟨rfl, rfl, trivial⟩ ?_
        refine hP.mono ?_
        rintro _ e129 M128 ⟨rfl, rfl, hP⟩
        refine im_bkN ?_
        exact im_vret (q := 65) D318_64 rfl hP
    · replace hP := hP.2 (Decidable.not_not.mp hc7)
      refine im_ld (q := 34) (i := 0) D318_33 rfl rfl rfl ?_
      refine im_ld (q := 35) (i := 0) D318_34 rfl rfl rfl ?_
      refine im_gfR (q := 38) (b := 6961) D318_35 (im_fl cn_318 fl_12_36) sf_6952 rfl rfl tR_12_22 rf_6952_22 ?_
      refine im_ld (q := 39) (i := 1) D318_38 rfl rfl rfl ?_
      refine im_rng (j := p1) sf_6961 hg1.1 hg1.2 (fun hr9 => ?_)
      refine im_lald (q := 40) D318_39 sf_6961 hg1.1 hg1.2 (by decide) rfl ?_
      refine im_callV (q := 43) (kd := 1) (y := 325) (n := 1) (ci := 12) (a := 6952) (vs := [.ref 6952, vL (M3 6961 p1)]) (r := []) (L2 := [some (.ref 6952), some (vL (M3 6961 p1)), none]) D318_40 (im_cal cn_318 cl_12_764) (Or.inl rfl) rfl sf_6952 rfl rfl rfl rfl hd ⟨rfl, rfl, trivial⟩ ?_
      refine hP.mono ?_
      rintro _ e132 M131 ⟨rfl, rfl, hP⟩
      refine im_bkN ?_
      exact im_vret (q := 44) D318_43 rfl hP
  · replace hP := hP.2 hc6
    refine im_ld (q := 22) (i := 0) D318_21 rfl rfl rfl ?_
    refine im_ld (q := 23) (i := 1) D318_22 rfl rfl rfl ?_
    refine im_callV (q := 26) (kd := 1) (y := 319) (n := 1) (ci := 12) (a := 6952) (vs := [.ref 6952, vI p1]) (r := []) (L2 := [some (.ref 6952), some (vI p1), none]) D318_23 (im_cal cn_318 cl_12_761) (Or.inl rfl) rfl sf_6952 rfl rfl rfl rfl hd ⟨rfl, rfl, trivial⟩ ?_
    refine hP.mono ?_
    rintro _ e134 M133 ⟨rfl, rfl, hP⟩
    refine im_bkN ?_
    exact im_vret (q := 27) D318_26 rfl hP
set_option maxRecDepth 20000 in
set_option maxHeartbeats 4000000 in
theorem b_tellCase_0 {g : im_g} {d : Nat} {e : im_E} {M : im_M} {K : im_K} {p1 : Int} (hd : 1 ≤ d) (hP : im_T g (d - 1) 320 0 [some (.ref 6952), some (vL 1667330917), none] [] e M (im_r0 (fun  e_ M1 => e = e_ ∧ (0 ≤ p1 ∧ p1 < 5100) ∧ ((∀ x7 : Int, (((¬ (M1 6960 p1) = 8) ∧ (¬ (M1 6960 p1) = 9) ∧ x7 = 121424973489785) ∨ ((¬ (M1 6960 p1) = 8) ∧ ((M1 6960 p1) = 9) ∧ x7 = 109300196926309) ∨ (((M1 6960 p1) = 8) ∧ x7 = 28259031251642740)) → im_T g (d - 1) 320 0 [some (.ref 6952), some (vL x7), none] [] e M1 (im_r0 (fun  e_ M11 => e = e_ ∧ im_T g (d - 1) 317 0 [some (.ref 6952), some (vI 0), some (vI (M11 6967 p1))] [] e M11 (im_r0 (fun  e_ M13 => e = e_ ∧ im_T g (d - 1) 317 0 [some (.ref 6952), some (vI 0), some (vI (M13 6965 p1))] [] e M13 (im_r0 (fun  e_ M15 => e = e_ ∧ im_T g (d - 1) 317 0 [some (.ref 6952), some (vI 0), some (vI (M15 6964 p1))] [] e M15 (im_r0 (fun  e_ M17 => e = e_ ∧ ((¬ (M17 6960 p1) = 10 → im_T g (d - 1) 320 0 [some (.ref 6952), some (vL (M17 6961 p1)), none] [] e M17 (im_r0 (fun  e_ M21 => e = e_ ∧ im_T g (d - 1) 320 0 [some (.ref 6952), some (vL (M21 6962 p1)), none] [] e M21 (im_r0 (fun  e_ M23 => e = e_ ∧ ((¬ (M23 6960 p1) = 8 → im_T g (d - 1) 322 0 [some (.ref 6952), some (vI 32)] [] e M23 (im_r0 (fun  e_ M27 => e = e_ ∧ im_T g (d - 1) 322 0 [some (.ref 6952), some (vI 91)] [] e M27 (im_r0 (fun  e_ M28 => e = e_ ∧ im_T g d 319 154 [some (.ref 6952), some (vI p1), some (vI (M28 6971 p1))] [] e M28 K))))) ∧ ((M23 6960 p1) = 8 → im_T g (d - 1) 320 0 [some (.ref 6952), some (vL (M23 6963 p1)), none] [] e M23 (im_r0 (fun  e_ M32 => e = e_ ∧ K (.inl none) e M32))))))))) ∧ ((M17 6960 p1) = 10 → K (.inl none) e M17))))))))))))))) : im_T g d 319 0 [some (.ref 6952), some (vI p1), none] [] e M K := by
  refine im_ld (q := 1) (i := 0) D319_0 rfl rfl rfl ?_
  refine im_ldc2 (q := 4) (n := 1667330917) D319_1 rfl ?_
  refine im_callV (q := 7) (kd := 1) (y := 320) (n := 1) (ci := 12) (a := 6952) (vs := [.ref 6952, vL 1667330917]) (r := []) (L2 := [some (.ref 6952), some (vL 1667330917), none]) D319_4 (im_cal cn_319 cl_12_750) (Or.inl rfl) rfl sf_6952 rfl rfl rfl rfl hd ⟨rfl, rfl, trivial⟩ ?_
  refine hP.mono ?_
  rintro _ e40 M1 ⟨rfl, rfl, hP⟩
  refine im_bkN ?_
  refine im_ld (q := 8) (i := 0) D319_7 rfl rfl rfl ?_
  refine im_ld (q := 9) (i := 0) D319_8 rfl rfl rfl ?_
  refine im_gfR (q := 12) (b := 6960) D319_9 (im_fl cn_319 fl_12_33) sf_6952 rfl rfl tR_12_21 rf_6952_21 ?_
  refine im_ld (q := 13) (i := 1) D319_12 rfl rfl rfl ?_
  obtain ⟨hg2, hP⟩ := hP
  refine im_rng (j := p1) sf_6960 hg2.1 hg2.2 (fun hr3 => ?_)
  refine im_iald (q := 14) D319_13 sf_6960 hg2.1 hg2.2 (by decide) rfl ?_
  refine im_bipush (q := 16) D319_14 rfl ?_
  have hJ8 := hP
  have kJ9 : ∀ x7 : Int, (((¬ (M1 6960 p1) = 8) ∧ (¬ (M1 6960 p1) = 9) ∧ x7 = 121424973489785) ∨ ((¬ (M1 6960 p1) = 8) ∧ ((M1 6960 p1) = 9) ∧ x7 = 109300196926309) ∨ (((M1 6960 p1) = 8) ∧ x7 = 28259031251642740)) → im_T g d 319 45 [some (.ref 6952), some (vI p1), none] [vL x7, .ref 6952] e M1 K := by
    intro x7 hx10
    have hP := hJ8 x7 hx10
    refine im_callV (q := 48) (kd := 1) (y := 320) (n := 1) (ci := 12) (a := 6952) (vs := [.ref 6952, vL x7]) (r := []) (L2 := [some (.ref 6952), some (vL x7), none]) D319_45 (im_cal cn_319 cl_12_750) (Or.inl rfl) rfl sf_6952 rfl rfl rfl rfl hd ⟨rfl, rfl, trivial⟩ ?_
    refine hP.mono ?_
    rintro _ e39 M11 ⟨rfl, rfl, hP⟩
    refine im_bkN ?_
    refine im_ld (q := 49) (i := 0) D319_48 rfl rfl rfl ?_
    refine im_iconst (q := 50) D319_49 ?_
    refine im_ld (q := 51) (i := 0) D319_50 rfl rfl rfl ?_
    refine im_gfR (q := 54) (b := 6967) D319_51 (im_fl cn_319 fl_12_54) sf_6952 rfl rfl tR_12_28 rf_6952_28 ?_
    refine im_ld (q := 55) (i := 1) D319_54 rfl rfl rfl ?_
    refine im_rng (j := p1) sf_6967 hg2.1 hg2.2 (fun hr12 => ?_)
    refine im_iald (q := 56) D319_55 sf_6967 hg2.1 hg2.2 (by decide) rfl ?_
    refine im_callV (q := 59) (kd := 1) (y := 317) (n := 2) (ci := 12) (a := 6952) (vs := [.ref 6952, vI 0, vI (M11 6967 p1)]) (r := []) (L2 := [some (.ref 6952), some (vI 0), some (vI (M11 6967 p1))]) D319_56 (im_cal cn_319 cl_12_753) (Or.inl rfl) rfl sf_6952 rfl rfl rfl rfl hd ⟨rfl, rfl, rfl, trivial⟩ ?_
    refine hP.mono ?_
    rintro _ e38 M13 ⟨rfl, rfl, hP⟩
    refine im_bkN ?_
    refine im_ld (q := 60) (i := 0) D319_59 rfl rfl rfl ?_
    refine im_iconst (q := 61) D319_60 ?_
    refine im_ld (q := 62) (i := 0) D319_61 rfl rfl rfl ?_
    refine im_gfR (q := 65) (b := 6965) D319_62 (im_fl cn_319 fl_12_48) sf_6952 rfl rfl tR_12_26 rf_6952_26 ?_
    refine im_ld (q := 66) (i := 1) D319_65 rfl rfl rfl ?_
    refine im_rng (j := p1) sf_6965 hg2.1 hg2.2 (fun hr14 => ?_)
    refine im_iald (q := 67) D319_66 sf_6965 hg2.1 hg2.2 (by decide) rfl ?_
    refine im_callV (q := 70) (kd := 1) (y := 317) (n := 2) (ci := 12) (a := 6952) (vs := [.ref 6952, vI 0, vI (M13 6965 p1)]) (r := []) (L2 := [some (.ref 6952), some (vI 0), some (vI (M13 6965 p1))]) D319_67 (im_cal cn_319 cl_12_753) (Or.inl rfl) rfl sf_6952 rfl rfl rfl rfl hd ⟨rfl, rfl, rfl, trivial⟩ ?_
    refine hP.mono ?_
    rintro _ e37 M15 ⟨rfl, rfl, hP⟩
    refine im_bkN ?_
    refine im_ld (q := 71) (i := 0) D319_70 rfl rfl rfl ?_
    refine im_iconst (q := 72) D319_71 ?_
    refine im_ld (q := 73) (i := 0) D319_72 rfl rfl rfl ?_
    refine im_gfR (q := 76) (b := 6964) D319_73 (im_fl cn_319 fl_12_45) sf_6952 rfl rfl tR_12_25 rf_6952_25 ?_
    refine im_ld (q := 77) (i := 1) D319_76 rfl rfl rfl ?_
    refine im_rng (j := p1) sf_6964 hg2.1 hg2.2 (fun hr16 => ?_)
    refine im_iald (q := 78) D319_77 sf_6964 hg2.1 hg2.2 (by decide) rfl ?_
    refine im_callV (q := 81) (kd := 1) (y := 317) (n := 2) (ci := 12) (a := 6952) (vs := [.ref 6952, vI 0, vI (M15 6964 p1)]) (r := []) (L2 := [some (.ref 6952), some (vI 0), some (vI (M15 6964 p1))]) D319_78 (im_cal cn_319 cl_12_753) (Or.inl rfl) rfl sf_6952 rfl rfl rfl rfl hd ⟨rfl, rfl, rfl, trivial⟩ ?_
    refine hP.mono ?_
    rintro _ e36 M17 ⟨rfl, rfl, hP⟩
    refine im_bkN ?_
    refine im_ld (q := 82) (i := 0) D319_81 rfl rfl rfl ?_
    refine im_gfR (q := 85) (b := 6960) D319_82 (im_fl cn_319 fl_12_33) sf_6952 rfl rfl tR_12_21 rf_6952_21 ?_
    refine im_ld (q := 86) (i := 1) D319_85 rfl rfl rfl ?_
    refine im_rng (j := p1) sf_6960 hg2.1 hg2.2 (fun hr18 => ?_)
    refine im_iald (q := 87) D319_86 sf_6960 hg2.1 hg2.2 (by decide) rfl ?_
    refine im_bipush (q := 89) D319_87 rfl ?_
    refine im_icmp (q := 92) (t := 93) D319_89 rfl hr18 (by decide) (fun hc19 => ?_) (fun hc19 => ?_)
    · replace hP := hP.1 hc19
      refine im_ld (q := 94) (i := 0) D319_93 rfl rfl rfl ?_
      refine im_ld (q := 95) (i := 0) D319_94 rfl rfl rfl ?_
      refine im_gfR (q := 98) (b := 6961) D319_95 (im_fl cn_319 fl_12_36) sf_6952 rfl rfl tR_12_22 rf_6952_22 ?_
      refine im_ld (q := 99) (i := 1) D319_98 rfl rfl rfl ?_
      refine im_rng (j := p1) sf_6961 hg2.1 hg2.2 (fun hr20 => ?_)
      refine im_lald (q := 100) D319_99 sf_6961 hg2.1 hg2.2 (by decide) rfl ?_
      refine im_callV (q := 103) (kd := 1) (y := 320) (n := 1) (ci := 12) (a := 6952) (vs := [.ref 6952, vL (M17 6961 p1)]) (r := []) (L2 := [some (.ref 6952), some (vL (M17 6961 p1)), none]) D319_100 (im_cal cn_319 cl_12_750) (Or.inl rfl) rfl sf_6952 rfl rfl rfl rfl hd ⟨rfl, rfl, trivial⟩ ?_
      refine hP.mono ?_
      rintro _ e35 M21 ⟨rfl, rfl, hP⟩
      refine im_bkN ?_
      refine im_ld (q := 104) (i := 0) D319_103 rfl rfl rfl ?_
      refine im_ld (q := 105) (i := 0) D319_104 rfl rfl rfl ?_
      refine im_gfR (q := 108) (b := 6962) D319_105 (im_fl cn_319 fl_12_39) sf_6952 rfl rfl tR_12_23 rf_6952_23 ?_
      refine im_ld (q := 109) (i := 1) D319_108 rfl rfl rfl ?_
      refine im_rng (j := p1) sf_6962 hg2.1 hg2.2 (fun hr22 => ?_)
      refine im_lald (q := 110) D319_109 sf_6962 hg2.1 hg2.2 (by decide) rfl ?_
      refine im_callV (q := 113) (kd := 1) (y := 320) (n := 1) (ci := 12) (a := 6952) (vs := [.ref 6952, vL (M21 6962 p1)]) (r := []) (L2 := [some (.ref 6952), some (vL (M21 6962 p1)), none]) D319_110 (im_cal cn_319 cl_12_750) (Or.inl rfl) rfl sf_6952 rfl rfl rfl rfl hd ⟨rfl, rfl, trivial⟩ ?_
      refine hP.mono ?_
      rintro _ e34 M23 ⟨rfl, rfl, hP⟩
      refine im_bkN ?_
      refine im_ld (q := 114) (i := 0) D319_113 rfl rfl rfl ?_
      refine im_gfR (q := 117) (b := 6960) D319_114 (im_fl cn_319 fl_12_33) sf_6952 rfl rfl tR_12_21 rf_6952_21 ?_
      refine im_ld (q := 118) (i := 1) D319_117 rfl rfl rfl ?_
      refine im_rng (j := p1) sf_6960 hg2.1 hg2.2 (fun hr24 => ?_)
      refine im_iald (q := 119) D319_118 sf_6960 hg2.1 hg2.2 (by decide) rfl ?_
      refine im_bipush (q := 121) D319_119 rfl ?_
      refine im_icmp (q := 124) (t := 135) D319_121 rfl hr24 (by decide) (fun hc25 => ?_) (fun hc25 => ?_)
      · replace hP := hP.1 hc25
        refine im_ld (q := 136) (i := 0) D319_135 rfl rfl rfl ?_
        refine im_bipush (q := 138) D319_136 rfl ?_
        refine im_callV (q := 141) (kd := 1) (y := 322) (n := 1) (ci := 12) (a := 6952) (vs := [.ref 6952, vI 32]) (r := []) (L2 := [some (.ref 6952), some (vI 32)]) D319_138 (im_cal cn_319 cl_12_432) (Or.inl rfl) rfl sf_6952 rfl rfl rfl rfl hd ⟨rfl, rfl, trivial⟩ ?_
        refine hP.mono ?_
        rintro _ e31 M27 ⟨rfl, rfl, hP⟩
        refine im_bkN ?_
        refine im_ld (q := 142) (i := 0) D319_141 rfl rfl rfl ?_
        refine im_bipush (q := 144) D319_142 rfl ?_
        refine im_callV (q := 147) (kd := 1) (y := 322) (n := 1) (ci := 12) (a := 6952) (vs := [.ref 6952, vI 91]) (r := []) (L2 := [some (.ref 6952), some (vI 91)]) D319_144 (im_cal cn_319 cl_12_432) (Or.inl rfl) rfl sf_6952 rfl rfl rfl rfl hd ⟨rfl, rfl, trivial⟩ ?_
        refine hP.mono ?_
        rintro _ e30 M28 ⟨rfl, rfl, hP⟩
        refine im_bkN ?_
        refine im_ld (q := 148) (i := 0) D319_147 rfl rfl rfl ?_
        refine im_gfR (q := 151) (b := 6971) D319_148 (im_fl cn_319 fl_12_67) sf_6952 rfl rfl tR_12_32 rf_6952_32 ?_
        refine im_ld (q := 152) (i := 1) D319_151 rfl rfl rfl ?_
        refine im_rng (j := p1) sf_6971 hg2.1 hg2.2 (fun hr29 => ?_)
        refine im_iald (q := 153) D319_152 sf_6971 hg2.1 hg2.2 (by decide) rfl ?_
        refine im_st1 (q := 154) (i := 2) (L' := [some (.ref 6952), some (vI p1), some (vI (M28 6971 p1))]) D319_153 (Or.inl ⟨_, rfl, rfl⟩) (Nat.le_of_ble_eq_true rfl) rfl ?_
        exact hP.wk ⟨rfl, rfl, rfl, trivial⟩
      · replace hP := hP.2 (Decidable.not_not.mp hc25)
        refine im_ld (q := 125) (i := 0) D319_124 rfl rfl rfl ?_
        refine im_ld (q := 126) (i := 0) D319_125 rfl rfl rfl ?_
        refine im_gfR (q := 129) (b := 6963) D319_126 (im_fl cn_319 fl_12_42) sf_6952 rfl rfl tR_12_24 rf_6952_24 ?_
        refine im_ld (q := 130) (i := 1) D319_129 rfl rfl rfl ?_
        refine im_rng (j := p1) sf_6963 hg2.1 hg2.2 (fun hr26 => ?_)
        refine im_lald (q := 131) D319_130 sf_6963 hg2.1 hg2.2 (by decide) rfl ?_
        refine im_callV (q := 134) (kd := 1) (y := 320) (n := 1) (ci := 12) (a := 6952) (vs := [.ref 6952, vL (M23 6963 p1)]) (r := []) (L2 := [some (.ref 6952), some (vL (M23 6963 p1)), none]) D319_131 (im_cal cn_319 cl_12_750) (Or.inl rfl) rfl sf_6952 rfl rfl rfl rfl hd ⟨rfl, rfl, trivial⟩ ?_
        refine hP.mono ?_
        rintro _ e33 M32 ⟨rfl, rfl, hP⟩
        refine im_bkN ?_
        exact im_vret (q := 135) D319_134 rfl hP
    · replace hP := hP.2 (Decidable.not_not.mp hc19)
      exact im_vret (q := 93) D319_92 rfl hP
  refine im_icmp (q := 19) (t := 25) D319_16 rfl hr3 (by decide) (fun hc4 => ?_) (fun hc4 => ?_)
  · refine im_ld (q := 26) (i := 0) D319_25 rfl rfl rfl ?_
    refine im_gfR (q := 29) (b := 6960) D319_26 (im_fl cn_319 fl_12_33) sf_6952 rfl rfl tR_12_21 rf_6952_21 ?_
    refine im_ld (q := 30) (i := 1) D319_29 rfl rfl rfl ?_
    refine im_iald (q := 31) D319_30 sf_6960 hg2.1 hg2.2 (by decide) rfl ?_
    refine im_bipush (q := 33) D319_31 rfl ?_
    refine im_icmp (q := 36) (t := 42) D319_33 rfl hr3 (by decide) (fun hc6 => ?_) (fun hc6 => ?_)
    · refine im_ldc2 (q := 45) (n := 121424973489785) D319_42 rfl ?_
      exact (kJ9 (121424973489785) (Or.inl ⟨hc4, hc6, rfl⟩)).wk ⟨rfl, rfl, trivial⟩
    · refine im_ldc2 (q := 39) (n := 109300196926309) D319_36 rfl ?_
      refine im_goto (q := 42) (t := 45) D319_39 rfl ?_
      exact (kJ9 (109300196926309) (Or.inr (Or.inl ⟨hc4, (Decidable.not_not.mp hc6), rfl⟩))).wk ⟨rfl, rfl, trivial⟩
  · refine im_ldc2 (q := 22) (n := 28259031251642740) D319_19 rfl ?_
    refine im_goto (q := 25) (t := 45) D319_22 rfl ?_
    exact (kJ9 (28259031251642740) (Or.inr (Or.inr ⟨(Decidable.not_not.mp hc4), rfl⟩))).wk ⟨rfl, rfl, trivial⟩
set_option maxRecDepth 20000 in
set_option maxHeartbeats 4000000 in
theorem b_tellCase_154 {g : im_g} {d : Nat} {e : im_E} {M : im_M} {K : im_K} {p1 p2 : Int} (hd : 1 ≤ d) (hP : (0 ≤ p1 ∧ p1 < 5100) ∧ (im_i32 p2) ∧ (im_i32 ((M 6971 p1) + (M 6972 p1))) ∧ ((((M 6971 p1) + (M 6972 p1)) ≤ p2 → im_T g (d - 1) 322 0 [some (.ref 6952), some (vI 32)] [] e M (im_r0 (fun  e_ M7 => e = e_ ∧ im_T g (d - 1) 322 0 [some (.ref 6952), some (vI 93)] [] e M7 (im_r0 (fun  e_ M8 => e = e_ ∧ K (.inl none) e M8))))) ∧ (p2 < ((M 6971 p1) + (M 6972 p1)) → im_T g (d - 1) 322 0 [some (.ref 6952), some (vI 32)] [] e M (im_r0 (fun  e_ M11 => e = e_ ∧ (0 ≤ p2 ∧ p2 < 20400) ∧ im_T g (d - 1) 324 0 [some (.ref 6952), some (vI (M11 6973 p2)), none] [] e M11 (im_r0 (fun  e_ M14 => e = e_ ∧ im_T g (d - 1) 322 0 [some (.ref 6952), some (vI 32)] [] e M14 (im_r0 (fun  e_ M15 => e = e_ ∧ im_T g (d - 1) 324 0 [some (.ref 6952), some (vI (M15 6974 p2)), none] [] e M15 (im_r0 (fun  e_ M17 => e = e_ ∧ im_T g d 319 154 [some (.ref 6952), some (vI p1), some (vI (p2 + 1))] [] e M17 K))))))))))) : im_T g d 319 154 [some (.ref 6952), some (vI p1), some (vI p2)] [] e M K := by
  refine im_ld (q := 155) (i := 2) D319_154 rfl rfl rfl ?_
  refine im_ld (q := 156) (i := 0) D319_155 rfl rfl rfl ?_
  refine im_gfR (q := 159) (b := 6971) D319_156 (im_fl cn_319 fl_12_67) sf_6952 rfl rfl tR_12_32 rf_6952_32 ?_
  refine im_ld (q := 160) (i := 1) D319_159 rfl rfl rfl ?_
  obtain ⟨hg1, hP⟩ := hP
  refine im_rng (j := p1) sf_6971 hg1.1 hg1.2 (fun hr2 => ?_)
  refine im_iald (q := 161) D319_160 sf_6971 hg1.1 hg1.2 (by decide) rfl ?_
  refine im_ld (q := 162) (i := 0) D319_161 rfl rfl rfl ?_
  refine im_gfR (q := 165) (b := 6972) D319_162 (im_fl cn_319 fl_12_70) sf_6952 rfl rfl tR_12_33 rf_6952_33 ?_
  refine im_ld (q := 166) (i := 1) D319_165 rfl rfl rfl ?_
  refine im_rng (j := p1) sf_6972 hg1.1 hg1.2 (fun hr3 => ?_)
  refine im_iald (q := 167) D319_166 sf_6972 hg1.1 hg1.2 (by decide) rfl ?_
  refine im_iadd (q := 168) D319_167 ?_
  obtain ⟨hg4, hP⟩ := hP
  obtain ⟨hg5, hP⟩ := hP
  refine im_icmp (q := 171) (t := 209) D319_168 rfl hg4 hg5 (fun hc6 => ?_) (fun hc6 => ?_)
  · replace hP := hP.1 hc6
    refine im_ld (q := 210) (i := 0) D319_209 rfl rfl rfl ?_
    refine im_bipush (q := 212) D319_210 rfl ?_
    refine im_callV (q := 215) (kd := 1) (y := 322) (n := 1) (ci := 12) (a := 6952) (vs := [.ref 6952, vI 32]) (r := []) (L2 := [some (.ref 6952), some (vI 32)]) D319_212 (im_cal cn_319 cl_12_432) (Or.inl rfl) rfl sf_6952 rfl rfl rfl rfl hd ⟨rfl, rfl, trivial⟩ ?_
    refine hP.mono ?_
    rintro _ e10 M7 ⟨rfl, rfl, hP⟩
    refine im_bkN ?_
    refine im_ld (q := 216) (i := 0) D319_215 rfl rfl rfl ?_
    refine im_bipush (q := 218) D319_216 rfl ?_
    refine im_callV (q := 221) (kd := 1) (y := 322) (n := 1) (ci := 12) (a := 6952) (vs := [.ref 6952, vI 93]) (r := []) (L2 := [some (.ref 6952), some (vI 93)]) D319_218 (im_cal cn_319 cl_12_432) (Or.inl rfl) rfl sf_6952 rfl rfl rfl rfl hd ⟨rfl, rfl, trivial⟩ ?_
    refine hP.mono ?_
    rintro _ e9 M8 ⟨rfl, rfl, hP⟩
    refine im_bkN ?_
    exact im_vret (q := 222) D319_221 rfl hP
  · replace hP := hP.2 (Int.not_le.mp hc6)
    refine im_ld (q := 172) (i := 0) D319_171 rfl rfl rfl ?_
    refine im_bipush (q := 174) D319_172 rfl ?_
    refine im_callV (q := 177) (kd := 1) (y := 322) (n := 1) (ci := 12) (a := 6952) (vs := [.ref 6952, vI 32]) (r := []) (L2 := [some (.ref 6952), some (vI 32)]) D319_174 (im_cal cn_319 cl_12_432) (Or.inl rfl) rfl sf_6952 rfl rfl rfl rfl hd ⟨rfl, rfl, trivial⟩ ?_
    refine hP.mono ?_
    rintro _ e21 M11 ⟨rfl, rfl, hP⟩
    refine im_bkN ?_
    refine im_ld (q := 178) (i := 0) D319_177 rfl rfl rfl ?_
    refine im_ld (q := 179) (i := 0) D319_178 rfl rfl rfl ?_
    refine im_gfR (q := 182) (b := 6973) D319_179 (im_fl cn_319 fl_12_73) sf_6952 rfl rfl tR_12_34 rf_6952_34 ?_
    refine im_ld (q := 183) (i := 2) D319_182 rfl rfl rfl ?_
    obtain ⟨hg12, hP⟩ := hP
    refine im_rng (j := p2) sf_6973 hg12.1 hg12.2 (fun hr13 => ?_)
    refine im_iald (q := 184) D319_183 sf_6973 hg12.1 hg12.2 (by decide) rfl ?_
    refine im_callV (q := 187) (kd := 1) (y := 324) (n := 1) (ci := 12) (a := 6952) (vs := [.ref 6952, vI (M11 6973 p2)]) (r := []) (L2 := [some (.ref 6952), some (vI (M11 6973 p2)), none]) D319_184 (im_cal cn_319 cl_12_756) (Or.inl rfl) rfl sf_6952 rfl rfl rfl rfl hd ⟨rfl, rfl, trivial⟩ ?_
    refine hP.mono ?_
    rintro _ e20 M14 ⟨rfl, rfl, hP⟩
    refine im_bkN ?_
    refine im_ld (q := 188) (i := 0) D319_187 rfl rfl rfl ?_
    refine im_bipush (q := 190) D319_188 rfl ?_
    refine im_callV (q := 193) (kd := 1) (y := 322) (n := 1) (ci := 12) (a := 6952) (vs := [.ref 6952, vI 32]) (r := []) (L2 := [some (.ref 6952), some (vI 32)]) D319_190 (im_cal cn_319 cl_12_432) (Or.inl rfl) rfl sf_6952 rfl rfl rfl rfl hd ⟨rfl, rfl, trivial⟩ ?_
    refine hP.mono ?_
    rintro _ e19 M15 ⟨rfl, rfl, hP⟩
    refine im_bkN ?_
    refine im_ld (q := 194) (i := 0) D319_193 rfl rfl rfl ?_
    refine im_ld (q := 195) (i := 0) D319_194 rfl rfl rfl ?_
    refine im_gfR (q := 198) (b := 6974) D319_195 (im_fl cn_319 fl_12_76) sf_6952 rfl rfl tR_12_35 rf_6952_35 ?_
    refine im_ld (q := 199) (i := 2) D319_198 rfl rfl rfl ?_
    refine im_rng (j := p2) sf_6974 hg12.1 hg12.2 (fun hr16 => ?_)
    refine im_iald (q := 200) D319_199 sf_6974 hg12.1 hg12.2 (by decide) rfl ?_
    refine im_callV (q := 203) (kd := 1) (y := 324) (n := 1) (ci := 12) (a := 6952) (vs := [.ref 6952, vI (M15 6974 p2)]) (r := []) (L2 := [some (.ref 6952), some (vI (M15 6974 p2)), none]) D319_200 (im_cal cn_319 cl_12_756) (Or.inl rfl) rfl sf_6952 rfl rfl rfl rfl hd ⟨rfl, rfl, trivial⟩ ?_
    refine hP.mono ?_
    rintro _ e18 M17 ⟨rfl, rfl, hP⟩
    refine im_bkN ?_
    refine im_iinc (q := 206) (i := 2) (L' := [some (.ref 6952), some (vI p1), some (vI (p2 + 1))]) D319_203 rfl (Nat.le_of_ble_eq_true rfl) rfl ?_
    refine im_goto (q := 209) (t := 154) D319_206 rfl ?_
    exact hP.wk ⟨rfl, rfl, rfl, trivial⟩
set_option maxRecDepth 20000 in
set_option maxHeartbeats 4000000 in
theorem b_putWord_0 {g : im_g} {d : Nat} {e : im_E} {M : im_M} {K : im_K} {p1 : Int} (hd : 1 ≤ d) (hP : im_T g (d - 1) 321 0 [some (.ref 6952)] [] e M (im_r0 (fun  e_ M1 => e = e_ ∧ im_T g (d - 1) 323 0 [some (.ref 6952), some (vL p1), none, none] [] e M1 (im_r0 (fun  e_ M2 => e = e_ ∧ K (.inl none) e M2))))) : im_T g d 320 0 [some (.ref 6952), some (vL p1), none] [] e M K := by
  refine im_ld (q := 1) (i := 0) D320_0 rfl rfl rfl ?_
  refine im_callV (q := 4) (kd := 1) (y := 321) (n := 0) (ci := 12) (a := 6952) (vs := [.ref 6952]) (r := []) (L2 := [some (.ref 6952)]) D320_1 (im_cal cn_320 cl_12_438) (Or.inl rfl) rfl sf_6952 rfl rfl rfl rfl hd ⟨rfl, trivial⟩ ?_
  refine hP.mono ?_
  rintro _ e4 M1 ⟨rfl, rfl, hP⟩
  refine im_bkN ?_
  refine im_ld (q := 5) (i := 0) D320_4 rfl rfl rfl ?_
  refine im_ld (q := 6) (i := 1) D320_5 rfl rfl rfl ?_
  refine im_callV (q := 9) (kd := 1) (y := 323) (n := 1) (ci := 12) (a := 6952) (vs := [.ref 6952, vL p1]) (r := []) (L2 := [some (.ref 6952), some (vL p1), none, none]) D320_6 (im_cal cn_320 cl_12_441) (Or.inl rfl) rfl sf_6952 rfl rfl rfl rfl hd ⟨rfl, rfl, trivial⟩ ?_
  refine hP.mono ?_
  rintro _ e3 M2 ⟨rfl, rfl, hP⟩
  refine im_bkN ?_
  exact im_vret (q := 10) D320_9 rfl hP
set_option maxRecDepth 20000 in
set_option maxHeartbeats 4000000 in
theorem b_putBlank_0 {g : im_g} {d : Nat} {e : im_E} {M : im_M} {K : im_K} (hd : 1 ≤ d) (hP : (((M 6952 4) ≤ 0 → K (.inl none) e M) ∧ (0 < (M 6952 4) → im_T g (d - 1) 322 0 [some (.ref 6952), some (vI 32)] [] e M (im_r0 (fun  e_ M3 => e = e_ ∧ K (.inl none) e M3))))) : im_T g d 321 0 [some (.ref 6952)] [] e M K := by
  refine im_ld (q := 1) (i := 0) D321_0 rfl rfl rfl ?_
  refine im_rng (j := 4) sf_6952 (by decide) (by decide) (fun hr1 => ?_)
  refine im_gfI (q := 4) D321_1 (im_fl cn_321 fl_12_423) sf_6952 rfl rfl tI_12_4 rfl ?_
  refine im_ifc (q := 7) (t := 13) D321_4 rfl hr1 (fun hc2 => ?_) (fun hc2 => ?_)
  · replace hP := hP.1 hc2
    exact im_vret (q := 14) D321_13 rfl hP
  · replace hP := hP.2 (Int.not_le.mp hc2)
    refine im_ld (q := 8) (i := 0) D321_7 rfl rfl rfl ?_
    refine im_bipush (q := 10) D321_8 rfl ?_
    refine im_callV (q := 13) (kd := 1) (y := 322) (n := 1) (ci := 12) (a := 6952) (vs := [.ref 6952, vI 32]) (r := []) (L2 := [some (.ref 6952), some (vI 32)]) D321_10 (im_cal cn_321 cl_12_432) (Or.inl rfl) rfl sf_6952 rfl rfl rfl rfl hd ⟨rfl, rfl, trivial⟩ ?_
    refine hP.mono ?_
    rintro _ e4 M3 ⟨rfl, rfl, hP⟩
    refine im_bkN ?_
    exact im_vret (q := 14) D321_13 rfl hP
set_option maxRecDepth 20000 in
set_option maxHeartbeats 4000000 in
theorem b_put_0 {g : im_g} {d : Nat} {e : im_E} {M : im_M} {K : im_K} {p1 : Int} (hP : ((16384 ≤ (M 6952 4) → K (.inl none) e M) ∧ ((M 6952 4) < 16384 → (0 ≤ (M 6952 4) ∧ (M 6952 4) < 16384) ∧ (im_i32 p1) ∧ (im_i32 ((M 6952 4) + 1)) ∧ K (.inl none) e (im_u (im_u M 6954 (M 6952 4) p1) 6952 4 ((M 6952 4) + 1))))) : im_T g d 322 0 [some (.ref 6952), some (vI p1)] [] e M K := by
  refine im_ld (q := 1) (i := 0) D322_0 rfl rfl rfl ?_
  refine im_rng (j := 4) sf_6952 (by decide) (by decide) (fun hr1 => ?_)
  refine im_gfI (q := 4) D322_1 (im_fl cn_322 fl_12_423) sf_6952 rfl rfl tI_12_4 rfl ?_
  refine im_sipush (q := 7) D322_4 rfl ?_
  refine im_icmp (q := 10) (t := 30) D322_7 rfl hr1 (by decide) (fun hc2 => ?_) (fun hc2 => ?_)
  · replace hP := hP.1 hc2
    exact im_vret (q := 31) D322_30 rfl hP
  · replace hP := hP.2 (Int.not_le.mp hc2)
    refine im_ld (q := 11) (i := 0) D322_10 rfl rfl rfl ?_
    refine im_gfR (q := 14) (b := 6954) D322_11 (im_fl cn_322 fl_12_13) sf_6952 rfl rfl tR_12_3 rf_6952_3 ?_
    refine im_ld (q := 15) (i := 0) D322_14 rfl rfl rfl ?_
    refine im_gfI (q := 18) D322_15 (im_fl cn_322 fl_12_423) sf_6952 rfl rfl tI_12_4 rfl ?_
    refine im_ld (q := 19) (i := 1) D322_18 rfl rfl rfl ?_
    obtain ⟨hg4, hP⟩ := hP
    obtain ⟨hg5, hP⟩ := hP
    refine im_iast (q := 20) D322_19 sf_6954 hg4.1 hg4.2 (by decide) hg5 ?_
    refine im_ld (q := 21) (i := 0) D322_20 rfl rfl rfl ?_
    refine im_dup (q := 22) D322_21 rfl ?_
    refine im_gfI (q := 25) D322_22 (im_fl cn_322 fl_12_423) sf_6952 rfl rfl tI_12_4 (im_rdn _ _ _ _ (by decide)) ?_
    refine im_iconst (q := 26) D322_25 ?_
    refine im_iadd (q := 27) D322_26 ?_
    obtain ⟨hg7, hP⟩ := hP
    refine im_pfI (q := 30) D322_27 (im_fl cn_322 fl_12_423) sf_6952 rfl rfl ti_12_4 hg7 ?_
    exact im_vret (q := 31) D322_30 rfl hP
set_option maxRecDepth 20000 in
set_option maxHeartbeats 4000000 in
theorem b_putName_0 {g : im_g} {d : Nat} {e : im_E} {M : im_M} {K : im_K} {p1 : Int} (hP : im_T g d 323 3 [some (.ref 6952), some (vL p1), none, some (vI 56)] [] e M K) : im_T g d 323 0 [some (.ref 6952), some (vL p1), none, none] [] e M K := by
  refine im_bipush (q := 2) D323_0 rfl ?_
  refine im_st1 (q := 3) (i := 3) (L' := [some (.ref 6952), some (vL p1), none, some (vI 56)]) D323_2 (Or.inl ⟨_, rfl, rfl⟩) (Nat.le_of_ble_eq_true rfl) rfl ?_
  exact hP.wk ⟨rfl, rfl, rfl, trivial⟩
set_option maxRecDepth 20000 in
set_option maxHeartbeats 4000000 in
theorem b_putName_3 {g : im_g} {d : Nat} {e : im_E} {M : im_M} {K : im_K} {p1 p3 : Int} (hd : 1 ≤ d) (hP : (im_i32 p3) ∧ ((p3 < 0 → K (.inl none) e M) ∧ (0 ≤ p3 → (((xlshr p1 p3) ≤ 0 → im_T g d 323 3 [some (.ref 6952), some (vL p1), none, some (vI (p3 + (-8)))] [] e M K) ∧ (0 < (xlshr p1 p3) → im_T g (d - 1) 322 0 [some (.ref 6952), some (vI (xland (xlshr p1 p3) 255))] [] e M (im_r0 (fun  e_ M4 => e = e_ ∧ im_T g d 323 3 [some (.ref 6952), some (vL p1), none, some (vI (p3 + (-8)))] [] e M4 K))))))) : im_T g d 323 3 [some (.ref 6952), some (vL p1), none, some (vI p3)] [] e M K := by
  refine im_ld (q := 4) (i := 3) D323_3 rfl rfl rfl ?_
  obtain ⟨hg1, hP⟩ := hP
  refine im_ifc (q := 7) (t := 33) D323_4 rfl hg1 (fun hc2 => ?_) (fun hc2 => ?_)
  · replace hP := hP.1 hc2
    exact im_vret (q := 34) D323_33 rfl hP
  · replace hP := hP.2 (Int.not_lt.mp hc2)
    refine im_ld (q := 8) (i := 1) D323_7 rfl rfl rfl ?_
    refine im_ld (q := 9) (i := 3) D323_8 rfl rfl rfl ?_
    refine im_lshr (q := 10) D323_9 ?_
    refine im_lconst (q := 11) (z := 0) D323_10 rfl ?_
    refine im_lif (q := 12) (q2 := 15) (t := 27) D323_11 D323_12 rfl (xlshr_r _ _) (by decide) (fun hc3 => ?_) (fun hc3 => ?_)
    · replace hP := hP.1 hc3
      refine im_iinc (q := 30) (i := 3) (L' := [some (.ref 6952), some (vL p1), none, some (vI (p3 + (-8)))]) D323_27 rfl (Nat.le_of_ble_eq_true rfl) rfl ?_
      refine im_goto (q := 33) (t := 3) D323_30 rfl ?_
      exact hP.wk ⟨rfl, rfl, rfl, trivial⟩
    · replace hP := hP.2 (Int.not_le.mp hc3)
      refine im_ld (q := 16) (i := 0) D323_15 rfl rfl rfl ?_
      refine im_ld (q := 17) (i := 1) D323_16 rfl rfl rfl ?_
      refine im_ld (q := 18) (i := 3) D323_17 rfl rfl rfl ?_
      refine im_lshr (q := 19) D323_18 ?_
      refine im_ldc2 (q := 22) (n := 255) D323_19 rfl ?_
      refine im_land (q := 23) D323_22 ?_
      refine im_l2i (q := 24) D323_23 ?_
      refine im_callV (q := 27) (kd := 1) (y := 322) (n := 1) (ci := 12) (a := 6952) (vs := [.ref 6952, vI (xland (xlshr p1 p3) 255)]) (r := []) (L2 := [some (.ref 6952), some (vI (xland (xlshr p1 p3) 255))]) D323_24 (im_cal cn_323 cl_12_432) (Or.inl rfl) rfl sf_6952 rfl rfl rfl rfl hd ⟨rfl, rfl, trivial⟩ ?_
      refine hP.mono ?_
      rintro _ e5 M4 ⟨rfl, rfl, hP⟩
      refine im_bkN ?_
      refine im_iinc (q := 30) (i := 3) (L' := [some (.ref 6952), some (vL p1), none, some (vI (p3 + (-8)))]) D323_27 rfl (Nat.le_of_ble_eq_true rfl) rfl ?_
      refine im_goto (q := 33) (t := 3) D323_30 rfl ?_
      exact hP.wk ⟨rfl, rfl, rfl, trivial⟩
set_option maxRecDepth 20000 in
set_option maxHeartbeats 4000000 in
theorem b_putNumber_0 {g : im_g} {d : Nat} {e : im_E} {M : im_M} {K : im_K} {p1 : Int} (hd : 1 ≤ d) (hP : (0 ≤ p1 ∧ p1 < 1100000) ∧ ((0 ≤ (M 6955 p1) → (0 ≤ (p1 + 1) ∧ (p1 + 1) < 1100000) ∧ ((¬ (M 6955 (p1 + 1)) = 0 → im_T g d 324 43 [some (.ref 6952), some (vI p1), some (vI ((M 6955 (p1 + 1)) - 1))] [] e M K) ∧ ((M 6955 (p1 + 1)) = 0 → im_T g (d - 1) 322 0 [some (.ref 6952), some (vI 48)] [] e M (im_r0 (fun  e_ M8 => e = e_ ∧ im_T g d 324 43 [some (.ref 6952), some (vI p1), some (vI ((M8 6955 (p1 + 1)) - 1))] [] e M8 K))))) ∧ ((M 6955 p1) < 0 → im_T g (d - 1) 322 0 [some (.ref 6952), some (vI 45)] [] e M (im_r0 (fun  e_ M11 => e = e_ ∧ (0 ≤ (p1 + 1) ∧ (p1 + 1) < 1100000) ∧ ((¬ (M11 6955 (p1 + 1)) = 0 → im_T g d 324 43 [some (.ref 6952), some (vI p1), some (vI ((M11 6955 (p1 + 1)) - 1))] [] e M11 K) ∧ ((M11 6955 (p1 + 1)) = 0 → im_T g (d - 1) 322 0 [some (.ref 6952), some (vI 48)] [] e M11 (im_r0 (fun  e_ M16 => e = e_ ∧ im_T g d 324 43 [some (.ref 6952), some (vI p1), some (vI ((M16 6955 (p1 + 1)) - 1))] [] e M16 K))))))))) : im_T g d 324 0 [some (.ref 6952), some (vI p1), none] [] e M K := by
  refine im_ld (q := 1) (i := 0) D324_0 rfl rfl rfl ?_
  refine im_gfR (q := 4) (b := 6955) D324_1 (im_fl cn_324 fl_12_17) sf_6952 rfl rfl tR_12_5 rf_6952_5 ?_
  refine im_ld (q := 5) (i := 1) D324_4 rfl rfl rfl ?_
  obtain ⟨hg1, hP⟩ := hP
  refine im_rng (j := p1) sf_6955 hg1.1 hg1.2 (fun hr2 => ?_)
  refine im_iald (q := 6) D324_5 sf_6955 hg1.1 hg1.2 (by decide) rfl ?_
  refine im_ifc (q := 9) (t := 15) D324_6 rfl hr2 (fun hc3 => ?_) (fun hc3 => ?_)
  · replace hP := hP.1 hc3
    refine im_ld (q := 16) (i := 0) D324_15 rfl rfl rfl ?_
    refine im_gfR (q := 19) (b := 6955) D324_16 (im_fl cn_324 fl_12_17) sf_6952 rfl rfl tR_12_5 rf_6952_5 ?_
    refine im_ld (q := 20) (i := 1) D324_19 rfl rfl rfl ?_
    refine im_iconst (q := 21) D324_20 ?_
    refine im_iadd (q := 22) D324_21 ?_
    obtain ⟨hg4, hP⟩ := hP
    refine im_rng (j := (p1 + 1)) sf_6955 hg4.1 hg4.2 (fun hr5 => ?_)
    refine im_iald (q := 23) D324_22 sf_6955 hg4.1 hg4.2 (by decide) rfl ?_
    refine im_ifc (q := 26) (t := 32) D324_23 rfl hr5 (fun hc6 => ?_) (fun hc6 => ?_)
    · replace hP := hP.1 hc6
      refine im_ld (q := 33) (i := 0) D324_32 rfl rfl rfl ?_
      refine im_gfR (q := 36) (b := 6955) D324_33 (im_fl cn_324 fl_12_17) sf_6952 rfl rfl tR_12_5 rf_6952_5 ?_
      refine im_ld (q := 37) (i := 1) D324_36 rfl rfl rfl ?_
      refine im_iconst (q := 38) D324_37 ?_
      refine im_iadd (q := 39) D324_38 ?_
      refine im_iald (q := 40) D324_39 sf_6955 hg4.1 hg4.2 (by decide) rfl ?_
      refine im_iconst (q := 41) D324_40 ?_
      refine im_isub (q := 42) D324_41 ?_
      refine im_st1 (q := 43) (i := 2) (L' := [some (.ref 6952), some (vI p1), some (vI ((M 6955 (p1 + 1)) - 1))]) D324_42 (Or.inl ⟨_, rfl, rfl⟩) (Nat.le_of_ble_eq_true rfl) rfl ?_
      exact hP.wk ⟨rfl, rfl, rfl, trivial⟩
    · replace hP := hP.2 (Decidable.not_not.mp hc6)
      refine im_ld (q := 27) (i := 0) D324_26 rfl rfl rfl ?_
      refine im_bipush (q := 29) D324_27 rfl ?_
      refine im_callV (q := 32) (kd := 1) (y := 322) (n := 1) (ci := 12) (a := 6952) (vs := [.ref 6952, vI 48]) (r := []) (L2 := [some (.ref 6952), some (vI 48)]) D324_29 (im_cal cn_324 cl_12_432) (Or.inl rfl) rfl sf_6952 rfl rfl rfl rfl hd ⟨rfl, rfl, trivial⟩ ?_
      refine hP.mono ?_
      rintro _ e10 M8 ⟨rfl, rfl, hP⟩
      refine im_bkN ?_
      refine im_ld (q := 33) (i := 0) D324_32 rfl rfl rfl ?_
      refine im_gfR (q := 36) (b := 6955) D324_33 (im_fl cn_324 fl_12_17) sf_6952 rfl rfl tR_12_5 rf_6952_5 ?_
      refine im_ld (q := 37) (i := 1) D324_36 rfl rfl rfl ?_
      refine im_iconst (q := 38) D324_37 ?_
      refine im_iadd (q := 39) D324_38 ?_
      refine im_rng (j := (p1 + 1)) sf_6955 hg4.1 hg4.2 (fun hr9 => ?_)
      refine im_iald (q := 40) D324_39 sf_6955 hg4.1 hg4.2 (by decide) rfl ?_
      refine im_iconst (q := 41) D324_40 ?_
      refine im_isub (q := 42) D324_41 ?_
      refine im_st1 (q := 43) (i := 2) (L' := [some (.ref 6952), some (vI p1), some (vI ((M8 6955 (p1 + 1)) - 1))]) D324_42 (Or.inl ⟨_, rfl, rfl⟩) (Nat.le_of_ble_eq_true rfl) rfl ?_
      exact hP.wk ⟨rfl, rfl, rfl, trivial⟩
  · replace hP := hP.2 (Int.not_le.mp hc3)
    refine im_ld (q := 10) (i := 0) D324_9 rfl rfl rfl ?_
    refine im_bipush (q := 12) D324_10 rfl ?_
    refine im_callV (q := 15) (kd := 1) (y := 322) (n := 1) (ci := 12) (a := 6952) (vs := [.ref 6952, vI 45]) (r := []) (L2 := [some (.ref 6952), some (vI 45)]) D324_12 (im_cal cn_324 cl_12_432) (Or.inl rfl) rfl sf_6952 rfl rfl rfl rfl hd ⟨rfl, rfl, trivial⟩ ?_
    refine hP.mono ?_
    rintro _ e19 M11 ⟨rfl, rfl, hP⟩
    refine im_bkN ?_
    refine im_ld (q := 16) (i := 0) D324_15 rfl rfl rfl ?_
    refine im_gfR (q := 19) (b := 6955) D324_16 (im_fl cn_324 fl_12_17) sf_6952 rfl rfl tR_12_5 rf_6952_5 ?_
    refine im_ld (q := 20) (i := 1) D324_19 rfl rfl rfl ?_
    refine im_iconst (q := 21) D324_20 ?_
    refine im_iadd (q := 22) D324_21 ?_
    obtain ⟨hg12, hP⟩ := hP
    refine im_rng (j := (p1 + 1)) sf_6955 hg12.1 hg12.2 (fun hr13 => ?_)
    refine im_iald (q := 23) D324_22 sf_6955 hg12.1 hg12.2 (by decide) rfl ?_
    refine im_ifc (q := 26) (t := 32) D324_23 rfl hr13 (fun hc14 => ?_) (fun hc14 => ?_)
    · replace hP := hP.1 hc14
      refine im_ld (q := 33) (i := 0) D324_32 rfl rfl rfl ?_
      refine im_gfR (q := 36) (b := 6955) D324_33 (im_fl cn_324 fl_12_17) sf_6952 rfl rfl tR_12_5 rf_6952_5 ?_
      refine im_ld (q := 37) (i := 1) D324_36 rfl rfl rfl ?_
      refine im_iconst (q := 38) D324_37 ?_
      refine im_iadd (q := 39) D324_38 ?_
      refine im_iald (q := 40) D324_39 sf_6955 hg12.1 hg12.2 (by decide) rfl ?_
      refine im_iconst (q := 41) D324_40 ?_
      refine im_isub (q := 42) D324_41 ?_
      refine im_st1 (q := 43) (i := 2) (L' := [some (.ref 6952), some (vI p1), some (vI ((M11 6955 (p1 + 1)) - 1))]) D324_42 (Or.inl ⟨_, rfl, rfl⟩) (Nat.le_of_ble_eq_true rfl) rfl ?_
      exact hP.wk ⟨rfl, rfl, rfl, trivial⟩
    · replace hP := hP.2 (Decidable.not_not.mp hc14)
      refine im_ld (q := 27) (i := 0) D324_26 rfl rfl rfl ?_
      refine im_bipush (q := 29) D324_27 rfl ?_
      refine im_callV (q := 32) (kd := 1) (y := 322) (n := 1) (ci := 12) (a := 6952) (vs := [.ref 6952, vI 48]) (r := []) (L2 := [some (.ref 6952), some (vI 48)]) D324_29 (im_cal cn_324 cl_12_432) (Or.inl rfl) rfl sf_6952 rfl rfl rfl rfl hd ⟨rfl, rfl, trivial⟩ ?_
      refine hP.mono ?_
      rintro _ e18 M16 ⟨rfl, rfl, hP⟩
      refine im_bkN ?_
      refine im_ld (q := 33) (i := 0) D324_32 rfl rfl rfl ?_
      refine im_gfR (q := 36) (b := 6955) D324_33 (im_fl cn_324 fl_12_17) sf_6952 rfl rfl tR_12_5 rf_6952_5 ?_
      refine im_ld (q := 37) (i := 1) D324_36 rfl rfl rfl ?_
      refine im_iconst (q := 38) D324_37 ?_
      refine im_iadd (q := 39) D324_38 ?_
      refine im_rng (j := (p1 + 1)) sf_6955 hg12.1 hg12.2 (fun hr17 => ?_)
      refine im_iald (q := 40) D324_39 sf_6955 hg12.1 hg12.2 (by decide) rfl ?_
      refine im_iconst (q := 41) D324_40 ?_
      refine im_isub (q := 42) D324_41 ?_
      refine im_st1 (q := 43) (i := 2) (L' := [some (.ref 6952), some (vI p1), some (vI ((M16 6955 (p1 + 1)) - 1))]) D324_42 (Or.inl ⟨_, rfl, rfl⟩) (Nat.le_of_ble_eq_true rfl) rfl ?_
      exact hP.wk ⟨rfl, rfl, rfl, trivial⟩
set_option maxRecDepth 20000 in
set_option maxHeartbeats 4000000 in
theorem b_putNumber_43 {g : im_g} {d : Nat} {e : im_E} {M : im_M} {K : im_K} {p1 p2 : Int} (hd : 1 ≤ d) (hP : (im_i32 p2) ∧ ((p2 < 0 → K (.inl none) e M) ∧ (0 ≤ p2 → (0 ≤ ((p1 + 2) + p2) ∧ ((p1 + 2) + p2) < 1100000) ∧ im_T g (d - 1) 322 0 [some (.ref 6952), some (vI (48 + (M 6955 ((p1 + 2) + p2))))] [] e M (im_r0 (fun  e_ M5 => e = e_ ∧ im_T g d 324 43 [some (.ref 6952), some (vI p1), some (vI (p2 + (-1)))] [] e M5 K))))) : im_T g d 324 43 [some (.ref 6952), some (vI p1), some (vI p2)] [] e M K := by
  refine im_ld (q := 44) (i := 2) D324_43 rfl rfl rfl ?_
  obtain ⟨hg1, hP⟩ := hP
  refine im_ifc (q := 47) (t := 70) D324_44 rfl hg1 (fun hc2 => ?_) (fun hc2 => ?_)
  · replace hP := hP.1 hc2
    exact im_vret (q := 71) D324_70 rfl hP
  · replace hP := hP.2 (Int.not_lt.mp hc2)
    refine im_ld (q := 48) (i := 0) D324_47 rfl rfl rfl ?_
    refine im_bipush (q := 50) D324_48 rfl ?_
    refine im_ld (q := 51) (i := 0) D324_50 rfl rfl rfl ?_
    refine im_gfR (q := 54) (b := 6955) D324_51 (im_fl cn_324 fl_12_17) sf_6952 rfl rfl tR_12_5 rf_6952_5 ?_
    refine im_ld (q := 55) (i := 1) D324_54 rfl rfl rfl ?_
    refine im_iconst (q := 56) D324_55 ?_
    refine im_iadd (q := 57) D324_56 ?_
    refine im_ld (q := 58) (i := 2) D324_57 rfl rfl rfl ?_
    refine im_iadd (q := 59) D324_58 ?_
    obtain ⟨hg3, hP⟩ := hP
    refine im_rng (j := ((p1 + 2) + p2)) sf_6955 hg3.1 hg3.2 (fun hr4 => ?_)
    refine im_iald (q := 60) D324_59 sf_6955 hg3.1 hg3.2 (by decide) rfl ?_
    refine im_iadd (q := 61) D324_60 ?_
    refine im_callV (q := 64) (kd := 1) (y := 322) (n := 1) (ci := 12) (a := 6952) (vs := [.ref 6952, vI (48 + (M 6955 ((p1 + 2) + p2)))]) (r := []) (L2 := [some (.ref 6952), some (vI (48 + (M 6955 ((p1 + 2) + p2))))]) D324_61 (im_cal cn_324 cl_12_432) (Or.inl rfl) rfl sf_6952 rfl rfl rfl rfl hd ⟨rfl, rfl, trivial⟩ ?_
    refine hP.mono ?_
    rintro _ e6 M5 ⟨rfl, rfl, hP⟩
    refine im_bkN ?_
    refine im_iinc (q := 67) (i := 2) (L' := [some (.ref 6952), some (vI p1), some (vI (p2 + (-1)))]) D324_64 rfl (Nat.le_of_ble_eq_true rfl) rfl ?_
    refine im_goto (q := 70) (t := 43) D324_67 rfl ?_
    exact hP.wk ⟨rfl, rfl, rfl, trivial⟩
set_option maxRecDepth 20000 in
set_option maxHeartbeats 4000000 in
theorem b_putAsked_0 {g : im_g} {d : Nat} {e : im_E} {M : im_M} {K : im_K} {p1 : Int} (hd : 1 ≤ d) (hP : im_T g (d - 1) 321 0 [some (.ref 6952)] [] e M (im_r0 (fun  e_ M1 => e = e_ ∧ im_T g (d - 1) 322 0 [some (.ref 6952), some (vI 63)] [] e M1 (im_r0 (fun  e_ M2 => e = e_ ∧ im_T g (d - 1) 323 0 [some (.ref 6952), some (vL p1), none, none] [] e M2 (im_r0 (fun  e_ M3 => e = e_ ∧ K (.inl none) e M3))))))) : im_T g d 325 0 [some (.ref 6952), some (vL p1), none] [] e M K := by
  refine im_ld (q := 1) (i := 0) D325_0 rfl rfl rfl ?_
  refine im_callV (q := 4) (kd := 1) (y := 321) (n := 0) (ci := 12) (a := 6952) (vs := [.ref 6952]) (r := []) (L2 := [some (.ref 6952)]) D325_1 (im_cal cn_325 cl_12_438) (Or.inl rfl) rfl sf_6952 rfl rfl rfl rfl hd ⟨rfl, trivial⟩ ?_
  refine hP.mono ?_
  rintro _ e6 M1 ⟨rfl, rfl, hP⟩
  refine im_bkN ?_
  refine im_ld (q := 5) (i := 0) D325_4 rfl rfl rfl ?_
  refine im_bipush (q := 7) D325_5 rfl ?_
  refine im_callV (q := 10) (kd := 1) (y := 322) (n := 1) (ci := 12) (a := 6952) (vs := [.ref 6952, vI 63]) (r := []) (L2 := [some (.ref 6952), some (vI 63)]) D325_7 (im_cal cn_325 cl_12_432) (Or.inl rfl) rfl sf_6952 rfl rfl rfl rfl hd ⟨rfl, rfl, trivial⟩ ?_
  refine hP.mono ?_
  rintro _ e5 M2 ⟨rfl, rfl, hP⟩
  refine im_bkN ?_
  refine im_ld (q := 11) (i := 0) D325_10 rfl rfl rfl ?_
  refine im_ld (q := 12) (i := 1) D325_11 rfl rfl rfl ?_
  refine im_callV (q := 15) (kd := 1) (y := 323) (n := 1) (ci := 12) (a := 6952) (vs := [.ref 6952, vL p1]) (r := []) (L2 := [some (.ref 6952), some (vL p1), none, none]) D325_12 (im_cal cn_325 cl_12_441) (Or.inl rfl) rfl sf_6952 rfl rfl rfl rfl hd ⟨rfl, rfl, trivial⟩ ?_
  refine hP.mono ?_
  rintro _ e4 M3 ⟨rfl, rfl, hP⟩
  refine im_bkN ?_
  exact im_vret (q := 16) D325_15 rfl hP

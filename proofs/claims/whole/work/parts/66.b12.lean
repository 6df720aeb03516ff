/-! blocks of the reference -/
theorem D377_0 {g : im_g} : im_D g 377 0 (.aload_n 0) 1 := im_D.of (by decide +kernel)
theorem D377_1 {g : im_g} : im_D g 377 1 (.getfield 858) 4 := im_D.of (by decide +kernel)
theorem D377_4 {g : im_g} : im_D g 377 4 (.istore_n 1) 5 := im_D.of (by decide +kernel)
theorem D377_5 {g : im_g} : im_D g 377 5 (.aload_n 0) 6 := im_D.of (by decide +kernel)
theorem D377_6 {g : im_g} : im_D g 377 6 (.aload_n 0) 7 := im_D.of (by decide +kernel)
theorem D377_7 {g : im_g} : im_D g 377 7 (.getfield 45) 10 := im_D.of (by decide +kernel)
theorem D377_10 {g : im_g} : im_D g 377 10 (.iload_n 1) 11 := im_D.of (by decide +kernel)
theorem D377_11 {g : im_g} : im_D g 377 11 (.iaload) 12 := im_D.of (by decide +kernel)
theorem D377_12 {g : im_g} : im_D g 377 12 (.invokevirtual 984) 15 := im_D.of (by decide +kernel)
theorem D377_15 {g : im_g} : im_D g 377 15 (.istore_n 2) 16 := im_D.of (by decide +kernel)
theorem D377_16 {g : im_g} : im_D g 377 16 (.aload_n 0) 17 := im_D.of (by decide +kernel)
theorem D377_17 {g : im_g} : im_D g 377 17 (.aload_n 0) 18 := im_D.of (by decide +kernel)
theorem D377_18 {g : im_g} : im_D g 377 18 (.getfield 48) 21 := im_D.of (by decide +kernel)
theorem D377_21 {g : im_g} : im_D g 377 21 (.iload_n 1) 22 := im_D.of (by decide +kernel)
theorem D377_22 {g : im_g} : im_D g 377 22 (.iaload) 23 := im_D.of (by decide +kernel)
theorem D377_23 {g : im_g} : im_D g 377 23 (.putfield 858) 26 := im_D.of (by decide +kernel)
theorem D377_26 {g : im_g} : im_D g 377 26 (.aload_n 0) 27 := im_D.of (by decide +kernel)
theorem D377_27 {g : im_g} : im_D g 377 27 (.getfield 855) 30 := im_D.of (by decide +kernel)
theorem D377_30 {g : im_g} : im_D g 377 30 (.ifCond .ge 4) 33 := im_D.of (by decide +kernel)
theorem D377_33 {g : im_g} : im_D g 377 33 (.return_) 34 := im_D.of (by decide +kernel)
theorem D377_34 {g : im_g} : im_D g 377 34 (.aload_n 0) 35 := im_D.of (by decide +kernel)
theorem D377_35 {g : im_g} : im_D g 377 35 (.getfield 36) 38 := im_D.of (by decide +kernel)
theorem D377_38 {g : im_g} : im_D g 377 38 (.iload_n 1) 39 := im_D.of (by decide +kernel)
theorem D377_39 {g : im_g} : im_D g 377 39 (.laload) 40 := im_D.of (by decide +kernel)
theorem D377_40 {g : im_g} : im_D g 377 40 (.lstore_n 3) 41 := im_D.of (by decide +kernel)
theorem D377_41 {g : im_g} : im_D g 377 41 (.aload_n 0) 42 := im_D.of (by decide +kernel)
theorem D377_42 {g : im_g} : im_D g 377 42 (.getfield 42) 45 := im_D.of (by decide +kernel)
theorem D377_45 {g : im_g} : im_D g 377 45 (.iload_n 1) 46 := im_D.of (by decide +kernel)
theorem D377_46 {g : im_g} : im_D g 377 46 (.laload) 47 := im_D.of (by decide +kernel)
theorem D377_47 {g : im_g} : im_D g 377 47 (.lstore 5) 49 := im_D.of (by decide +kernel)
theorem D377_49 {g : im_g} : im_D g 377 49 (.aload_n 0) 50 := im_D.of (by decide +kernel)
theorem D377_50 {g : im_g} : im_D g 377 50 (.getfield 17) 53 := im_D.of (by decide +kernel)
theorem D377_53 {g : im_g} : im_D g 377 53 (.iload_n 2) 54 := im_D.of (by decide +kernel)
theorem D377_54 {g : im_g} : im_D g 377 54 (.iaload) 55 := im_D.of (by decide +kernel)
theorem D377_55 {g : im_g} : im_D g 377 55 (.ifCond .gt 19) 58 := im_D.of (by decide +kernel)
theorem D377_58 {g : im_g} : im_D g 377 58 (.aload_n 0) 59 := im_D.of (by decide +kernel)
theorem D377_59 {g : im_g} : im_D g 377 59 (.iconst 2) 60 := im_D.of (by decide +kernel)
theorem D377_60 {g : im_g} : im_D g 377 60 (.lload_n 3) 61 := im_D.of (by decide +kernel)
theorem D377_61 {g : im_g} : im_D g 377 61 (.aload_n 0) 62 := im_D.of (by decide +kernel)
theorem D377_62 {g : im_g} : im_D g 377 62 (.getfield 39) 65 := im_D.of (by decide +kernel)
theorem D377_65 {g : im_g} : im_D g 377 65 (.iload_n 1) 66 := im_D.of (by decide +kernel)
theorem D377_66 {g : im_g} : im_D g 377 66 (.laload) 67 := im_D.of (by decide +kernel)
theorem D377_67 {g : im_g} : im_D g 377 67 (.lload 5) 69 := im_D.of (by decide +kernel)
theorem D377_69 {g : im_g} : im_D g 377 69 (.iload_n 2) 70 := im_D.of (by decide +kernel)
theorem D377_70 {g : im_g} : im_D g 377 70 (.invokevirtual 987) 73 := im_D.of (by decide +kernel)
theorem D377_73 {g : im_g} : im_D g 377 73 (.return_) 74 := im_D.of (by decide +kernel)
theorem D377_74 {g : im_g} : im_D g 377 74 (.aload_n 0) 75 := im_D.of (by decide +kernel)
theorem D377_75 {g : im_g} : im_D g 377 75 (.lload_n 3) 76 := im_D.of (by decide +kernel)
theorem D377_76 {g : im_g} : im_D g 377 76 (.lload 5) 78 := im_D.of (by decide +kernel)
theorem D377_78 {g : im_g} : im_D g 377 78 (.invokevirtual 895) 81 := im_D.of (by decide +kernel)
theorem D377_81 {g : im_g} : im_D g 377 81 (.istore 7) 83 := im_D.of (by decide +kernel)
theorem D377_83 {g : im_g} : im_D g 377 83 (.aload_n 0) 84 := im_D.of (by decide +kernel)
theorem D377_84 {g : im_g} : im_D g 377 84 (.lload_n 3) 85 := im_D.of (by decide +kernel)
theorem D377_85 {g : im_g} : im_D g 377 85 (.lload 5) 87 := im_D.of (by decide +kernel)
theorem D377_87 {g : im_g} : im_D g 377 87 (.invokevirtual 876) 90 := im_D.of (by decide +kernel)
theorem D377_90 {g : im_g} : im_D g 377 90 (.istore 8) 92 := im_D.of (by decide +kernel)
theorem D377_92 {g : im_g} : im_D g 377 92 (.iload_n 2) 93 := im_D.of (by decide +kernel)
theorem D377_93 {g : im_g} : im_D g 377 93 (.istore 9) 95 := im_D.of (by decide +kernel)
theorem D377_95 {g : im_g} : im_D g 377 95 (.iload 7) 97 := im_D.of (by decide +kernel)
theorem D377_97 {g : im_g} : im_D g 377 97 (.ifCond .eq 18) 100 := im_D.of (by decide +kernel)
theorem D377_100 {g : im_g} : im_D g 377 100 (.aload_n 0) 101 := im_D.of (by decide +kernel)
theorem D377_101 {g : im_g} : im_D g 377 101 (.aload_n 0) 102 := im_D.of (by decide +kernel)
theorem D377_102 {g : im_g} : im_D g 377 102 (.getfield 195) 105 := im_D.of (by decide +kernel)
theorem D377_105 {g : im_g} : im_D g 377 105 (.iload 8) 107 := im_D.of (by decide +kernel)
theorem D377_107 {g : im_g} : im_D g 377 107 (.iaload) 108 := im_D.of (by decide +kernel)
theorem D377_108 {g : im_g} : im_D g 377 108 (.iload_n 2) 109 := im_D.of (by decide +kernel)
theorem D377_109 {g : im_g} : im_D g 377 109 (.invokevirtual 674) 112 := im_D.of (by decide +kernel)
theorem D377_112 {g : im_g} : im_D g 377 112 (.ifCond .ge 36) 115 := im_D.of (by decide +kernel)
theorem D377_115 {g : im_g} : im_D g 377 115 (.aload_n 0) 116 := im_D.of (by decide +kernel)
theorem D377_116 {g : im_g} : im_D g 377 116 (.iconst 3) 117 := im_D.of (by decide +kernel)
theorem D377_117 {g : im_g} : im_D g 377 117 (.lload_n 3) 118 := im_D.of (by decide +kernel)
theorem D377_118 {g : im_g} : im_D g 377 118 (.aload_n 0) 119 := im_D.of (by decide +kernel)
theorem D377_119 {g : im_g} : im_D g 377 119 (.getfield 39) 122 := im_D.of (by decide +kernel)
theorem D377_122 {g : im_g} : im_D g 377 122 (.iload_n 1) 123 := im_D.of (by decide +kernel)
theorem D377_123 {g : im_g} : im_D g 377 123 (.laload) 124 := im_D.of (by decide +kernel)
theorem D377_124 {g : im_g} : im_D g 377 124 (.lload 5) 126 := im_D.of (by decide +kernel)
theorem D377_126 {g : im_g} : im_D g 377 126 (.iload_n 2) 127 := im_D.of (by decide +kernel)
theorem D377_127 {g : im_g} : im_D g 377 127 (.invokevirtual 987) 130 := im_D.of (by decide +kernel)
theorem D377_130 {g : im_g} : im_D g 377 130 (.iload 7) 132 := im_D.of (by decide +kernel)
theorem D377_132 {g : im_g} : im_D g 377 132 (.ifCond .eq 13) 135 := im_D.of (by decide +kernel)
theorem D377_135 {g : im_g} : im_D g 377 135 (.aload_n 0) 136 := im_D.of (by decide +kernel)
theorem D377_136 {g : im_g} : im_D g 377 136 (.getfield 195) 139 := im_D.of (by decide +kernel)
theorem D377_139 {g : im_g} : im_D g 377 139 (.iload 8) 141 := im_D.of (by decide +kernel)
theorem D377_141 {g : im_g} : im_D g 377 141 (.iaload) 142 := im_D.of (by decide +kernel)
theorem D377_142 {g : im_g} : im_D g 377 142 (.goto 4) 145 := im_D.of (by decide +kernel)
theorem D377_145 {g : im_g} : im_D g 377 145 (.iconst (-1)) 146 := im_D.of (by decide +kernel)
theorem D377_146 {g : im_g} : im_D g 377 146 (.istore 9) 148 := im_D.of (by decide +kernel)
theorem D377_148 {g : im_g} : im_D g 377 148 (.iload 9) 150 := im_D.of (by decide +kernel)
theorem D377_150 {g : im_g} : im_D g 377 150 (.iconst (-1)) 151 := im_D.of (by decide +kernel)
theorem D377_151 {g : im_g} : im_D g 377 151 (.if_icmp .eq 10) 154 := im_D.of (by decide +kernel)
theorem D377_154 {g : im_g} : im_D g 377 154 (.aload_n 0) 155 := im_D.of (by decide +kernel)
theorem D377_155 {g : im_g} : im_D g 377 155 (.getfield 855) 158 := im_D.of (by decide +kernel)
theorem D377_158 {g : im_g} : im_D g 377 158 (.ifCond .ge 4) 161 := im_D.of (by decide +kernel)
theorem D377_161 {g : im_g} : im_D g 377 161 (.return_) 162 := im_D.of (by decide +kernel)
theorem D377_162 {g : im_g} : im_D g 377 162 (.aload_n 0) 163 := im_D.of (by decide +kernel)
theorem D377_163 {g : im_g} : im_D g 377 163 (.aload_n 0) 164 := im_D.of (by decide +kernel)
theorem D377_164 {g : im_g} : im_D g 377 164 (.getfield 195) 167 := im_D.of (by decide +kernel)
theorem D377_167 {g : im_g} : im_D g 377 167 (.iload 8) 169 := im_D.of (by decide +kernel)
theorem D377_169 {g : im_g} : im_D g 377 169 (.iaload) 170 := im_D.of (by decide +kernel)
theorem D377_170 {g : im_g} : im_D g 377 170 (.iload 9) 172 := im_D.of (by decide +kernel)
theorem D377_172 {g : im_g} : im_D g 377 172 (.iconst (-1)) 173 := im_D.of (by decide +kernel)
theorem D377_173 {g : im_g} : im_D g 377 173 (.invokevirtual 962) 176 := im_D.of (by decide +kernel)
theorem D377_176 {g : im_g} : im_D g 377 176 (.istore 10) 178 := im_D.of (by decide +kernel)
theorem D377_178 {g : im_g} : im_D g 377 178 (.aload_n 0) 179 := im_D.of (by decide +kernel)
theorem D377_179 {g : im_g} : im_D g 377 179 (.getfield 17) 182 := im_D.of (by decide +kernel)
theorem D377_182 {g : im_g} : im_D g 377 182 (.iload 10) 184 := im_D.of (by decide +kernel)
theorem D377_184 {g : im_g} : im_D g 377 184 (.iaload) 185 := im_D.of (by decide +kernel)
theorem D377_185 {g : im_g} : im_D g 377 185 (.ifCond .ne 12) 188 := im_D.of (by decide +kernel)
theorem D377_188 {g : im_g} : im_D g 377 188 (.aload_n 0) 189 := im_D.of (by decide +kernel)
theorem D377_189 {g : im_g} : im_D g 377 189 (.iload 8) 191 := im_D.of (by decide +kernel)
theorem D377_191 {g : im_g} : im_D g 377 191 (.invokevirtual 991) 194 := im_D.of (by decide +kernel)
theorem D377_194 {g : im_g} : im_D g 377 194 (.goto 12) 197 := im_D.of (by decide +kernel)
theorem D377_197 {g : im_g} : im_D g 377 197 (.aload_n 0) 198 := im_D.of (by decide +kernel)
theorem D377_198 {g : im_g} : im_D g 377 198 (.getfield 195) 201 := im_D.of (by decide +kernel)
theorem D377_201 {g : im_g} : im_D g 377 201 (.iload 8) 203 := im_D.of (by decide +kernel)
theorem D377_203 {g : im_g} : im_D g 377 203 (.iload 10) 205 := im_D.of (by decide +kernel)
theorem D377_205 {g : im_g} : im_D g 377 205 (.iastore) 206 := im_D.of (by decide +kernel)
theorem D377_206 {g : im_g} : im_D g 377 206 (.aload_n 0) 207 := im_D.of (by decide +kernel)
theorem D377_207 {g : im_g} : im_D g 377 207 (.aload_n 0) 208 := im_D.of (by decide +kernel)
theorem D377_208 {g : im_g} : im_D g 377 208 (.getfield 33) 211 := im_D.of (by decide +kernel)
theorem D377_211 {g : im_g} : im_D g 377 211 (.iload_n 1) 212 := im_D.of (by decide +kernel)
theorem D377_212 {g : im_g} : im_D g 377 212 (.iaload) 213 := im_D.of (by decide +kernel)
theorem D377_213 {g : im_g} : im_D g 377 213 (.iconst 2) 214 := im_D.of (by decide +kernel)
theorem D377_214 {g : im_g} : im_D g 377 214 (.if_icmp .ne 7) 217 := im_D.of (by decide +kernel)
theorem D377_217 {g : im_g} : im_D g 377 217 (.iconst 0) 218 := im_D.of (by decide +kernel)
theorem D377_218 {g : im_g} : im_D g 377 218 (.goto 4) 221 := im_D.of (by decide +kernel)
theorem D377_221 {g : im_g} : im_D g 377 221 (.iconst 1) 222 := im_D.of (by decide +kernel)
theorem D377_222 {g : im_g} : im_D g 377 222 (.lload_n 3) 223 := im_D.of (by decide +kernel)
theorem D377_223 {g : im_g} : im_D g 377 223 (.aload_n 0) 224 := im_D.of (by decide +kernel)
theorem D377_224 {g : im_g} : im_D g 377 224 (.getfield 39) 227 := im_D.of (by decide +kernel)
theorem D377_227 {g : im_g} : im_D g 377 227 (.iload_n 1) 228 := im_D.of (by decide +kernel)
theorem D377_228 {g : im_g} : im_D g 377 228 (.laload) 229 := im_D.of (by decide +kernel)
theorem D377_229 {g : im_g} : im_D g 377 229 (.lload 5) 231 := im_D.of (by decide +kernel)
theorem D377_231 {g : im_g} : im_D g 377 231 (.iload 9) 233 := im_D.of (by decide +kernel)
theorem D377_233 {g : im_g} : im_D g 377 233 (.invokevirtual 994) 236 := im_D.of (by decide +kernel)
theorem D377_236 {g : im_g} : im_D g 377 236 (.return_) 237 := im_D.of (by decide +kernel)
theorem D378_0 {g : im_g} : im_D g 378 0 (.aload_n 0) 1 := im_D.of (by decide +kernel)
theorem D378_1 {g : im_g} : im_D g 378 1 (.iload_n 1) 2 := im_D.of (by decide +kernel)
theorem D378_2 {g : im_g} : im_D g 378 2 (.invokevirtual 956) 5 := im_D.of (by decide +kernel)
theorem D378_5 {g : im_g} : im_D g 378 5 (.istore_n 2) 6 := im_D.of (by decide +kernel)
theorem D378_6 {g : im_g} : im_D g 378 6 (.aload_n 0) 7 := im_D.of (by decide +kernel)
theorem D378_7 {g : im_g} : im_D g 378 7 (.getfield 452) 10 := im_D.of (by decide +kernel)
theorem D378_10 {g : im_g} : im_D g 378 10 (.ifCond .eq 9) 13 := im_D.of (by decide +kernel)
theorem D378_13 {g : im_g} : im_D g 378 13 (.aload_n 0) 14 := im_D.of (by decide +kernel)
theorem D378_14 {g : im_g} : im_D g 378 14 (.bipush (-8)) 16 := im_D.of (by decide +kernel)
theorem D378_16 {g : im_g} : im_D g 378 16 (.invokevirtual 959) 19 := im_D.of (by decide +kernel)
theorem D378_19 {g : im_g} : im_D g 378 19 (.iload_n 2) 20 := im_D.of (by decide +kernel)
theorem D378_20 {g : im_g} : im_D g 378 20 (.ireturn) 21 := im_D.of (by decide +kernel)
theorem D379_0 {g : im_g} : im_D g 379 0 (.aload_n 0) 1 := im_D.of (by decide +kernel)
theorem D379_1 {g : im_g} : im_D g 379 1 (.getfield 449) 4 := im_D.of (by decide +kernel)
theorem D379_4 {g : im_g} : im_D g 379 4 (.istore_n 2) 5 := im_D.of (by decide +kernel)
theorem D379_5 {g : im_g} : im_D g 379 5 (.aload_n 0) 6 := im_D.of (by decide +kernel)
theorem D379_6 {g : im_g} : im_D g 379 6 (.getfield 941) 9 := im_D.of (by decide +kernel)
theorem D379_9 {g : im_g} : im_D g 379 9 (.ifCond .eq 37) 12 := im_D.of (by decide +kernel)
theorem D379_12 {g : im_g} : im_D g 379 12 (.aload_n 0) 13 := im_D.of (by decide +kernel)
theorem D379_13 {g : im_g} : im_D g 379 13 (.getfield 267) 16 := im_D.of (by decide +kernel)
theorem D379_16 {g : im_g} : im_D g 379 16 (.iload_n 1) 17 := im_D.of (by decide +kernel)
theorem D379_17 {g : im_g} : im_D g 379 17 (.bipush 64) 19 := im_D.of (by decide +kernel)
theorem D379_19 {g : im_g} : im_D g 379 19 (.irem) 20 := im_D.of (by decide +kernel)
theorem D379_20 {g : im_g} : im_D g 379 20 (.baload) 21 := im_D.of (by decide +kernel)
theorem D379_21 {g : im_g} : im_D g 379 21 (.ifCond .eq 25) 24 := im_D.of (by decide +kernel)
theorem D379_24 {g : im_g} : im_D g 379 24 (.aload_n 0) 25 := im_D.of (by decide +kernel)
theorem D379_25 {g : im_g} : im_D g 379 25 (.getfield 270) 28 := im_D.of (by decide +kernel)
theorem D379_28 {g : im_g} : im_D g 379 28 (.iload_n 1) 29 := im_D.of (by decide +kernel)
theorem D379_29 {g : im_g} : im_D g 379 29 (.bipush 64) 31 := im_D.of (by decide +kernel)
theorem D379_31 {g : im_g} : im_D g 379 31 (.irem) 32 := im_D.of (by decide +kernel)
theorem D379_32 {g : im_g} : im_D g 379 32 (.iaload) 33 := im_D.of (by decide +kernel)
theorem D379_33 {g : im_g} : im_D g 379 33 (.iload_n 1) 34 := im_D.of (by decide +kernel)
theorem D379_34 {g : im_g} : im_D g 379 34 (.if_icmp .ne 12) 37 := im_D.of (by decide +kernel)
theorem D379_37 {g : im_g} : im_D g 379 37 (.aload_n 0) 38 := im_D.of (by decide +kernel)
theorem D379_38 {g : im_g} : im_D g 379 38 (.iload_n 1) 39 := im_D.of (by decide +kernel)
theorem D379_39 {g : im_g} : im_D g 379 39 (.bipush 64) 41 := im_D.of (by decide +kernel)
theorem D379_41 {g : im_g} : im_D g 379 41 (.irem) 42 := im_D.of (by decide +kernel)
theorem D379_42 {g : im_g} : im_D g 379 42 (.invokevirtual 947) 45 := im_D.of (by decide +kernel)
theorem D379_45 {g : im_g} : im_D g 379 45 (.ireturn) 46 := im_D.of (by decide +kernel)
theorem D379_46 {g : im_g} : im_D g 379 46 (.aload_n 0) 47 := im_D.of (by decide +kernel)
theorem D379_47 {g : im_g} : im_D g 379 47 (.iconst 0) 48 := im_D.of (by decide +kernel)
theorem D379_48 {g : im_g} : im_D g 379 48 (.putfield 452) 51 := im_D.of (by decide +kernel)
theorem D379_51 {g : im_g} : im_D g 379 51 (.aload_n 0) 52 := im_D.of (by decide +kernel)
theorem D379_52 {g : im_g} : im_D g 379 52 (.iconst 0) 53 := im_D.of (by decide +kernel)
theorem D379_53 {g : im_g} : im_D g 379 53 (.putfield 886) 56 := im_D.of (by decide +kernel)
theorem D379_56 {g : im_g} : im_D g 379 56 (.aload_n 0) 57 := im_D.of (by decide +kernel)
theorem D379_57 {g : im_g} : im_D g 379 57 (.iconst 0) 58 := im_D.of (by decide +kernel)
theorem D379_58 {g : im_g} : im_D g 379 58 (.putfield 889) 61 := im_D.of (by decide +kernel)
theorem D379_61 {g : im_g} : im_D g 379 61 (.aload_n 0) 62 := im_D.of (by decide +kernel)
theorem D379_62 {g : im_g} : im_D g 379 62 (.iload_n 1) 63 := im_D.of (by decide +kernel)
theorem D379_63 {g : im_g} : im_D g 379 63 (.invokevirtual 932) 66 := im_D.of (by decide +kernel)
theorem D379_66 {g : im_g} : im_D g 379 66 (.aload_n 0) 67 := im_D.of (by decide +kernel)
theorem D379_67 {g : im_g} : im_D g 379 67 (.getfield 886) 70 := im_D.of (by decide +kernel)
theorem D379_70 {g : im_g} : im_D g 379 70 (.ifCond .le 17) 73 := im_D.of (by decide +kernel)
theorem D379_73 {g : im_g} : im_D g 379 73 (.aload_n 0) 74 := im_D.of (by decide +kernel)
theorem D379_74 {g : im_g} : im_D g 379 74 (.getfield 452) 77 := im_D.of (by decide +kernel)
theorem D379_77 {g : im_g} : im_D g 379 77 (.ifCond .ne 10) 80 := im_D.of (by decide +kernel)
theorem D379_80 {g : im_g} : im_D g 379 80 (.aload_n 0) 81 := im_D.of (by decide +kernel)
theorem D379_81 {g : im_g} : im_D g 379 81 (.invokevirtual 950) 84 := im_D.of (by decide +kernel)
theorem D379_84 {g : im_g} : im_D g 379 84 (.goto (-18)) 87 := im_D.of (by decide +kernel)
theorem D379_87 {g : im_g} : im_D g 379 87 (.aload_n 0) 88 := im_D.of (by decide +kernel)
theorem D379_88 {g : im_g} : im_D g 379 88 (.getfield 452) 91 := im_D.of (by decide +kernel)
theorem D379_91 {g : im_g} : im_D g 379 91 (.ifCond .eq 17) 94 := im_D.of (by decide +kernel)
theorem D379_94 {g : im_g} : im_D g 379 94 (.aload_n 0) 95 := im_D.of (by decide +kernel)
theorem D379_95 {g : im_g} : im_D g 379 95 (.iload_n 2) 96 := im_D.of (by decide +kernel)
theorem D379_96 {g : im_g} : im_D g 379 96 (.putfield 449) 99 := im_D.of (by decide +kernel)
theorem D379_99 {g : im_g} : im_D g 379 99 (.aload_n 0) 100 := im_D.of (by decide +kernel)
theorem D379_100 {g : im_g} : im_D g 379 100 (.iload_n 1) 101 := im_D.of (by decide +kernel)
theorem D379_101 {g : im_g} : im_D g 379 101 (.iconst 0) 102 := im_D.of (by decide +kernel)
theorem D379_102 {g : im_g} : im_D g 379 102 (.iconst (-1)) 103 := im_D.of (by decide +kernel)
theorem D379_103 {g : im_g} : im_D g 379 103 (.invokevirtual 953) 106 := im_D.of (by decide +kernel)
theorem D379_106 {g : im_g} : im_D g 379 106 (.iconst 0) 107 := im_D.of (by decide +kernel)
theorem D379_107 {g : im_g} : im_D g 379 107 (.ireturn) 108 := im_D.of (by decide +kernel)
theorem D379_108 {g : im_g} : im_D g 379 108 (.aload_n 0) 109 := im_D.of (by decide +kernel)
theorem D379_109 {g : im_g} : im_D g 379 109 (.getfield 264) 112 := im_D.of (by decide +kernel)
theorem D379_112 {g : im_g} : im_D g 379 112 (.iconst 0) 113 := im_D.of (by decide +kernel)
theorem D379_113 {g : im_g} : im_D g 379 113 (.iaload) 114 := im_D.of (by decide +kernel)
theorem D379_114 {g : im_g} : im_D g 379 114 (.istore_n 3) 115 := im_D.of (by decide +kernel)
theorem D379_115 {g : im_g} : im_D g 379 115 (.aload_n 0) 116 := im_D.of (by decide +kernel)
theorem D379_116 {g : im_g} : im_D g 379 116 (.getfield 33) 119 := im_D.of (by decide +kernel)
theorem D379_119 {g : im_g} : im_D g 379 119 (.iload_n 1) 120 := im_D.of (by decide +kernel)
theorem D379_120 {g : im_g} : im_D g 379 120 (.iaload) 121 := im_D.of (by decide +kernel)
theorem D379_121 {g : im_g} : im_D g 379 121 (.bipush 40) 123 := im_D.of (by decide +kernel)
theorem D379_123 {g : im_g} : im_D g 379 123 (.if_icmp .lt 10) 126 := im_D.of (by decide +kernel)
theorem D379_126 {g : im_g} : im_D g 379 126 (.aload_n 0) 127 := im_D.of (by decide +kernel)
theorem D379_127 {g : im_g} : im_D g 379 127 (.iload_n 2) 128 := im_D.of (by decide +kernel)
theorem D379_128 {g : im_g} : im_D g 379 128 (.putfield 449) 131 := im_D.of (by decide +kernel)
theorem D379_131 {g : im_g} : im_D g 379 131 (.iload_n 3) 132 := im_D.of (by decide +kernel)
theorem D379_132 {g : im_g} : im_D g 379 132 (.ireturn) 133 := im_D.of (by decide +kernel)
theorem D379_133 {g : im_g} : im_D g 379 133 (.aload_n 0) 134 := im_D.of (by decide +kernel)
theorem D379_134 {g : im_g} : im_D g 379 134 (.getfield 17) 137 := im_D.of (by decide +kernel)
theorem D379_137 {g : im_g} : im_D g 379 137 (.iload_n 3) 138 := im_D.of (by decide +kernel)
theorem D379_138 {g : im_g} : im_D g 379 138 (.iconst 1) 139 := im_D.of (by decide +kernel)
theorem D379_139 {g : im_g} : im_D g 379 139 (.iadd) 140 := im_D.of (by decide +kernel)
theorem D379_140 {g : im_g} : im_D g 379 140 (.iaload) 141 := im_D.of (by decide +kernel)
theorem D379_141 {g : im_g} : im_D g 379 141 (.iconst 2) 142 := im_D.of (by decide +kernel)
theorem D379_142 {g : im_g} : im_D g 379 142 (.iadd) 143 := im_D.of (by decide +kernel)
theorem D379_143 {g : im_g} : im_D g 379 143 (.istore 4) 145 := im_D.of (by decide +kernel)
theorem D379_145 {g : im_g} : im_D g 379 145 (.iload_n 3) 146 := im_D.of (by decide +kernel)
theorem D379_146 {g : im_g} : im_D g 379 146 (.iload_n 2) 147 := im_D.of (by decide +kernel)
theorem D379_147 {g : im_g} : im_D g 379 147 (.if_icmp .ge 10) 150 := im_D.of (by decide +kernel)
theorem D379_150 {g : im_g} : im_D g 379 150 (.aload_n 0) 151 := im_D.of (by decide +kernel)
theorem D379_151 {g : im_g} : im_D g 379 151 (.iload_n 2) 152 := im_D.of (by decide +kernel)
theorem D379_152 {g : im_g} : im_D g 379 152 (.putfield 449) 155 := im_D.of (by decide +kernel)
theorem D379_155 {g : im_g} : im_D g 379 155 (.iload_n 3) 156 := im_D.of (by decide +kernel)
theorem D379_156 {g : im_g} : im_D g 379 156 (.ireturn) 157 := im_D.of (by decide +kernel)
theorem D379_157 {g : im_g} : im_D g 379 157 (.iconst 0) 158 := im_D.of (by decide +kernel)
theorem D379_158 {g : im_g} : im_D g 379 158 (.istore 5) 160 := im_D.of (by decide +kernel)
theorem D379_160 {g : im_g} : im_D g 379 160 (.iload 5) 162 := im_D.of (by decide +kernel)
theorem D379_162 {g : im_g} : im_D g 379 162 (.iload 4) 164 := im_D.of (by decide +kernel)
theorem D379_164 {g : im_g} : im_D g 379 164 (.if_icmp .ge 27) 167 := im_D.of (by decide +kernel)
theorem D379_167 {g : im_g} : im_D g 379 167 (.aload_n 0) 168 := im_D.of (by decide +kernel)
theorem D379_168 {g : im_g} : im_D g 379 168 (.getfield 17) 171 := im_D.of (by decide +kernel)
theorem D379_171 {g : im_g} : im_D g 379 171 (.iload_n 2) 172 := im_D.of (by decide +kernel)
theorem D379_172 {g : im_g} : im_D g 379 172 (.iload 5) 174 := im_D.of (by decide +kernel)
theorem D379_174 {g : im_g} : im_D g 379 174 (.iadd) 175 := im_D.of (by decide +kernel)
theorem D379_175 {g : im_g} : im_D g 379 175 (.aload_n 0) 176 := im_D.of (by decide +kernel)
theorem D379_176 {g : im_g} : im_D g 379 176 (.getfield 17) 179 := im_D.of (by decide +kernel)
theorem D379_179 {g : im_g} : im_D g 379 179 (.iload_n 3) 180 := im_D.of (by decide +kernel)
theorem D379_180 {g : im_g} : im_D g 379 180 (.iload 5) 182 := im_D.of (by decide +kernel)
theorem D379_182 {g : im_g} : im_D g 379 182 (.iadd) 183 := im_D.of (by decide +kernel)
theorem D379_183 {g : im_g} : im_D g 379 183 (.iaload) 184 := im_D.of (by decide +kernel)
theorem D379_184 {g : im_g} : im_D g 379 184 (.iastore) 185 := im_D.of (by decide +kernel)
theorem D379_185 {g : im_g} : im_D g 379 185 (.iinc 5 1) 188 := im_D.of (by decide +kernel)
theorem D379_188 {g : im_g} : im_D g 379 188 (.goto (-28)) 191 := im_D.of (by decide +kernel)
theorem D379_191 {g : im_g} : im_D g 379 191 (.aload_n 0) 192 := im_D.of (by decide +kernel)
theorem D379_192 {g : im_g} : im_D g 379 192 (.iload_n 2) 193 := im_D.of (by decide +kernel)
theorem D379_193 {g : im_g} : im_D g 379 193 (.iload 4) 195 := im_D.of (by decide +kernel)
theorem D379_195 {g : im_g} : im_D g 379 195 (.iadd) 196 := im_D.of (by decide +kernel)
theorem D379_196 {g : im_g} : im_D g 379 196 (.putfield 449) 199 := im_D.of (by decide +kernel)
theorem D379_199 {g : im_g} : im_D g 379 199 (.aload_n 0) 200 := im_D.of (by decide +kernel)
theorem D379_200 {g : im_g} : im_D g 379 200 (.iload_n 1) 201 := im_D.of (by decide +kernel)
theorem D379_201 {g : im_g} : im_D g 379 201 (.iload_n 2) 202 := im_D.of (by decide +kernel)
theorem D379_202 {g : im_g} : im_D g 379 202 (.iload 4) 204 := im_D.of (by decide +kernel)
theorem D379_204 {g : im_g} : im_D g 379 204 (.invokevirtual 953) 207 := im_D.of (by decide +kernel)
theorem D379_207 {g : im_g} : im_D g 379 207 (.iload_n 2) 208 := im_D.of (by decide +kernel)
theorem D379_208 {g : im_g} : im_D g 379 208 (.ireturn) 209 := im_D.of (by decide +kernel)
theorem D380_0 {g : im_g} : im_D g 380 0 (.aload_n 0) 1 := im_D.of (by decide +kernel)
theorem D380_1 {g : im_g} : im_D g 380 1 (.aload_n 0) 2 := im_D.of (by decide +kernel)
theorem D380_2 {g : im_g} : im_D g 380 2 (.getfield 273) 5 := im_D.of (by decide +kernel)
theorem D380_5 {g : im_g} : im_D g 380 5 (.iload_n 1) 6 := im_D.of (by decide +kernel)
theorem D380_6 {g : im_g} : im_D g 380 6 (.iaload) 7 := im_D.of (by decide +kernel)
theorem D380_7 {g : im_g} : im_D g 380 7 (.ifCond .ge 7) 10 := im_D.of (by decide +kernel)
theorem D380_10 {g : im_g} : im_D g 380 10 (.iconst 1) 11 := im_D.of (by decide +kernel)
theorem D380_11 {g : im_g} : im_D g 380 11 (.goto 4) 14 := im_D.of (by decide +kernel)
theorem D380_14 {g : im_g} : im_D g 380 14 (.iconst 0) 15 := im_D.of (by decide +kernel)
theorem D380_15 {g : im_g} : im_D g 380 15 (.putfield 452) 18 := im_D.of (by decide +kernel)
theorem D380_18 {g : im_g} : im_D g 380 18 (.aload_n 0) 19 := im_D.of (by decide +kernel)
theorem D380_19 {g : im_g} : im_D g 380 19 (.getfield 452) 22 := im_D.of (by decide +kernel)
theorem D380_22 {g : im_g} : im_D g 380 22 (.ifCond .eq 5) 25 := im_D.of (by decide +kernel)
theorem D380_25 {g : im_g} : im_D g 380 25 (.iconst 0) 26 := im_D.of (by decide +kernel)
theorem D380_26 {g : im_g} : im_D g 380 26 (.ireturn) 27 := im_D.of (by decide +kernel)
theorem D380_27 {g : im_g} : im_D g 380 27 (.aload_n 0) 28 := im_D.of (by decide +kernel)
theorem D380_28 {g : im_g} : im_D g 380 28 (.getfield 449) 31 := im_D.of (by decide +kernel)
theorem D380_31 {g : im_g} : im_D g 380 31 (.istore_n 2) 32 := im_D.of (by decide +kernel)
theorem D380_32 {g : im_g} : im_D g 380 32 (.iconst 0) 33 := im_D.of (by decide +kernel)
theorem D380_33 {g : im_g} : im_D g 380 33 (.istore_n 3) 34 := im_D.of (by decide +kernel)
theorem D380_34 {g : im_g} : im_D g 380 34 (.iload_n 3) 35 := im_D.of (by decide +kernel)
theorem D380_35 {g : im_g} : im_D g 380 35 (.aload_n 0) 36 := im_D.of (by decide +kernel)
theorem D380_36 {g : im_g} : im_D g 380 36 (.getfield 273) 39 := im_D.of (by decide +kernel)
theorem D380_39 {g : im_g} : im_D g 380 39 (.iload_n 1) 40 := im_D.of (by decide +kernel)
theorem D380_40 {g : im_g} : im_D g 380 40 (.iaload) 41 := im_D.of (by decide +kernel)
theorem D380_41 {g : im_g} : im_D g 380 41 (.if_icmp .ge 29) 44 := im_D.of (by decide +kernel)
theorem D380_44 {g : im_g} : im_D g 380 44 (.aload_n 0) 45 := im_D.of (by decide +kernel)
theorem D380_45 {g : im_g} : im_D g 380 45 (.getfield 17) 48 := im_D.of (by decide +kernel)
theorem D380_48 {g : im_g} : im_D g 380 48 (.iload_n 2) 49 := im_D.of (by decide +kernel)
theorem D380_49 {g : im_g} : im_D g 380 49 (.iload_n 3) 50 := im_D.of (by decide +kernel)
theorem D380_50 {g : im_g} : im_D g 380 50 (.iadd) 51 := im_D.of (by decide +kernel)
theorem D380_51 {g : im_g} : im_D g 380 51 (.aload_n 0) 52 := im_D.of (by decide +kernel)
theorem D380_52 {g : im_g} : im_D g 380 52 (.getfield 276) 55 := im_D.of (by decide +kernel)
theorem D380_55 {g : im_g} : im_D g 380 55 (.sipush 304) 58 := im_D.of (by decide +kernel)
theorem D380_58 {g : im_g} : im_D g 380 58 (.iload_n 1) 59 := im_D.of (by decide +kernel)
theorem D380_59 {g : im_g} : im_D g 380 59 (.imul) 60 := im_D.of (by decide +kernel)
theorem D380_60 {g : im_g} : im_D g 380 60 (.iload_n 3) 61 := im_D.of (by decide +kernel)
theorem D380_61 {g : im_g} : im_D g 380 61 (.iadd) 62 := im_D.of (by decide +kernel)
theorem D380_62 {g : im_g} : im_D g 380 62 (.iaload) 63 := im_D.of (by decide +kernel)
theorem D380_63 {g : im_g} : im_D g 380 63 (.iastore) 64 := im_D.of (by decide +kernel)
theorem D380_64 {g : im_g} : im_D g 380 64 (.iinc 3 1) 67 := im_D.of (by decide +kernel)
theorem D380_67 {g : im_g} : im_D g 380 67 (.goto (-33)) 70 := im_D.of (by decide +kernel)
theorem D380_70 {g : im_g} : im_D g 380 70 (.aload_n 0) 71 := im_D.of (by decide +kernel)
theorem D380_71 {g : im_g} : im_D g 380 71 (.iload_n 2) 72 := im_D.of (by decide +kernel)
theorem D380_72 {g : im_g} : im_D g 380 72 (.aload_n 0) 73 := im_D.of (by decide +kernel)
theorem D380_73 {g : im_g} : im_D g 380 73 (.getfield 273) 76 := im_D.of (by decide +kernel)
theorem D380_76 {g : im_g} : im_D g 380 76 (.iload_n 1) 77 := im_D.of (by decide +kernel)
theorem D380_77 {g : im_g} : im_D g 380 77 (.iaload) 78 := im_D.of (by decide +kernel)
theorem D380_78 {g : im_g} : im_D g 380 78 (.iadd) 79 := im_D.of (by decide +kernel)
theorem D380_79 {g : im_g} : im_D g 380 79 (.putfield 449) 82 := im_D.of (by decide +kernel)
theorem D380_82 {g : im_g} : im_D g 380 82 (.iload_n 2) 83 := im_D.of (by decide +kernel)
theorem D380_83 {g : im_g} : im_D g 380 83 (.ireturn) 84 := im_D.of (by decide +kernel)
theorem D381_0 {g : im_g} : im_D g 381 0 (.aload_n 0) 1 := im_D.of (by decide +kernel)
theorem D381_1 {g : im_g} : im_D g 381 1 (.getfield 258) 4 := im_D.of (by decide +kernel)
theorem D381_4 {g : im_g} : im_D g 381 4 (.aload_n 0) 5 := im_D.of (by decide +kernel)
theorem D381_5 {g : im_g} : im_D g 381 5 (.getfield 886) 8 := im_D.of (by decide +kernel)
theorem D381_8 {g : im_g} : im_D g 381 8 (.iload_n 1) 9 := im_D.of (by decide +kernel)
theorem D381_9 {g : im_g} : im_D g 381 9 (.iastore) 10 := im_D.of (by decide +kernel)
theorem D381_10 {g : im_g} : im_D g 381 10 (.aload_n 0) 11 := im_D.of (by decide +kernel)
theorem D381_11 {g : im_g} : im_D g 381 11 (.getfield 261) 14 := im_D.of (by decide +kernel)
theorem D381_14 {g : im_g} : im_D g 381 14 (.aload_n 0) 15 := im_D.of (by decide +kernel)
theorem D381_15 {g : im_g} : im_D g 381 15 (.getfield 886) 18 := im_D.of (by decide +kernel)
theorem D381_18 {g : im_g} : im_D g 381 18 (.iconst 0) 19 := im_D.of (by decide +kernel)
theorem D381_19 {g : im_g} : im_D g 381 19 (.iastore) 20 := im_D.of (by decide +kernel)
theorem D381_20 {g : im_g} : im_D g 381 20 (.aload_n 0) 21 := im_D.of (by decide +kernel)
theorem D381_21 {g : im_g} : im_D g 381 21 (.dup) 22 := im_D.of (by decide +kernel)
theorem D381_22 {g : im_g} : im_D g 381 22 (.getfield 886) 25 := im_D.of (by decide +kernel)
theorem D381_25 {g : im_g} : im_D g 381 25 (.iconst 1) 26 := im_D.of (by decide +kernel)
theorem D381_26 {g : im_g} : im_D g 381 26 (.iadd) 27 := im_D.of (by decide +kernel)
theorem D381_27 {g : im_g} : im_D g 381 27 (.putfield 886) 30 := im_D.of (by decide +kernel)
theorem D381_30 {g : im_g} : im_D g 381 30 (.return_) 31 := im_D.of (by decide +kernel)
theorem D382_0 {g : im_g} : im_D g 382 0 (.aload_n 0) 1 := im_D.of (by decide +kernel)
theorem D382_1 {g : im_g} : im_D g 382 1 (.getfield 258) 4 := im_D.of (by decide +kernel)
theorem D382_4 {g : im_g} : im_D g 382 4 (.aload_n 0) 5 := im_D.of (by decide +kernel)
theorem D382_5 {g : im_g} : im_D g 382 5 (.getfield 886) 8 := im_D.of (by decide +kernel)
theorem D382_8 {g : im_g} : im_D g 382 8 (.iconst 1) 9 := im_D.of (by decide +kernel)
theorem D382_9 {g : im_g} : im_D g 382 9 (.isub) 10 := im_D.of (by decide +kernel)
theorem D382_10 {g : im_g} : im_D g 382 10 (.iaload) 11 := im_D.of (by decide +kernel)
theorem D382_11 {g : im_g} : im_D g 382 11 (.istore_n 1) 12 := im_D.of (by decide +kernel)
theorem D382_12 {g : im_g} : im_D g 382 12 (.aload_n 0) 13 := im_D.of (by decide +kernel)
theorem D382_13 {g : im_g} : im_D g 382 13 (.getfield 261) 16 := im_D.of (by decide +kernel)
theorem D382_16 {g : im_g} : im_D g 382 16 (.aload_n 0) 17 := im_D.of (by decide +kernel)
theorem D382_17 {g : im_g} : im_D g 382 17 (.getfield 886) 20 := im_D.of (by decide +kernel)
theorem D382_20 {g : im_g} : im_D g 382 20 (.iconst 1) 21 := im_D.of (by decide +kernel)
theorem D382_21 {g : im_g} : im_D g 382 21 (.isub) 22 := im_D.of (by decide +kernel)
theorem D382_22 {g : im_g} : im_D g 382 22 (.iaload) 23 := im_D.of (by decide +kernel)
theorem D382_23 {g : im_g} : im_D g 382 23 (.istore_n 2) 24 := im_D.of (by decide +kernel)
theorem D382_24 {g : im_g} : im_D g 382 24 (.aload_n 0) 25 := im_D.of (by decide +kernel)
theorem D382_25 {g : im_g} : im_D g 382 25 (.getfield 33) 28 := im_D.of (by decide +kernel)
theorem D382_28 {g : im_g} : im_D g 382 28 (.iload_n 1) 29 := im_D.of (by decide +kernel)
theorem D382_29 {g : im_g} : im_D g 382 29 (.iaload) 30 := im_D.of (by decide +kernel)
theorem D382_30 {g : im_g} : im_D g 382 30 (.istore_n 3) 31 := im_D.of (by decide +kernel)
theorem D382_31 {g : im_g} : im_D g 382 31 (.iload_n 3) 32 := im_D.of (by decide +kernel)
theorem D382_32 {g : im_g} : im_D g 382 32 (.invokestatic 923) 35 := im_D.of (by decide +kernel)
theorem D382_35 {g : im_g} : im_D g 382 35 (.ifCond .eq 23) 38 := im_D.of (by decide +kernel)
theorem D382_38 {g : im_g} : im_D g 382 38 (.aload_n 0) 39 := im_D.of (by decide +kernel)
theorem D382_39 {g : im_g} : im_D g 382 39 (.dup) 40 := im_D.of (by decide +kernel)
theorem D382_40 {g : im_g} : im_D g 382 40 (.getfield 886) 43 := im_D.of (by decide +kernel)
theorem D382_43 {g : im_g} : im_D g 382 43 (.iconst 1) 44 := im_D.of (by decide +kernel)
theorem D382_44 {g : im_g} : im_D g 382 44 (.isub) 45 := im_D.of (by decide +kernel)
theorem D382_45 {g : im_g} : im_D g 382 45 (.putfield 886) 48 := im_D.of (by decide +kernel)
theorem D382_48 {g : im_g} : im_D g 382 48 (.aload_n 0) 49 := im_D.of (by decide +kernel)
theorem D382_49 {g : im_g} : im_D g 382 49 (.aload_n 0) 50 := im_D.of (by decide +kernel)
theorem D382_50 {g : im_g} : im_D g 382 50 (.iload_n 1) 51 := im_D.of (by decide +kernel)
theorem D382_51 {g : im_g} : im_D g 382 51 (.invokevirtual 926) 54 := im_D.of (by decide +kernel)
theorem D382_54 {g : im_g} : im_D g 382 54 (.invokevirtual 929) 57 := im_D.of (by decide +kernel)
theorem D382_57 {g : im_g} : im_D g 382 57 (.return_) 58 := im_D.of (by decide +kernel)
theorem D382_58 {g : im_g} : im_D g 382 58 (.aload_n 0) 59 := im_D.of (by decide +kernel)
theorem D382_59 {g : im_g} : im_D g 382 59 (.getfield 261) 62 := im_D.of (by decide +kernel)
theorem D382_62 {g : im_g} : im_D g 382 62 (.aload_n 0) 63 := im_D.of (by decide +kernel)
theorem D382_63 {g : im_g} : im_D g 382 63 (.getfield 886) 66 := im_D.of (by decide +kernel)
theorem D382_66 {g : im_g} : im_D g 382 66 (.iconst 1) 67 := im_D.of (by decide +kernel)
theorem D382_67 {g : im_g} : im_D g 382 67 (.isub) 68 := im_D.of (by decide +kernel)
theorem D382_68 {g : im_g} : im_D g 382 68 (.dup2) 69 := im_D.of (by decide +kernel)
theorem D382_69 {g : im_g} : im_D g 382 69 (.iaload) 70 := im_D.of (by decide +kernel)
theorem D382_70 {g : im_g} : im_D g 382 70 (.iconst 1) 71 := im_D.of (by decide +kernel)
theorem D382_71 {g : im_g} : im_D g 382 71 (.iadd) 72 := im_D.of (by decide +kernel)
theorem D382_72 {g : im_g} : im_D g 382 72 (.iastore) 73 := im_D.of (by decide +kernel)
theorem D382_73 {g : im_g} : im_D g 382 73 (.iload_n 2) 74 := im_D.of (by decide +kernel)
theorem D382_74 {g : im_g} : im_D g 382 74 (.ifCond .ne 16) 77 := im_D.of (by decide +kernel)
theorem D382_77 {g : im_g} : im_D g 382 77 (.aload_n 0) 78 := im_D.of (by decide +kernel)
theorem D382_78 {g : im_g} : im_D g 382 78 (.aload_n 0) 79 := im_D.of (by decide +kernel)
theorem D382_79 {g : im_g} : im_D g 382 79 (.getfield 45) 82 := im_D.of (by decide +kernel)
theorem D382_82 {g : im_g} : im_D g 382 82 (.iload_n 1) 83 := im_D.of (by decide +kernel)
theorem D382_83 {g : im_g} : im_D g 382 83 (.iaload) 84 := im_D.of (by decide +kernel)
theorem D382_84 {g : im_g} : im_D g 382 84 (.invokevirtual 932) 87 := im_D.of (by decide +kernel)
theorem D382_87 {g : im_g} : im_D g 382 87 (.goto 211) 90 := im_D.of (by decide +kernel)
theorem D382_90 {g : im_g} : im_D g 382 90 (.iload_n 3) 91 := im_D.of (by decide +kernel)
theorem D382_91 {g : im_g} : im_D g 382 91 (.bipush 32) 93 := im_D.of (by decide +kernel)
theorem D382_93 {g : im_g} : im_D g 382 93 (.if_icmp .ne 58) 96 := im_D.of (by decide +kernel)
theorem D382_96 {g : im_g} : im_D g 382 96 (.aload_n 0) 97 := im_D.of (by decide +kernel)
theorem D382_97 {g : im_g} : im_D g 382 97 (.dup) 98 := im_D.of (by decide +kernel)
theorem D382_98 {g : im_g} : im_D g 382 98 (.getfield 889) 101 := im_D.of (by decide +kernel)
theorem D382_101 {g : im_g} : im_D g 382 101 (.iconst 1) 102 := im_D.of (by decide +kernel)
theorem D382_102 {g : im_g} : im_D g 382 102 (.isub) 103 := im_D.of (by decide +kernel)
theorem D382_103 {g : im_g} : im_D g 382 103 (.putfield 889) 106 := im_D.of (by decide +kernel)
theorem D382_106 {g : im_g} : im_D g 382 106 (.aload_n 0) 107 := im_D.of (by decide +kernel)
theorem D382_107 {g : im_g} : im_D g 382 107 (.dup) 108 := im_D.of (by decide +kernel)
theorem D382_108 {g : im_g} : im_D g 382 108 (.getfield 886) 111 := im_D.of (by decide +kernel)
theorem D382_111 {g : im_g} : im_D g 382 111 (.iconst 1) 112 := im_D.of (by decide +kernel)
theorem D382_112 {g : im_g} : im_D g 382 112 (.isub) 113 := im_D.of (by decide +kernel)
theorem D382_113 {g : im_g} : im_D g 382 113 (.putfield 886) 116 := im_D.of (by decide +kernel)
theorem D382_116 {g : im_g} : im_D g 382 116 (.aload_n 0) 117 := im_D.of (by decide +kernel)
theorem D382_117 {g : im_g} : im_D g 382 117 (.aload_n 0) 118 := im_D.of (by decide +kernel)
theorem D382_118 {g : im_g} : im_D g 382 118 (.getfield 264) 121 := im_D.of (by decide +kernel)
theorem D382_121 {g : im_g} : im_D g 382 121 (.aload_n 0) 122 := im_D.of (by decide +kernel)
theorem D382_122 {g : im_g} : im_D g 382 122 (.getfield 889) 125 := im_D.of (by decide +kernel)
theorem D382_125 {g : im_g} : im_D g 382 125 (.iaload) 126 := im_D.of (by decide +kernel)
theorem D382_126 {g : im_g} : im_D g 382 126 (.iconst 1) 127 := im_D.of (by decide +kernel)
theorem D382_127 {g : im_g} : im_D g 382 127 (.if_icmp .ne 12) 130 := im_D.of (by decide +kernel)
theorem D382_130 {g : im_g} : im_D g 382 130 (.aload_n 0) 131 := im_D.of (by decide +kernel)
theorem D382_131 {g : im_g} : im_D g 382 131 (.getfield 48) 134 := im_D.of (by decide +kernel)
theorem D382_134 {g : im_g} : im_D g 382 134 (.iload_n 1) 135 := im_D.of (by decide +kernel)
theorem D382_135 {g : im_g} : im_D g 382 135 (.iaload) 136 := im_D.of (by decide +kernel)
theorem D382_136 {g : im_g} : im_D g 382 136 (.goto 9) 139 := im_D.of (by decide +kernel)
theorem D382_139 {g : im_g} : im_D g 382 139 (.aload_n 0) 140 := im_D.of (by decide +kernel)
theorem D382_140 {g : im_g} : im_D g 382 140 (.getfield 51) 143 := im_D.of (by decide +kernel)
theorem D382_143 {g : im_g} : im_D g 382 143 (.iload_n 1) 144 := im_D.of (by decide +kernel)
theorem D382_144 {g : im_g} : im_D g 382 144 (.iaload) 145 := im_D.of (by decide +kernel)
theorem D382_145 {g : im_g} : im_D g 382 145 (.invokevirtual 932) 148 := im_D.of (by decide +kernel)
theorem D382_148 {g : im_g} : im_D g 382 148 (.goto 150) 151 := im_D.of (by decide +kernel)
theorem D382_151 {g : im_g} : im_D g 382 151 (.iload_n 3) 152 := im_D.of (by decide +kernel)
theorem D382_152 {g : im_g} : im_D g 382 152 (.bipush 23) 154 := im_D.of (by decide +kernel)
theorem D382_154 {g : im_g} : im_D g 382 154 (.if_icmp .eq 9) 157 := im_D.of (by decide +kernel)
theorem D382_157 {g : im_g} : im_D g 382 157 (.iload_n 3) 158 := im_D.of (by decide +kernel)
theorem D382_158 {g : im_g} : im_D g 382 158 (.bipush 42) 160 := im_D.of (by decide +kernel)
theorem D382_160 {g : im_g} : im_D g 382 160 (.if_icmp .ne 64) 163 := im_D.of (by decide +kernel)
theorem D382_163 {g : im_g} : im_D g 382 163 (.aload_n 0) 164 := im_D.of (by decide +kernel)
theorem D382_164 {g : im_g} : im_D g 382 164 (.dup) 165 := im_D.of (by decide +kernel)
theorem D382_165 {g : im_g} : im_D g 382 165 (.getfield 886) 168 := im_D.of (by decide +kernel)
theorem D382_168 {g : im_g} : im_D g 382 168 (.iconst 1) 169 := im_D.of (by decide +kernel)
theorem D382_169 {g : im_g} : im_D g 382 169 (.isub) 170 := im_D.of (by decide +kernel)
theorem D382_170 {g : im_g} : im_D g 382 170 (.putfield 886) 173 := im_D.of (by decide +kernel)
theorem D382_173 {g : im_g} : im_D g 382 173 (.aload_n 0) 174 := im_D.of (by decide +kernel)
theorem D382_174 {g : im_g} : im_D g 382 174 (.getfield 264) 177 := im_D.of (by decide +kernel)
theorem D382_177 {g : im_g} : im_D g 382 177 (.aload_n 0) 178 := im_D.of (by decide +kernel)
theorem D382_178 {g : im_g} : im_D g 382 178 (.getfield 889) 181 := im_D.of (by decide +kernel)
theorem D382_181 {g : im_g} : im_D g 382 181 (.iconst 1) 182 := im_D.of (by decide +kernel)
theorem D382_182 {g : im_g} : im_D g 382 182 (.isub) 183 := im_D.of (by decide +kernel)
theorem D382_183 {g : im_g} : im_D g 382 183 (.iload_n 3) 184 := im_D.of (by decide +kernel)
theorem D382_184 {g : im_g} : im_D g 382 184 (.bipush 23) 186 := im_D.of (by decide +kernel)
theorem D382_186 {g : im_g} : im_D g 382 186 (.if_icmp .ne 21) 189 := im_D.of (by decide +kernel)
theorem D382_189 {g : im_g} : im_D g 382 189 (.aload_n 0) 190 := im_D.of (by decide +kernel)
theorem D382_190 {g : im_g} : im_D g 382 190 (.aload_n 0) 191 := im_D.of (by decide +kernel)
theorem D382_191 {g : im_g} : im_D g 382 191 (.getfield 264) 194 := im_D.of (by decide +kernel)
theorem D382_194 {g : im_g} : im_D g 382 194 (.aload_n 0) 195 := im_D.of (by decide +kernel)
theorem D382_195 {g : im_g} : im_D g 382 195 (.getfield 889) 198 := im_D.of (by decide +kernel)
theorem D382_198 {g : im_g} : im_D g 382 198 (.iconst 1) 199 := im_D.of (by decide +kernel)
theorem D382_199 {g : im_g} : im_D g 382 199 (.isub) 200 := im_D.of (by decide +kernel)
theorem D382_200 {g : im_g} : im_D g 382 200 (.iaload) 201 := im_D.of (by decide +kernel)
theorem D382_201 {g : im_g} : im_D g 382 201 (.invokevirtual 935) 204 := im_D.of (by decide +kernel)
theorem D382_204 {g : im_g} : im_D g 382 204 (.goto 16) 207 := im_D.of (by decide +kernel)
theorem D382_207 {g : im_g} : im_D g 382 207 (.iconst 1) 208 := im_D.of (by decide +kernel)
theorem D382_208 {g : im_g} : im_D g 382 208 (.aload_n 0) 209 := im_D.of (by decide +kernel)
theorem D382_209 {g : im_g} : im_D g 382 209 (.getfield 264) 212 := im_D.of (by decide +kernel)
theorem D382_212 {g : im_g} : im_D g 382 212 (.aload_n 0) 213 := im_D.of (by decide +kernel)
theorem D382_213 {g : im_g} : im_D g 382 213 (.getfield 889) 216 := im_D.of (by decide +kernel)
theorem D382_216 {g : im_g} : im_D g 382 216 (.iconst 1) 217 := im_D.of (by decide +kernel)
theorem D382_217 {g : im_g} : im_D g 382 217 (.isub) 218 := im_D.of (by decide +kernel)
theorem D382_218 {g : im_g} : im_D g 382 218 (.iaload) 219 := im_D.of (by decide +kernel)
theorem D382_219 {g : im_g} : im_D g 382 219 (.isub) 220 := im_D.of (by decide +kernel)
theorem D382_220 {g : im_g} : im_D g 382 220 (.iastore) 221 := im_D.of (by decide +kernel)
theorem D382_221 {g : im_g} : im_D g 382 221 (.goto 77) 224 := im_D.of (by decide +kernel)
theorem D382_224 {g : im_g} : im_D g 382 224 (.iload_n 2) 225 := im_D.of (by decide +kernel)
theorem D382_225 {g : im_g} : im_D g 382 225 (.iconst 1) 226 := im_D.of (by decide +kernel)
theorem D382_226 {g : im_g} : im_D g 382 226 (.if_icmp .ne 16) 229 := im_D.of (by decide +kernel)
theorem D382_229 {g : im_g} : im_D g 382 229 (.aload_n 0) 230 := im_D.of (by decide +kernel)
theorem D382_230 {g : im_g} : im_D g 382 230 (.aload_n 0) 231 := im_D.of (by decide +kernel)
theorem D382_231 {g : im_g} : im_D g 382 231 (.getfield 48) 234 := im_D.of (by decide +kernel)
theorem D382_234 {g : im_g} : im_D g 382 234 (.iload_n 1) 235 := im_D.of (by decide +kernel)
theorem D382_235 {g : im_g} : im_D g 382 235 (.iaload) 236 := im_D.of (by decide +kernel)
theorem D382_236 {g : im_g} : im_D g 382 236 (.invokevirtual 932) 239 := im_D.of (by decide +kernel)
theorem D382_239 {g : im_g} : im_D g 382 239 (.goto 59) 242 := im_D.of (by decide +kernel)
theorem D382_242 {g : im_g} : im_D g 382 242 (.aload_n 0) 243 := im_D.of (by decide +kernel)
theorem D382_243 {g : im_g} : im_D g 382 243 (.dup) 244 := im_D.of (by decide +kernel)
theorem D382_244 {g : im_g} : im_D g 382 244 (.getfield 886) 247 := im_D.of (by decide +kernel)
theorem D382_247 {g : im_g} : im_D g 382 247 (.iconst 1) 248 := im_D.of (by decide +kernel)
theorem D382_248 {g : im_g} : im_D g 382 248 (.isub) 249 := im_D.of (by decide +kernel)
theorem D382_249 {g : im_g} : im_D g 382 249 (.putfield 886) 252 := im_D.of (by decide +kernel)
theorem D382_252 {g : im_g} : im_D g 382 252 (.aload_n 0) 253 := im_D.of (by decide +kernel)
theorem D382_253 {g : im_g} : im_D g 382 253 (.dup) 254 := im_D.of (by decide +kernel)
theorem D382_254 {g : im_g} : im_D g 382 254 (.getfield 889) 257 := im_D.of (by decide +kernel)
theorem D382_257 {g : im_g} : im_D g 382 257 (.iconst 1) 258 := im_D.of (by decide +kernel)
theorem D382_258 {g : im_g} : im_D g 382 258 (.isub) 259 := im_D.of (by decide +kernel)
theorem D382_259 {g : im_g} : im_D g 382 259 (.putfield 889) 262 := im_D.of (by decide +kernel)
theorem D382_262 {g : im_g} : im_D g 382 262 (.aload_n 0) 263 := im_D.of (by decide +kernel)
theorem D382_263 {g : im_g} : im_D g 382 263 (.getfield 264) 266 := im_D.of (by decide +kernel)
theorem D382_266 {g : im_g} : im_D g 382 266 (.aload_n 0) 267 := im_D.of (by decide +kernel)
theorem D382_267 {g : im_g} : im_D g 382 267 (.getfield 889) 270 := im_D.of (by decide +kernel)
theorem D382_270 {g : im_g} : im_D g 382 270 (.iconst 1) 271 := im_D.of (by decide +kernel)
theorem D382_271 {g : im_g} : im_D g 382 271 (.isub) 272 := im_D.of (by decide +kernel)
theorem D382_272 {g : im_g} : im_D g 382 272 (.aload_n 0) 273 := im_D.of (by decide +kernel)
theorem D382_273 {g : im_g} : im_D g 382 273 (.iload_n 3) 274 := im_D.of (by decide +kernel)
theorem D382_274 {g : im_g} : im_D g 382 274 (.aload_n 0) 275 := im_D.of (by decide +kernel)
theorem D382_275 {g : im_g} : im_D g 382 275 (.getfield 264) 278 := im_D.of (by decide +kernel)
theorem D382_278 {g : im_g} : im_D g 382 278 (.aload_n 0) 279 := im_D.of (by decide +kernel)
theorem D382_279 {g : im_g} : im_D g 382 279 (.getfield 889) 282 := im_D.of (by decide +kernel)
theorem D382_282 {g : im_g} : im_D g 382 282 (.iconst 1) 283 := im_D.of (by decide +kernel)
theorem D382_283 {g : im_g} : im_D g 382 283 (.isub) 284 := im_D.of (by decide +kernel)
theorem D382_284 {g : im_g} : im_D g 382 284 (.iaload) 285 := im_D.of (by decide +kernel)
theorem D382_285 {g : im_g} : im_D g 382 285 (.aload_n 0) 286 := im_D.of (by decide +kernel)
theorem D382_286 {g : im_g} : im_D g 382 286 (.getfield 264) 289 := im_D.of (by decide +kernel)
theorem D382_289 {g : im_g} : im_D g 382 289 (.aload_n 0) 290 := im_D.of (by decide +kernel)
theorem D382_290 {g : im_g} : im_D g 382 290 (.getfield 889) 293 := im_D.of (by decide +kernel)
theorem D382_293 {g : im_g} : im_D g 382 293 (.iaload) 294 := im_D.of (by decide +kernel)
theorem D382_294 {g : im_g} : im_D g 382 294 (.invokevirtual 938) 297 := im_D.of (by decide +kernel)
theorem D382_297 {g : im_g} : im_D g 382 297 (.iastore) 298 := im_D.of (by decide +kernel)
theorem D382_298 {g : im_g} : im_D g 382 298 (.return_) 299 := im_D.of (by decide +kernel)
theorem D383_0 {g : im_g} : im_D g 383 0 (.iload_n 0) 1 := im_D.of (by decide +kernel)
theorem D383_1 {g : im_g} : im_D g 383 1 (.bipush 20) 3 := im_D.of (by decide +kernel)
theorem D383_3 {g : im_g} : im_D g 383 3 (.if_icmp .eq 39) 6 := im_D.of (by decide +kernel)
theorem D383_6 {g : im_g} : im_D g 383 6 (.iload_n 0) 7 := im_D.of (by decide +kernel)
theorem D383_7 {g : im_g} : im_D g 383 7 (.bipush 21) 9 := im_D.of (by decide +kernel)
theorem D383_9 {g : im_g} : im_D g 383 9 (.if_icmp .eq 33) 12 := im_D.of (by decide +kernel)
theorem D383_12 {g : im_g} : im_D g 383 12 (.iload_n 0) 13 := im_D.of (by decide +kernel)
theorem D383_13 {g : im_g} : im_D g 383 13 (.bipush 22) 15 := im_D.of (by decide +kernel)
theorem D383_15 {g : im_g} : im_D g 383 15 (.if_icmp .eq 27) 18 := im_D.of (by decide +kernel)
theorem D383_18 {g : im_g} : im_D g 383 18 (.iload_n 0) 19 := im_D.of (by decide +kernel)
theorem D383_19 {g : im_g} : im_D g 383 19 (.bipush 28) 21 := im_D.of (by decide +kernel)
theorem D383_21 {g : im_g} : im_D g 383 21 (.if_icmp .eq 21) 24 := im_D.of (by decide +kernel)
theorem D383_24 {g : im_g} : im_D g 383 24 (.iload_n 0) 25 := im_D.of (by decide +kernel)
theorem D383_25 {g : im_g} : im_D g 383 25 (.bipush 31) 27 := im_D.of (by decide +kernel)
theorem D383_27 {g : im_g} : im_D g 383 27 (.if_icmp .eq 15) 30 := im_D.of (by decide +kernel)
theorem D383_30 {g : im_g} : im_D g 383 30 (.iload_n 0) 31 := im_D.of (by decide +kernel)
theorem D383_31 {g : im_g} : im_D g 383 31 (.bipush 29) 33 := im_D.of (by decide +kernel)
theorem D383_33 {g : im_g} : im_D g 383 33 (.if_icmp .eq 9) 36 := im_D.of (by decide +kernel)
theorem D383_36 {g : im_g} : im_D g 383 36 (.iload_n 0) 37 := im_D.of (by decide +kernel)
theorem D383_37 {g : im_g} : im_D g 383 37 (.bipush 30) 39 := im_D.of (by decide +kernel)
theorem D383_39 {g : im_g} : im_D g 383 39 (.if_icmp .ne 7) 42 := im_D.of (by decide +kernel)
theorem D383_42 {g : im_g} : im_D g 383 42 (.iconst 1) 43 := im_D.of (by decide +kernel)
theorem D383_43 {g : im_g} : im_D g 383 43 (.goto 4) 46 := im_D.of (by decide +kernel)
theorem D383_46 {g : im_g} : im_D g 383 46 (.iconst 0) 47 := im_D.of (by decide +kernel)
theorem D383_47 {g : im_g} : im_D g 383 47 (.istore_n 1) 48 := im_D.of (by decide +kernel)
theorem D383_48 {g : im_g} : im_D g 383 48 (.iload_n 1) 49 := im_D.of (by decide +kernel)
theorem D383_49 {g : im_g} : im_D g 383 49 (.ifCond .ne 21) 52 := im_D.of (by decide +kernel)
theorem D383_52 {g : im_g} : im_D g 383 52 (.iload_n 0) 53 := im_D.of (by decide +kernel)
theorem D383_53 {g : im_g} : im_D g 383 53 (.bipush 43) 55 := im_D.of (by decide +kernel)
theorem D383_55 {g : im_g} : im_D g 383 55 (.if_icmp .eq 15) 58 := im_D.of (by decide +kernel)
theorem D383_58 {g : im_g} : im_D g 383 58 (.iload_n 0) 59 := im_D.of (by decide +kernel)
theorem D383_59 {g : im_g} : im_D g 383 59 (.bipush 49) 61 := im_D.of (by decide +kernel)
theorem D383_61 {g : im_g} : im_D g 383 61 (.if_icmp .eq 9) 64 := im_D.of (by decide +kernel)
theorem D383_64 {g : im_g} : im_D g 383 64 (.iload_n 0) 65 := im_D.of (by decide +kernel)
theorem D383_65 {g : im_g} : im_D g 383 65 (.bipush 50) 67 := im_D.of (by decide +kernel)
theorem D383_67 {g : im_g} : im_D g 383 67 (.if_icmp .ne 7) 70 := im_D.of (by decide +kernel)
theorem D383_70 {g : im_g} : im_D g 383 70 (.iconst 1) 71 := im_D.of (by decide +kernel)
theorem D383_71 {g : im_g} : im_D g 383 71 (.goto 4) 74 := im_D.of (by decide +kernel)
theorem D383_74 {g : im_g} : im_D g 383 74 (.iconst 0) 75 := im_D.of (by decide +kernel)
theorem D383_75 {g : im_g} : im_D g 383 75 (.ireturn) 76 := im_D.of (by decide +kernel)
set_option maxRecDepth 20000 in
set_option maxHeartbeats 4000000 in
theorem b_stepPay_0 {g : im_g} {d : Nat} {e : im_E} {M : im_M} {K : im_K} (hd : 1 ≤ d) (hP : (0 ≤ (M 6952 83) ∧ (M 6952 83) < 5100) ∧ im_T g (d - 1) 378 0 [some (.ref 6952), some (vI (M 6964 (M 6952 83))), none] [] e M (im_ri (fun x5 e_ M4 => e = e_ ∧ ((0 ≤ (M4 6952 101) → (0 ≤ x5 ∧ x5 < 1100000) ∧ ((0 < (M4 6955 x5) → im_T g (d - 1) 376 0 [some (.ref 6952), some (vL (M4 6961 (M 6952 83))), none, some (vL (M4 6963 (M 6952 83))), none, none] [] e (im_u M4 6952 83 (M4 6965 (M 6952 83))) (im_ri (fun x16 e_ M15 => e = e_ ∧ im_T g (d - 1) 375 0 [some (.ref 6952), some (vL (M4 6961 (M 6952 83))), none, some (vL (M4 6963 (M 6952 83))), none, none] [] e M15 (im_ri (fun x18 e_ M17 => e = e_ ∧ (im_i32 x16) ∧ ((x16 = 0 → im_T g (d - 1) 405 0 [some (.ref 6952), some (vI 3), some (vL (M4 6961 (M 6952 83))), none, some (vL (M17 6962 (M 6952 83))), none, some (vL (M4 6963 (M 6952 83))), none, some (vI x5)] [] e M17 (im_r0 (fun  e_ M24 => e = e_ ∧ ((((¬ x16 = 0 → (0 ≤ x18 ∧ x18 < 41)))) ∧ (∀ x28 : Int, (((x16 = 0) ∧ x28 = (-1)) ∨ ((¬ x16 = 0) ∧ x28 = (M24 7013 x18))) → (im_i32 x28) ∧ ((((¬ x28 = (-1) → ((0 ≤ (M24 6952 101) → (0 ≤ x18 ∧ x18 < 41) ∧ im_T g (d - 1) 371 0 [some (.ref 6952), some (vI (M24 7013 x18)), some (vI x28), some (vI (-1)), none] [] e M24 (im_ri (fun x42 e_ M41 => e = e_ ∧ (0 ≤ x42 ∧ x42 < 1100000) ∧ ((¬ (M41 6955 x42) = 0 → (im_i32 x42) ∧ ((∀ x49 : Int, (((¬ (M41 6960 (M 6952 83)) = 2) ∧ x49 = 1) ∨ (((M41 6960 (M 6952 83)) = 2) ∧ x49 = 0)) → im_T g (d - 1) 367 0 [some (.ref 6952), some (vI x49), some (vL (M4 6961 (M 6952 83))), none, some (vL (M41 6962 (M 6952 83))), none, some (vL (M4 6963 (M 6952 83))), none, some (vI x28)] [] e (im_u M41 7013 x18 x42) (im_r0 (fun  e_ M54 => e = e_ ∧ K (.inl none) e M54))))) ∧ ((M41 6955 x42) = 0 → im_T g (d - 1) 366 0 [some (.ref 6952), some (vI x18), none] [] e M41 (im_r0 (fun  e_ M56 => e = e_ ∧ ((∀ x59 : Int, (((¬ (M56 6960 (M 6952 83)) = 2) ∧ x59 = 1) ∨ (((M56 6960 (M 6952 83)) = 2) ∧ x59 = 0)) → im_T g (d - 1) 367 0 [some (.ref 6952), some (vI x59), some (vL (M4 6961 (M 6952 83))), none, some (vL (M56 6962 (M 6952 83))), none, some (vL (M4 6963 (M 6952 83))), none, some (vI x28)] [] e M56 (im_r0 (fun  e_ M64 => e = e_ ∧ K (.inl none) e M64))))))))))))))) ∧ ((((x28 = (-1))) ∨ ((¬ x28 = (-1)) ∧ ((M24 6952 101) < 0))) → K (.inl none) e M24))))))) ∧ (¬ x16 = 0 → (0 ≤ x18 ∧ x18 < 41) ∧ im_T g (d - 1) 302 0 [some (.ref 6952), some (vI (M17 7013 x18)), some (vI x5)] [] e M17 (im_ri (fun x70 e_ M69 => e = e_ ∧ (im_i32 x70) ∧ ((0 ≤ x70 → (im_i32 x5) ∧ ((((¬ x5 = (-1) → ((0 ≤ (M69 6952 101) → im_T g (d - 1) 371 0 [some (.ref 6952), some (vI (M69 7013 x18)), some (vI x5), some (vI (-1)), none] [] e M69 (im_ri (fun x82 e_ M81 => e = e_ ∧ (0 ≤ x82 ∧ x82 < 1100000) ∧ ((¬ (M81 6955 x82) = 0 → (im_i32 x82) ∧ ((∀ x89 : Int, (((¬ (M81 6960 (M 6952 83)) = 2) ∧ x89 = 1) ∨ (((M81 6960 (M 6952 83)) = 2) ∧ x89 = 0)) → im_T g (d - 1) 367 0 [some (.ref 6952), some (vI x89), some (vL (M4 6961 (M 6952 83))), none, some (vL (M81 6962 (M 6952 83))), none, some (vL (M4 6963 (M 6952 83))), none, some (vI x5)] [] e (im_u M81 7013 x18 x82) (im_r0 (fun  e_ M94 => e = e_ ∧ K (.inl none) e M94))))) ∧ ((M81 6955 x82) = 0 → im_T g (d - 1) 366 0 [some (.ref 6952), some (vI x18), none] [] e M81 (im_r0 (fun  e_ M96 => e = e_ ∧ ((∀ x99 : Int, (((¬ (M96 6960 (M 6952 83)) = 2) ∧ x99 = 1) ∨ (((M96 6960 (M 6952 83)) = 2) ∧ x99 = 0)) → im_T g (d - 1) 367 0 [some (.ref 6952), some (vI x99), some (vL (M4 6961 (M 6952 83))), none, some (vL (M96 6962 (M 6952 83))), none, some (vL (M4 6963 (M 6952 83))), none, some (vI x5)] [] e M96 (im_r0 (fun  e_ M104 => e = e_ ∧ K (.inl none) e M104))))))))))))))) ∧ ((((x5 = (-1))) ∨ ((¬ x5 = (-1)) ∧ ((M69 6952 101) < 0))) → K (.inl none) e M69))) ∧ (x70 < 0 → im_T g (d - 1) 405 0 [some (.ref 6952), some (vI 3), some (vL (M4 6961 (M 6952 83))), none, some (vL (M69 6962 (M 6952 83))), none, some (vL (M4 6963 (M 6952 83))), none, some (vI x5)] [] e M69 (im_r0 (fun  e_ M109 => e = e_ ∧ ((∀ x112 : Int, (((x16 = 0) ∧ x112 = (-1)) ∨ ((¬ x16 = 0) ∧ x112 = (M109 7013 x18))) → (im_i32 x112) ∧ ((((¬ x112 = (-1) → ((0 ≤ (M109 6952 101) → im_T g (d - 1) 371 0 [some (.ref 6952), some (vI (M109 7013 x18)), some (vI x112), some (vI (-1)), none] [] e M109 (im_ri (fun x125 e_ M124 => e = e_ ∧ (0 ≤ x125 ∧ x125 < 1100000) ∧ ((¬ (M124 6955 x125) = 0 → (im_i32 x125) ∧ ((∀ x132 : Int, (((¬ (M124 6960 (M 6952 83)) = 2) ∧ x132 = 1) ∨ (((M124 6960 (M 6952 83)) = 2) ∧ x132 = 0)) → im_T g (d - 1) 367 0 [some (.ref 6952), some (vI x132), some (vL (M4 6961 (M 6952 83))), none, some (vL (M124 6962 (M 6952 83))), none, some (vL (M4 6963 (M 6952 83))), none, some (vI x112)] [] e (im_u M124 7013 x18 x125) (im_r0 (fun  e_ M137 => e = e_ ∧ K (.inl none) e M137))))) ∧ ((M124 6955 x125) = 0 → im_T g (d - 1) 366 0 [some (.ref 6952), some (vI x18), none] [] e M124 (im_r0 (fun  e_ M139 => e = e_ ∧ ((∀ x142 : Int, (((¬ (M139 6960 (M 6952 83)) = 2) ∧ x142 = 1) ∨ (((M139 6960 (M 6952 83)) = 2) ∧ x142 = 0)) → im_T g (d - 1) 367 0 [some (.ref 6952), some (vI x142), some (vL (M4 6961 (M 6952 83))), none, some (vL (M139 6962 (M 6952 83))), none, some (vL (M4 6963 (M 6952 83))), none, some (vI x112)] [] e M139 (im_r0 (fun  e_ M147 => e = e_ ∧ K (.inl none) e M147))))))))))))))) ∧ ((((x112 = (-1))) ∨ ((¬ x112 = (-1)) ∧ ((M109 6952 101) < 0))) → K (.inl none) e M109))))))))))))))))) ∧ ((M4 6955 x5) ≤ 0 → im_T g (d - 1) 405 0 [some (.ref 6952), some (vI 2), some (vL (M4 6961 (M 6952 83))), none, some (vL (M4 6962 (M 6952 83))), none, some (vL (M4 6963 (M 6952 83))), none, some (vI x5)] [] e (im_u M4 6952 83 (M4 6965 (M 6952 83))) (im_r0 (fun  e_ M155 => e = e_ ∧ K (.inl none) e M155))))) ∧ ((M4 6952 101) < 0 → K (.inl none) e (im_u M4 6952 83 (M4 6965 (M 6952 83)))))))) : im_T g d 377 0 [some (.ref 6952), none, none, none, none, none, none, none, none, none, none] [] e M K := by
  refine im_ld (q := 1) (i := 0) D377_0 rfl rfl rfl ?_
  refine im_rng (j := 83) sf_6952 (by decide) (by decide) (fun hr1 => ?_)
  refine im_gfI (q := 4) D377_1 (im_fl cn_377 fl_12_858) sf_6952 rfl rfl tI_12_83 rfl ?_
  refine im_st1 (q := 5) (i := 1) (L' := [some (.ref 6952), some (vI (M 6952 83)), none, none, none, none, none, none, none, none, none]) D377_4 (Or.inl ⟨_, rfl, rfl⟩) (Nat.le_of_ble_eq_true rfl) rfl ?_
  refine im_ld (q := 6) (i := 0) D377_5 rfl rfl rfl ?_
  refine im_ld (q := 7) (i := 0) D377_6 rfl rfl rfl ?_
  refine im_gfR (q := 10) (b := 6964) D377_7 (im_fl cn_377 fl_12_45) sf_6952 rfl rfl tR_12_25 rf_6952_25 ?_
  refine im_ld (q := 11) (i := 1) D377_10 rfl rfl rfl ?_
  obtain ⟨hg2, hP⟩ := hP
  refine im_rng (j := (M 6952 83)) sf_6964 hg2.1 hg2.2 (fun hr3 => ?_)
  refine im_iald (q := 12) D377_11 sf_6964 hg2.1 hg2.2 (by decide) rfl ?_
  refine im_callV (q := 15) (kd := 1) (y := 378) (n := 1) (ci := 12) (a := 6952) (vs := [.ref 6952, vI (M 6964 (M 6952 83))]) (r := []) (L2 := [some (.ref 6952), some (vI (M 6964 (M 6952 83))), none]) D377_12 (im_cal cn_377 cl_12_984) (Or.inl rfl) rfl sf_6952 rfl rfl rfl rfl hd ⟨rfl, rfl, trivial⟩ ?_
  refine hP.mono ?_
  rintro _ e157 M4 ⟨x5, rfl, rfl, hP⟩
  refine im_bkS ?_
  refine im_st1 (q := 16) (i := 2) (L' := [some (.ref 6952), some (vI (M 6952 83)), some (vI x5), none, none, none, none, none, none, none, none]) D377_15 (Or.inl ⟨_, rfl, rfl⟩) (Nat.le_of_ble_eq_true rfl) rfl ?_
  refine im_ld (q := 17) (i := 0) D377_16 rfl rfl rfl ?_
  refine im_ld (q := 18) (i := 0) D377_17 rfl rfl rfl ?_
  refine im_gfR (q := 21) (b := 6965) D377_18 (im_fl cn_377 fl_12_48) sf_6952 rfl rfl tR_12_26 rf_6952_26 ?_
  refine im_ld (q := 22) (i := 1) D377_21 rfl rfl rfl ?_
  refine im_rng (j := (M 6952 83)) sf_6965 hg2.1 hg2.2 (fun hr6 => ?_)
  refine im_iald (q := 23) D377_22 sf_6965 hg2.1 hg2.2 (by decide) rfl ?_
  refine im_pfI (q := 26) D377_23 (im_fl cn_377 fl_12_858) sf_6952 rfl rfl ti_12_83 hr6 ?_
  refine im_ld (q := 27) (i := 0) D377_26 rfl rfl rfl ?_
  refine im_rng (j := 101) sf_6952 (by decide) (by decide) (fun hr7 => ?_)
  refine im_gfI (q := 30) D377_27 (im_fl cn_377 fl_12_855) sf_6952 rfl rfl tI_12_101 (im_rdk _ _ _ (by decide)) ?_
  refine im_ifc (q := 33) (t := 34) D377_30 rfl (im_rgc hr7 (im_rdk _ _ _ (by decide))) (fun hc8 => ?_) (fun hc8 => ?_)
  · replace hP := hP.1 hc8
    refine im_ld (q := 35) (i := 0) D377_34 rfl rfl rfl ?_
    refine im_gfR (q := 38) (b := 6961) D377_35 (im_fl cn_377 fl_12_36) sf_6952 rfl rfl tR_12_22 rf_6952_22 ?_
    refine im_ld (q := 39) (i := 1) D377_38 rfl rfl rfl ?_
    refine im_rng (j := (M 6952 83)) sf_6961 hg2.1 hg2.2 (fun hr9 => ?_)
    refine im_lald (q := 40) D377_39 sf_6961 hg2.1 hg2.2 (by decide) (im_rdn _ _ _ _ (by decide)) ?_
    refine im_st2 (q := 41) (i := 3) (L' := [some (.ref 6952), some (vI (M 6952 83)), some (vI x5), some (vL (M4 6961 (M 6952 83))), none, none, none, none, none, none, none]) D377_40 (Or.inl ⟨_, rfl, rfl⟩) (Nat.le_of_ble_eq_true rfl) rfl ?_
    refine im_ld (q := 42) (i := 0) D377_41 rfl rfl rfl ?_
    refine im_gfR (q := 45) (b := 6963) D377_42 (im_fl cn_377 fl_12_42) sf_6952 rfl rfl tR_12_24 rf_6952_24 ?_
    refine im_ld (q := 46) (i := 1) D377_45 rfl rfl rfl ?_
    refine im_rng (j := (M 6952 83)) sf_6963 hg2.1 hg2.2 (fun hr10 => ?_)
    refine im_lald (q := 47) D377_46 sf_6963 hg2.1 hg2.2 (by decide) (im_rdn _ _ _ _ (by decide)) ?_
    refine im_st2 (q := 49) (i := 5) (L' := [some (.ref 6952), some (vI (M 6952 83)), some (vI x5), some (vL (M4 6961 (M 6952 83))), none, some (vL (M4 6963 (M 6952 83))), none, none, none, none, none]) D377_47 (Or.inr rfl) (Nat.le_of_ble_eq_true rfl) rfl ?_
    refine im_ld (q := 50) (i := 0) D377_49 rfl rfl rfl ?_
    refine im_gfR (q := 53) (b := 6955) D377_50 (im_fl cn_377 fl_12_17) sf_6952 rfl rfl tR_12_5 rf_6952_5 ?_
    refine im_ld (q := 54) (i := 2) D377_53 rfl rfl rfl ?_
    obtain ⟨hg11, hP⟩ := hP
    refine im_rng (j := x5) sf_6955 hg11.1 hg11.2 (fun hr12 => ?_)
    refine im_iald (q := 55) D377_54 sf_6955 hg11.1 hg11.2 (by decide) (im_rdn _ _ _ _ (by decide)) ?_
    refine im_ifc (q := 58) (t := 74) D377_55 rfl (im_rgc hr12 (im_rdn _ _ _ _ (by decide))) (fun hc13 => ?_) (fun hc13 => ?_)
    · replace hP := hP.1 hc13
      refine im_ld (q := 75) (i := 0) D377_74 rfl rfl rfl ?_
      refine im_ld (q := 76) (i := 3) D377_75 rfl rfl rfl ?_
      refine im_ld (q := 78) (i := 5) D377_76 rfl rfl rfl ?_
      refine im_callV (q := 81) (kd := 1) (y := 376) (n := 2) (ci := 12) (a := 6952) (vs := [.ref 6952, vL (M4 6961 (M 6952 83)), vL (M4 6963 (M 6952 83))]) (r := []) (L2 := [some (.ref 6952), some (vL (M4 6961 (M 6952 83))), none, some (vL (M4 6963 (M 6952 83))), none, none]) D377_78 (im_cal cn_377 cl_12_895) (Or.inl rfl) rfl sf_6952 rfl rfl rfl rfl hd ⟨rfl, rfl, rfl, trivial⟩ ?_
      refine hP.mono ?_
      rintro _ e154 M15 ⟨x16, rfl, rfl, hP⟩
      refine im_bkS ?_
      refine im_st1 (q := 83) (i := 7) (L' := [some (.ref 6952), some (vI (M 6952 83)), some (vI x5), some (vL (M4 6961 (M 6952 83))), none, some (vL (M4 6963 (M 6952 83))), none, some (vI x16), none, none, none]) D377_81 (Or.inr rfl) (Nat.le_of_ble_eq_true rfl) rfl ?_
      refine im_ld (q := 84) (i := 0) D377_83 rfl rfl rfl ?_
      refine im_ld (q := 85) (i := 3) D377_84 rfl rfl rfl ?_
      refine im_ld (q := 87) (i := 5) D377_85 rfl rfl rfl ?_
      refine im_callV (q := 90) (kd := 1) (y := 375) (n := 2) (ci := 12) (a := 6952) (vs := [.ref 6952, vL (M4 6961 (M 6952 83)), vL (M4 6963 (M 6952 83))]) (r := []) (L2 := [some (.ref 6952), some (vL (M4 6961 (M 6952 83))), none, some (vL (M4 6963 (M 6952 83))), none, none]) D377_87 (im_cal cn_377 cl_12_876) (Or.inl rfl) rfl sf_6952 rfl rfl rfl rfl hd ⟨rfl, rfl, rfl, trivial⟩ ?_
      refine hP.mono ?_
      rintro _ e153 M17 ⟨x18, rfl, rfl, hP⟩
      refine im_bkS ?_
      refine im_st1 (q := 92) (i := 8) (L' := [some (.ref 6952), some (vI (M 6952 83)), some (vI x5), some (vL (M4 6961 (M 6952 83))), none, some (vL (M4 6963 (M 6952 83))), none, some (vI x16), some (vI x18), none, none]) D377_90 (Or.inr rfl) (Nat.le_of_ble_eq_true rfl) rfl ?_
      refine im_ld (q := 93) (i := 2) D377_92 rfl rfl rfl ?_
      refine im_st1 (q := 95) (i := 9) (L' := [some (.ref 6952), some (vI (M 6952 83)), some (vI x5), some (vL (M4 6961 (M 6952 83))), none, some (vL (M4 6963 (M 6952 83))), none, some (vI x16), some (vI x18), some (vI x5), none]) D377_93 (Or.inr rfl) (Nat.le_of_ble_eq_true rfl) rfl ?_
      refine im_ld (q := 97) (i := 7) D377_95 rfl rfl rfl ?_
      obtain ⟨hg19, hP⟩ := hP
      refine im_ifc (q := 100) (t := 115) D377_97 rfl hg19 (fun hc20 => ?_) (fun hc20 => ?_)
      · replace hP := hP.1 hc20
        refine im_ld (q := 116) (i := 0) D377_115 rfl rfl rfl ?_
        refine im_iconst (q := 117) D377_116 ?_
        refine im_ld (q := 118) (i := 3) D377_117 rfl rfl rfl ?_
        refine im_ld (q := 119) (i := 0) D377_118 rfl rfl rfl ?_
        refine im_gfR (q := 122) (b := 6962) D377_119 (im_fl cn_377 fl_12_39) sf_6952 rfl rfl tR_12_23 rf_6952_23 ?_
        refine im_ld (q := 123) (i := 1) D377_122 rfl rfl rfl ?_
        refine im_rng (j := (M 6952 83)) sf_6962 hg2.1 hg2.2 (fun hr23 => ?_)
        refine im_lald (q := 124) D377_123 sf_6962 hg2.1 hg2.2 (by decide) rfl ?_
        refine im_ld (q := 126) (i := 5) D377_124 rfl rfl rfl ?_
        refine im_ld (q := 127) (i := 2) D377_126 rfl rfl rfl ?_
        refine im_callV (q := 130) (kd := 1) (y := 405) (n := 5) (ci := 12) (a := 6952) (vs := [.ref 6952, vI 3, vL (M4 6961 (M 6952 83)), vL (M17 6962 (M 6952 83)), vL (M4 6963 (M 6952 83)), vI x5]) (r := []) (L2 := [some (.ref 6952), some (vI 3), some (vL (M4 6961 (M 6952 83))), none, some (vL (M17 6962 (M 6952 83))), none, some (vL (M4 6963 (M 6952 83))), none, some (vI x5)]) D377_127 (im_cal cn_377 cl_12_987) (Or.inl rfl) rfl sf_6952 rfl rfl rfl rfl hd ⟨rfl, rfl, rfl, rfl, rfl, rfl, trivial⟩ ?_
        refine hP.mono ?_
        rintro _ e68 M24 ⟨rfl, rfl, hP⟩
        refine im_bkN ?_
        refine im_ld (q := 132) (i := 7) D377_130 rfl rfl rfl ?_
        obtain ⟨hP, hJ29⟩ := hP
        have kJ30 : ∀ x28 : Int, (((x16 = 0) ∧ x28 = (-1)) ∨ ((¬ x16 = 0) ∧ x28 = (M24 7013 x18))) → im_T g d 377 146 [some (.ref 6952), some (vI (M 6952 83)), none, some (vL (M4 6961 (M 6952 83))), none, some (vL (M4 6963 (M 6952 83))), none, none, some (vI x18), none, none] [vI x28] e M24 K := by
          intro x28 hx31
          have hP := hJ29 x28 hx31
          refine im_st1 (q := 148) (i := 9) (L' := [some (.ref 6952), some (vI (M 6952 83)), none, some (vL (M4 6961 (M 6952 83))), none, some (vL (M4 6963 (M 6952 83))), none, none, some (vI x18), some (vI x28), none]) D377_146 (Or.inr rfl) (Nat.le_of_ble_eq_true rfl) rfl ?_
          refine im_ld (q := 150) (i := 9) D377_148 rfl rfl rfl ?_
          refine im_iconst (q := 151) D377_150 ?_
          obtain ⟨hg32, hP⟩ := hP
          obtain ⟨hP, hJ38⟩ := hP
          have kJ39 : (((x28 = (-1))) ∨ ((¬ x28 = (-1)) ∧ ((M24 6952 101) < 0))) → im_T g d 377 161 [none, none, none, none, none, none, none, none, none, none, none] [] e M24 K := by
            intro  hx40
            have hP := hJ38  hx40
            exact im_vret (q := 162) D377_161 rfl hP
          refine im_icmp (q := 154) (t := 161) D377_151 rfl hg32 (by decide) (fun hc33 => ?_) (fun hc33 => ?_)
          · exact (kJ39  (Or.inl hc33)).wk trivial
          · replace hP := hP hc33
            refine im_ld (q := 155) (i := 0) D377_154 rfl rfl rfl ?_
            refine im_rng (j := 101) sf_6952 (by decide) (by decide) (fun hr34 => ?_)
            refine im_gfI (q := 158) D377_155 (im_fl cn_377 fl_12_855) sf_6952 rfl rfl tI_12_101 rfl ?_
            refine im_ifc (q := 161) (t := 162) D377_158 rfl hr34 (fun hc35 => ?_) (fun hc35 => ?_)
            · replace hP := hP hc35
              refine im_ld (q := 163) (i := 0) D377_162 rfl rfl rfl ?_
              refine im_ld (q := 164) (i := 0) D377_163 rfl rfl rfl ?_
              refine im_gfR (q := 167) (b := 7013) D377_164 (im_fl cn_377 fl_12_195) sf_6952 rfl rfl tR_12_88 rf_6952_88 ?_
              refine im_ld (q := 169) (i := 8) D377_167 rfl rfl rfl ?_
              obtain ⟨hg36, hP⟩ := hP
              refine im_rng (j := x18) sf_7013 hg36.1 hg36.2 (fun hr37 => ?_)
              refine im_iald (q := 170) D377_169 sf_7013 hg36.1 hg36.2 (by decide) rfl ?_
              refine im_ld (q := 172) (i := 9) D377_170 rfl rfl rfl ?_
              refine im_iconst (q := 173) D377_172 ?_
              refine im_callV (q := 176) (kd := 1) (y := 371) (n := 3) (ci := 12) (a := 6952) (vs := [.ref 6952, vI (M24 7013 x18), vI x28, vI (-1)]) (r := []) (L2 := [some (.ref 6952), some (vI (M24 7013 x18)), some (vI x28), some (vI (-1)), none]) D377_173 (im_cal cn_377 cl_12_962) (Or.inl rfl) rfl sf_6952 rfl rfl rfl rfl hd ⟨rfl, rfl, rfl, rfl, trivial⟩ ?_
              refine hP.mono ?_
              rintro _ e67 M41 ⟨x42, rfl, rfl, hP⟩
              refine im_bkS ?_
              refine im_st1 (q := 178) (i := 10) (L' := [some (.ref 6952), some (vI (M 6952 83)), none, some (vL (M4 6961 (M 6952 83))), none, some (vL (M4 6963 (M 6952 83))), none, none, some (vI x18), some (vI x28), some (vI x42)]) D377_176 (Or.inr rfl) (Nat.le_of_ble_eq_true rfl) rfl ?_
              refine im_ld (q := 179) (i := 0) D377_178 rfl rfl rfl ?_
              refine im_gfR (q := 182) (b := 6955) D377_179 (im_fl cn_377 fl_12_17) sf_6952 rfl rfl tR_12_5 rf_6952_5 ?_
              refine im_ld (q := 184) (i := 10) D377_182 rfl rfl rfl ?_
              obtain ⟨hg43, hP⟩ := hP
              refine im_rng (j := x42) sf_6955 hg43.1 hg43.2 (fun hr44 => ?_)
              refine im_iald (q := 185) D377_184 sf_6955 hg43.1 hg43.2 (by decide) rfl ?_
              refine im_ifc (q := 188) (t := 197) D377_185 rfl hr44 (fun hc45 => ?_) (fun hc45 => ?_)
              · replace hP := hP.1 hc45
                refine im_ld (q := 198) (i := 0) D377_197 rfl rfl rfl ?_
                refine im_gfR (q := 201) (b := 7013) D377_198 (im_fl cn_377 fl_12_195) sf_6952 rfl rfl tR_12_88 rf_6952_88 ?_
                refine im_ld (q := 203) (i := 8) D377_201 rfl rfl rfl ?_
                refine im_ld (q := 205) (i := 10) D377_203 rfl rfl rfl ?_
                obtain ⟨hg46, hP⟩ := hP
                refine im_iast (q := 206) D377_205 sf_7013 hg36.1 hg36.2 (by decide) hg46 ?_
                refine im_ld (q := 207) (i := 0) D377_206 rfl rfl rfl ?_
                refine im_ld (q := 208) (i := 0) D377_207 rfl rfl rfl ?_
                refine im_gfR (q := 211) (b := 6960) D377_208 (im_fl cn_377 fl_12_33) sf_6952 rfl rfl tR_12_21 rf_6952_21 ?_
                refine im_ld (q := 212) (i := 1) D377_211 rfl rfl rfl ?_
                refine im_rng (j := (M 6952 83)) sf_6960 hg2.1 hg2.2 (fun hr47 => ?_)
                refine im_iald (q := 213) D377_212 sf_6960 hg2.1 hg2.2 (by decide) (im_rdn _ _ _ _ (by decide)) ?_
                refine im_iconst (q := 214) D377_213 ?_
                have hJ50 := hP
                have kJ51 : ∀ x49 : Int, (((¬ (M41 6960 (M 6952 83)) = 2) ∧ x49 = 1) ∨ (((M41 6960 (M 6952 83)) = 2) ∧ x49 = 0)) → im_T g d 377 222 [some (.ref 6952), some (vI (M 6952 83)), none, some (vL (M4 6961 (M 6952 83))), none, some (vL (M4 6963 (M 6952 83))), none, none, none, some (vI x28), none] [vI x49, .ref 6952] e (im_u M41 7013 x18 x42) K := by
                  intro x49 hx52
                  have hP := hJ50 x49 hx52
                  refine im_ld (q := 223) (i := 3) D377_222 rfl rfl rfl ?_
                  refine im_ld (q := 224) (i := 0) D377_223 rfl rfl rfl ?_
                  refine im_gfR (q := 227) (b := 6962) D377_224 (im_fl cn_377 fl_12_39) sf_6952 rfl rfl tR_12_23 rf_6952_23 ?_
                  refine im_ld (q := 228) (i := 1) D377_227 rfl rfl rfl ?_
                  refine im_rng (j := (M 6952 83)) sf_6962 hg2.1 hg2.2 (fun hr53 => ?_)
                  refine im_lald (q := 229) D377_228 sf_6962 hg2.1 hg2.2 (by decide) (im_rdn _ _ _ _ (by decide)) ?_
                  refine im_ld (q := 231) (i := 5) D377_229 rfl rfl rfl ?_
                  refine im_ld (q := 233) (i := 9) D377_231 rfl rfl rfl ?_
                  refine im_callV (q := 236) (kd := 1) (y := 367) (n := 5) (ci := 12) (a := 6952) (vs := [.ref 6952, vI x49, vL (M4 6961 (M 6952 83)), vL (M41 6962 (M 6952 83)), vL (M4 6963 (M 6952 83)), vI x28]) (r := []) (L2 := [some (.ref 6952), some (vI x49), some (vL (M4 6961 (M 6952 83))), none, some (vL (M41 6962 (M 6952 83))), none, some (vL (M4 6963 (M 6952 83))), none, some (vI x28)]) D377_233 (im_cal cn_377 cl_12_994) (Or.inl rfl) rfl sf_6952 rfl rfl rfl rfl hd ⟨rfl, rfl, rfl, rfl, rfl, rfl, trivial⟩ ?_
                  refine hP.mono ?_
                  rintro _ e55 M54 ⟨rfl, rfl, hP⟩
                  refine im_bkN ?_
                  exact im_vret (q := 237) D377_236 rfl hP
                refine im_icmp (q := 217) (t := 221) D377_214 rfl (im_rgc hr47 (im_rdn _ _ _ _ (by decide))) (by decide) (fun hc48 => ?_) (fun hc48 => ?_)
                · refine im_iconst (q := 222) D377_221 ?_
                  exact (kJ51 (1) (Or.inl ⟨hc48, rfl⟩)).wk ⟨rfl, rfl, rfl, rfl, rfl, trivial⟩
                · refine im_iconst (q := 218) D377_217 ?_
                  refine im_goto (q := 221) (t := 222) D377_218 rfl ?_
                  exact (kJ51 (0) (Or.inr ⟨(Decidable.not_not.mp hc48), rfl⟩)).wk ⟨rfl, rfl, rfl, rfl, rfl, trivial⟩
              · replace hP := hP.2 (Decidable.not_not.mp hc45)
                refine im_ld (q := 189) (i := 0) D377_188 rfl rfl rfl ?_
                refine im_ld (q := 191) (i := 8) D377_189 rfl rfl rfl ?_
                refine im_callV (q := 194) (kd := 1) (y := 366) (n := 1) (ci := 12) (a := 6952) (vs := [.ref 6952, vI x18]) (r := []) (L2 := [some (.ref 6952), some (vI x18), none]) D377_191 (im_cal cn_377 cl_12_991) (Or.inl rfl) rfl sf_6952 rfl rfl rfl rfl hd ⟨rfl, rfl, trivial⟩ ?_
                refine hP.mono ?_
                rintro _ e66 M56 ⟨rfl, rfl, hP⟩
                refine im_bkN ?_
                refine im_goto (q := 197) (t := 206) D377_194 rfl ?_
                refine im_ld (q := 207) (i := 0) D377_206 rfl rfl rfl ?_
                refine im_ld (q := 208) (i := 0) D377_207 rfl rfl rfl ?_
                refine im_gfR (q := 211) (b := 6960) D377_208 (im_fl cn_377 fl_12_33) sf_6952 rfl rfl tR_12_21 rf_6952_21 ?_
                refine im_ld (q := 212) (i := 1) D377_211 rfl rfl rfl ?_
                refine im_rng (j := (M 6952 83)) sf_6960 hg2.1 hg2.2 (fun hr57 => ?_)
                refine im_iald (q := 213) D377_212 sf_6960 hg2.1 hg2.2 (by decide) rfl ?_
                refine im_iconst (q := 214) D377_213 ?_
                have hJ60 := hP
                have kJ61 : ∀ x59 : Int, (((¬ (M56 6960 (M 6952 83)) = 2) ∧ x59 = 1) ∨ (((M56 6960 (M 6952 83)) = 2) ∧ x59 = 0)) → im_T g d 377 222 [some (.ref 6952), some (vI (M 6952 83)), none, some (vL (M4 6961 (M 6952 83))), none, some (vL (M4 6963 (M 6952 83))), none, none, none, some (vI x28), none] [vI x59, .ref 6952] e M56 K := by
                  intro x59 hx62
                  have hP := hJ60 x59 hx62
                  refine im_ld (q := 223) (i := 3) D377_222 rfl rfl rfl ?_
                  refine im_ld (q := 224) (i := 0) D377_223 rfl rfl rfl ?_
                  refine im_gfR (q := 227) (b := 6962) D377_224 (im_fl cn_377 fl_12_39) sf_6952 rfl rfl tR_12_23 rf_6952_23 ?_
                  refine im_ld (q := 228) (i := 1) D377_227 rfl rfl rfl ?_
                  refine im_rng (j := (M 6952 83)) sf_6962 hg2.1 hg2.2 (fun hr63 => ?_)
                  refine im_lald (q := 229) D377_228 sf_6962 hg2.1 hg2.2 (by decide) rfl ?_
                  refine im_ld (q := 231) (i := 5) D377_229 rfl rfl rfl ?_
                  refine im_ld (q := 233) (i := 9) D377_231 rfl rfl rfl ?_
                  refine im_callV (q := 236) (kd := 1) (y := 367) (n := 5) (ci := 12) (a := 6952) (vs := [.ref 6952, vI x59, vL (M4 6961 (M 6952 83)), vL (M56 6962 (M 6952 83)), vL (M4 6963 (M 6952 83)), vI x28]) (r := []) (L2 := [some (.ref 6952), some (vI x59), some (vL (M4 6961 (M 6952 83))), none, some (vL (M56 6962 (M 6952 83))), none, some (vL (M4 6963 (M 6952 83))), none, some (vI x28)]) D377_233 (im_cal cn_377 cl_12_994) (Or.inl rfl) rfl sf_6952 rfl rfl rfl rfl hd ⟨rfl, rfl, rfl, rfl, rfl, rfl, trivial⟩ ?_
                  refine hP.mono ?_
                  rintro _ e65 M64 ⟨rfl, rfl, hP⟩
                  refine im_bkN ?_
                  exact im_vret (q := 237) D377_236 rfl hP
                refine im_icmp (q := 217) (t := 221) D377_214 rfl hr57 (by decide) (fun hc58 => ?_) (fun hc58 => ?_)
                · refine im_iconst (q := 222) D377_221 ?_
                  exact (kJ61 (1) (Or.inl ⟨hc58, rfl⟩)).wk ⟨rfl, rfl, rfl, rfl, rfl, trivial⟩
                · refine im_iconst (q := 218) D377_217 ?_
                  refine im_goto (q := 221) (t := 222) D377_218 rfl ?_
                  exact (kJ61 (0) (Or.inr ⟨(Decidable.not_not.mp hc58), rfl⟩)).wk ⟨rfl, rfl, rfl, rfl, rfl, trivial⟩
            · exact (kJ39  (Or.inr ⟨hc33, (Int.not_le.mp hc35)⟩)).wk trivial
        refine im_ifc (q := 135) (t := 145) D377_132 rfl hg19 (fun hc25 => ?_) (fun hc25 => ?_)
        · refine im_iconst (q := 146) D377_145 ?_
          exact (kJ30 ((-1)) (Or.inl ⟨hc25, rfl⟩)).wk ⟨rfl, rfl, rfl, rfl, rfl, trivial⟩
        · replace hP := hP hc25
          refine im_ld (q := 136) (i := 0) D377_135 rfl rfl rfl ?_
          refine im_gfR (q := 139) (b := 7013) D377_136 (im_fl cn_377 fl_12_195) sf_6952 rfl rfl tR_12_88 rf_6952_88 ?_
          refine im_ld (q := 141) (i := 8) D377_139 rfl rfl rfl ?_
          have hg26 := hP
          refine im_rng (j := x18) sf_7013 hg26.1 hg26.2 (fun hr27 => ?_)
          refine im_iald (q := 142) D377_141 sf_7013 hg26.1 hg26.2 (by decide) rfl ?_
          refine im_goto (q := 145) (t := 146) D377_142 rfl ?_
          exact (kJ30 ((M24 7013 x18)) (Or.inr ⟨hc25, rfl⟩)).wk ⟨rfl, rfl, rfl, rfl, rfl, trivial⟩
      · replace hP := hP.2 hc20
        refine im_ld (q := 101) (i := 0) D377_100 rfl rfl rfl ?_
        refine im_ld (q := 102) (i := 0) D377_101 rfl rfl rfl ?_
        refine im_gfR (q := 105) (b := 7013) D377_102 (im_fl cn_377 fl_12_195) sf_6952 rfl rfl tR_12_88 rf_6952_88 ?_
        refine im_ld (q := 107) (i := 8) D377_105 rfl rfl rfl ?_
        obtain ⟨hg21, hP⟩ := hP
        refine im_rng (j := x18) sf_7013 hg21.1 hg21.2 (fun hr22 => ?_)
        refine im_iald (q := 108) D377_107 sf_7013 hg21.1 hg21.2 (by decide) rfl ?_
        refine im_ld (q := 109) (i := 2) D377_108 rfl rfl rfl ?_
        refine im_callV (q := 112) (kd := 1) (y := 302) (n := 2) (ci := 12) (a := 6952) (vs := [.ref 6952, vI (M17 7013 x18), vI x5]) (r := []) (L2 := [some (.ref 6952), some (vI (M17 7013 x18)), some (vI x5)]) D377_109 (im_cal cn_377 cl_12_674) (Or.inl rfl) rfl sf_6952 rfl rfl rfl rfl hd ⟨rfl, rfl, rfl, trivial⟩ ?_
        refine hP.mono ?_
        rintro _ e152 M69 ⟨x70, rfl, rfl, hP⟩
        refine im_bkS ?_
        obtain ⟨hg71, hP⟩ := hP
        refine im_ifc (q := 115) (t := 148) D377_112 rfl hg71 (fun hc72 => ?_) (fun hc72 => ?_)
        · replace hP := hP.1 hc72
          refine im_ld (q := 150) (i := 9) D377_148 rfl rfl rfl ?_
          refine im_iconst (q := 151) D377_150 ?_
          obtain ⟨hg73, hP⟩ := hP
          obtain ⟨hP, hJ78⟩ := hP
          have kJ79 : (((x5 = (-1))) ∨ ((¬ x5 = (-1)) ∧ ((M69 6952 101) < 0))) → im_T g d 377 161 [none, none, none, none, none, none, none, none, none, none, none] [] e M69 K := by
            intro  hx80
            have hP := hJ78  hx80
            exact im_vret (q := 162) D377_161 rfl hP
          refine im_icmp (q := 154) (t := 161) D377_151 rfl hg73 (by decide) (fun hc74 => ?_) (fun hc74 => ?_)
          · exact (kJ79  (Or.inl hc74)).wk trivial
          · replace hP := hP hc74
            refine im_ld (q := 155) (i := 0) D377_154 rfl rfl rfl ?_
            refine im_rng (j := 101) sf_6952 (by decide) (by decide) (fun hr75 => ?_)
            refine im_gfI (q := 158) D377_155 (im_fl cn_377 fl_12_855) sf_6952 rfl rfl tI_12_101 rfl ?_
            refine im_ifc (q := 161) (t := 162) D377_158 rfl hr75 (fun hc76 => ?_) (fun hc76 => ?_)
            · replace hP := hP hc76
              refine im_ld (q := 163) (i := 0) D377_162 rfl rfl rfl ?_
              refine im_ld (q := 164) (i := 0) D377_163 rfl rfl rfl ?_
              refine im_gfR (q := 167) (b := 7013) D377_164 (im_fl cn_377 fl_12_195) sf_6952 rfl rfl tR_12_88 rf_6952_88 ?_
              refine im_ld (q := 169) (i := 8) D377_167 rfl rfl rfl ?_
              refine im_rng (j := x18) sf_7013 hg21.1 hg21.2 (fun hr77 => ?_)
              refine im_iald (q := 170) D377_169 sf_7013 hg21.1 hg21.2 (by decide) rfl ?_
              refine im_ld (q := 172) (i := 9) D377_170 rfl rfl rfl ?_
              refine im_iconst (q := 173) D377_172 ?_
              refine im_callV (q := 176) (kd := 1) (y := 371) (n := 3) (ci := 12) (a := 6952) (vs := [.ref 6952, vI (M69 7013 x18), vI x5, vI (-1)]) (r := []) (L2 := [some (.ref 6952), some (vI (M69 7013 x18)), some (vI x5), some (vI (-1)), none]) D377_173 (im_cal cn_377 cl_12_962) (Or.inl rfl) rfl sf_6952 rfl rfl rfl rfl hd ⟨rfl, rfl, rfl, rfl, trivial⟩ ?_
              refine hP.mono ?_
              rintro _ e107 M81 ⟨x82, rfl, rfl, hP⟩
              refine im_bkS ?_
              refine im_st1 (q := 178) (i := 10) (L' := [some (.ref 6952), some (vI (M 6952 83)), some (vI x5), some (vL (M4 6961 (M 6952 83))), none, some (vL (M4 6963 (M 6952 83))), none, some (vI x16), some (vI x18), some (vI x5), some (vI x82)]) D377_176 (Or.inr rfl) (Nat.le_of_ble_eq_true rfl) rfl ?_
              refine im_ld (q := 179) (i := 0) D377_178 rfl rfl rfl ?_
              refine im_gfR (q := 182) (b := 6955) D377_179 (im_fl cn_377 fl_12_17) sf_6952 rfl rfl tR_12_5 rf_6952_5 ?_
              refine im_ld (q := 184) (i := 10) D377_182 rfl rfl rfl ?_
              obtain ⟨hg83, hP⟩ := hP
              refine im_rng (j := x82) sf_6955 hg83.1 hg83.2 (fun hr84 => ?_)
              refine im_iald (q := 185) D377_184 sf_6955 hg83.1 hg83.2 (by decide) rfl ?_
              refine im_ifc (q := 188) (t := 197) D377_185 rfl hr84 (fun hc85 => ?_) (fun hc85 => ?_)
              · replace hP := hP.1 hc85
                refine im_ld (q := 198) (i := 0) D377_197 rfl rfl rfl ?_
                refine im_gfR (q := 201) (b := 7013) D377_198 (im_fl cn_377 fl_12_195) sf_6952 rfl rfl tR_12_88 rf_6952_88 ?_
                refine im_ld (q := 203) (i := 8) D377_201 rfl rfl rfl ?_
                refine im_ld (q := 205) (i := 10) D377_203 rfl rfl rfl ?_
                obtain ⟨hg86, hP⟩ := hP
                refine im_iast (q := 206) D377_205 sf_7013 hg21.1 hg21.2 (by decide) hg86 ?_
                refine im_ld (q := 207) (i := 0) D377_206 rfl rfl rfl ?_
                refine im_ld (q := 208) (i := 0) D377_207 rfl rfl rfl ?_
                refine im_gfR (q := 211) (b := 6960) D377_208 (im_fl cn_377 fl_12_33) sf_6952 rfl rfl tR_12_21 rf_6952_21 ?_
                refine im_ld (q := 212) (i := 1) D377_211 rfl rfl rfl ?_
                refine im_rng (j := (M 6952 83)) sf_6960 hg2.1 hg2.2 (fun hr87 => ?_)
                refine im_iald (q := 213) D377_212 sf_6960 hg2.1 hg2.2 (by decide) (im_rdn _ _ _ _ (by decide)) ?_
                refine im_iconst (q := 214) D377_213 ?_
                have hJ90 := hP
                have kJ91 : ∀ x89 : Int, (((¬ (M81 6960 (M 6952 83)) = 2) ∧ x89 = 1) ∨ (((M81 6960 (M 6952 83)) = 2) ∧ x89 = 0)) → im_T g d 377 222 [some (.ref 6952), some (vI (M 6952 83)), none, some (vL (M4 6961 (M 6952 83))), none, some (vL (M4 6963 (M 6952 83))), none, none, none, some (vI x5), none] [vI x89, .ref 6952] e (im_u M81 7013 x18 x82) K := by
                  intro x89 hx92
                  have hP := hJ90 x89 hx92
                  refine im_ld (q := 223) (i := 3) D377_222 rfl rfl rfl ?_
                  refine im_ld (q := 224) (i := 0) D377_223 rfl rfl rfl ?_
                  refine im_gfR (q := 227) (b := 6962) D377_224 (im_fl cn_377 fl_12_39) sf_6952 rfl rfl tR_12_23 rf_6952_23 ?_
                  refine im_ld (q := 228) (i := 1) D377_227 rfl rfl rfl ?_
                  refine im_rng (j := (M 6952 83)) sf_6962 hg2.1 hg2.2 (fun hr93 => ?_)
                  refine im_lald (q := 229) D377_228 sf_6962 hg2.1 hg2.2 (by decide) (im_rdn _ _ _ _ (by decide)) ?_
                  refine im_ld (q := 231) (i := 5) D377_229 rfl rfl rfl ?_
                  refine im_ld (q := 233) (i := 9) D377_231 rfl rfl rfl ?_
                  refine im_callV (q := 236) (kd := 1) (y := 367) (n := 5) (ci := 12) (a := 6952) (vs := [.ref 6952, vI x89, vL (M4 6961 (M 6952 83)), vL (M81 6962 (M 6952 83)), vL (M4 6963 (M 6952 83)), vI x5]) (r := []) (L2 := [some (.ref 6952), some (vI x89), some (vL (M4 6961 (M 6952 83))), none, some (vL (M81 6962 (M 6952 83))), none, some (vL (M4 6963 (M 6952 83))), none, some (vI x5)]) D377_233 (im_cal cn_377 cl_12_994) (Or.inl rfl) rfl sf_6952 rfl rfl rfl rfl hd ⟨rfl, rfl, rfl, rfl, rfl, rfl, trivial⟩ ?_
                  refine hP.mono ?_
                  rintro _ e95 M94 ⟨rfl, rfl, hP⟩
                  refine im_bkN ?_
                  exact im_vret (q := 237) D377_236 rfl hP
                refine im_icmp (q := 217) (t := 221) D377_214 rfl (im_rgc hr87 (im_rdn _ _ _ _ (by decide))) (by decide) (fun hc88 => ?_) (fun hc88 => ?_)
                · refine im_iconst (q := 222) D377_221 ?_
                  exact (kJ91 (1) (Or.inl ⟨hc88, rfl⟩)).wk ⟨rfl, rfl, rfl, rfl, rfl, trivial⟩
                · refine im_iconst (q := 218) D377_217 ?_
                  refine im_goto (q := 221) (t := 222) D377_218 rfl ?_
                  exact (kJ91 (0) (Or.inr ⟨(Decidable.not_not.mp hc88), rfl⟩)).wk ⟨rfl, rfl, rfl, rfl, rfl, trivial⟩
              · replace hP := hP.2 (Decidable.not_not.mp hc85)
                refine im_ld (q := 189) (i := 0) D377_188 rfl rfl rfl ?_
                refine im_ld (q := 191) (i := 8) D377_189 rfl rfl rfl ?_
                refine im_callV (q := 194) (kd := 1) (y := 366) (n := 1) (ci := 12) (a := 6952) (vs := [.ref 6952, vI x18]) (r := []) (L2 := [some (.ref 6952), some (vI x18), none]) D377_191 (im_cal cn_377 cl_12_991) (Or.inl rfl) rfl sf_6952 rfl rfl rfl rfl hd ⟨rfl, rfl, trivial⟩ ?_
                refine hP.mono ?_
                rintro _ e106 M96 ⟨rfl, rfl, hP⟩
                refine im_bkN ?_
                refine im_goto (q := 197) (t := 206) D377_194 rfl ?_
                refine im_ld (q := 207) (i := 0) D377_206 rfl rfl rfl ?_
                refine im_ld (q := 208) (i := 0) D377_207 rfl rfl rfl ?_
                refine im_gfR (q := 211) (b := 6960) D377_208 (im_fl cn_377 fl_12_33) sf_6952 rfl rfl tR_12_21 rf_6952_21 ?_
                refine im_ld (q := 212) (i := 1) D377_211 rfl rfl rfl ?_
                refine im_rng (j := (M 6952 83)) sf_6960 hg2.1 hg2.2 (fun hr97 => ?_)
                refine im_iald (q := 213) D377_212 sf_6960 hg2.1 hg2.2 (by decide) rfl ?_
                refine im_iconst (q := 214) D377_213 ?_
                have hJ100 := hP
                have kJ101 : ∀ x99 : Int, (((¬ (M96 6960 (M 6952 83)) = 2) ∧ x99 = 1) ∨ (((M96 6960 (M 6952 83)) = 2) ∧ x99 = 0)) → im_T g d 377 222 [some (.ref 6952), some (vI (M 6952 83)), none, some (vL (M4 6961 (M 6952 83))), none, some (vL (M4 6963 (M 6952 83))), none, none, none, some (vI x5), none] [vI x99, .ref 6952] e M96 K := by
                  intro x99 hx102
                  have hP := hJ100 x99 hx102
                  refine im_ld (q := 223) (i := 3) D377_222 rfl rfl rfl ?_
                  refine im_ld (q := 224) (i := 0) D377_223 rfl rfl rfl ?_
                  refine im_gfR (q := 227) (b := 6962) D377_224 (im_fl cn_377 fl_12_39) sf_6952 rfl rfl tR_12_23 rf_6952_23 ?_
                  refine im_ld (q := 228) (i := 1) D377_227 rfl rfl rfl ?_
                  refine im_rng (j := (M 6952 83)) sf_6962 hg2.1 hg2.2 (fun hr103 => ?_)
                  refine im_lald (q := 229) D377_228 sf_6962 hg2.1 hg2.2 (by decide) rfl ?_
                  refine im_ld (q := 231) (i := 5) D377_229 rfl rfl rfl ?_
                  refine im_ld (q := 233) (i := 9) D377_231 rfl rfl rfl ?_
                  refine im_callV (q := 236) (kd := 1) (y := 367) (n := 5) (ci := 12) (a := 6952) (vs := [.ref 6952, vI x99, vL (M4 6961 (M 6952 83)), vL (M96 6962 (M 6952 83)), vL (M4 6963 (M 6952 83)), vI x5]) (r := []) (L2 := [some (.ref 6952), some (vI x99), some (vL (M4 6961 (M 6952 83))), none, some (vL (M96 6962 (M 6952 83))), none, some (vL (M4 6963 (M 6952 83))), none, some (vI x5)]) D377_233 (im_cal cn_377 cl_12_994) (Or.inl rfl) rfl sf_6952 rfl rfl rfl rfl hd ⟨rfl, rfl, rfl, rfl, rfl, rfl, trivial⟩ ?_
                  refine hP.mono ?_
                  rintro _ e105 M104 ⟨rfl, rfl, hP⟩
                  refine im_bkN ?_
                  exact im_vret (q := 237) D377_236 rfl hP
                refine im_icmp (q := 217) (t := 221) D377_214 rfl hr97 (by decide) (fun hc98 => ?_) (fun hc98 => ?_)
                · refine im_iconst (q := 222) D377_221 ?_
                  exact (kJ101 (1) (Or.inl ⟨hc98, rfl⟩)).wk ⟨rfl, rfl, rfl, rfl, rfl, trivial⟩
                · refine im_iconst (q := 218) D377_217 ?_
                  refine im_goto (q := 221) (t := 222) D377_218 rfl ?_
                  exact (kJ101 (0) (Or.inr ⟨(Decidable.not_not.mp hc98), rfl⟩)).wk ⟨rfl, rfl, rfl, rfl, rfl, trivial⟩
            · exact (kJ79  (Or.inr ⟨hc74, (Int.not_le.mp hc76)⟩)).wk trivial
        · replace hP := hP.2 (Int.not_le.mp hc72)
          refine im_ld (q := 116) (i := 0) D377_115 rfl rfl rfl ?_
          refine im_iconst (q := 117) D377_116 ?_
          refine im_ld (q := 118) (i := 3) D377_117 rfl rfl rfl ?_
          refine im_ld (q := 119) (i := 0) D377_118 rfl rfl rfl ?_
          refine im_gfR (q := 122) (b := 6962) D377_119 (im_fl cn_377 fl_12_39) sf_6952 rfl rfl tR_12_23 rf_6952_23 ?_
          refine im_ld (q := 123) (i := 1) D377_122 rfl rfl rfl ?_
          refine im_rng (j := (M 6952 83)) sf_6962 hg2.1 hg2.2 (fun hr108 => ?_)
          refine im_lald (q := 124) D377_123 sf_6962 hg2.1 hg2.2 (by decide) rfl ?_
          refine im_ld (q := 126) (i := 5) D377_124 rfl rfl rfl ?_
          refine im_ld (q := 127) (i := 2) D377_126 rfl rfl rfl ?_
          refine im_callV (q := 130) (kd := 1) (y := 405) (n := 5) (ci := 12) (a := 6952) (vs := [.ref 6952, vI 3, vL (M4 6961 (M 6952 83)), vL (M69 6962 (M 6952 83)), vL (M4 6963 (M 6952 83)), vI x5]) (r := []) (L2 := [some (.ref 6952), some (vI 3), some (vL (M4 6961 (M 6952 83))), none, some (vL (M69 6962 (M 6952 83))), none, some (vL (M4 6963 (M 6952 83))), none, some (vI x5)]) D377_127 (im_cal cn_377 cl_12_987) (Or.inl rfl) rfl sf_6952 rfl rfl rfl rfl hd ⟨rfl, rfl, rfl, rfl, rfl, rfl, trivial⟩ ?_
          refine hP.mono ?_
          rintro _ e151 M109 ⟨rfl, rfl, hP⟩
          refine im_bkN ?_
          refine im_ld (q := 132) (i := 7) D377_130 rfl rfl rfl ?_
          have hJ113 := hP
          have kJ114 : ∀ x112 : Int, (((x16 = 0) ∧ x112 = (-1)) ∨ ((¬ x16 = 0) ∧ x112 = (M109 7013 x18))) → im_T g d 377 146 [some (.ref 6952), some (vI (M 6952 83)), none, some (vL (M4 6961 (M 6952 83))), none, some (vL (M4 6963 (M 6952 83))), none, none, some (vI x18), none, none] [vI x112] e M109 K := by
            intro x112 hx115
            have hP := hJ113 x112 hx115
            refine im_st1 (q := 148) (i := 9) (L' := [some (.ref 6952), some (vI (M 6952 83)), none, some (vL (M4 6961 (M 6952 83))), none, some (vL (M4 6963 (M 6952 83))), none, none, some (vI x18), some (vI x112), none]) D377_146 (Or.inr rfl) (Nat.le_of_ble_eq_true rfl) rfl ?_
            refine im_ld (q := 150) (i := 9) D377_148 rfl rfl rfl ?_
            refine im_iconst (q := 151) D377_150 ?_
            obtain ⟨hg116, hP⟩ := hP
            obtain ⟨hP, hJ121⟩ := hP
            have kJ122 : (((x112 = (-1))) ∨ ((¬ x112 = (-1)) ∧ ((M109 6952 101) < 0))) → im_T g d 377 161 [none, none, none, none, none, none, none, none, none, none, none] [] e M109 K := by
              intro  hx123
              have hP := hJ121  hx123
              exact im_vret (q := 162) D377_161 rfl hP
            refine im_icmp (q := 154) (t := 161) D377_151 rfl hg116 (by decide) (fun hc117 => ?_) (fun hc117 => ?_)
            · exact (kJ122  (Or.inl hc117)).wk trivial
            · replace hP := hP hc117
              refine im_ld (q := 155) (i := 0) D377_154 rfl rfl rfl ?_
              refine im_rng (j := 101) sf_6952 (by decide) (by decide) (fun hr118 => ?_)
              refine im_gfI (q := 158) D377_155 (im_fl cn_377 fl_12_855) sf_6952 rfl rfl tI_12_101 rfl ?_
              refine im_ifc (q := 161) (t := 162) D377_158 rfl hr118 (fun hc119 => ?_) (fun hc119 => ?_)
              · replace hP := hP hc119
                refine im_ld (q := 163) (i := 0) D377_162 rfl rfl rfl ?_
                refine im_ld (q := 164) (i := 0) D377_163 rfl rfl rfl ?_
                refine im_gfR (q := 167) (b := 7013) D377_164 (im_fl cn_377 fl_12_195) sf_6952 rfl rfl tR_12_88 rf_6952_88 ?_
                refine im_ld (q := 169) (i := 8) D377_167 rfl rfl rfl ?_
                refine im_rng (j := x18) sf_7013 hg21.1 hg21.2 (fun hr120 => ?_)
                refine im_iald (q := 170) D377_169 sf_7013 hg21.1 hg21.2 (by decide) rfl ?_
                refine im_ld (q := 172) (i := 9) D377_170 rfl rfl rfl ?_
                refine im_iconst (q := 173) D377_172 ?_
                refine im_callV (q := 176) (kd := 1) (y := 371) (n := 3) (ci := 12) (a := 6952) (vs := [.ref 6952, vI (M109 7013 x18), vI x112, vI (-1)]) (r := []) (L2 := [some (.ref 6952), some (vI (M109 7013 x18)), some (vI x112), some (vI (-1)), none]) D377_173 (im_cal cn_377 cl_12_962) (Or.inl rfl) rfl sf_6952 rfl rfl rfl rfl hd ⟨rfl, rfl, rfl, rfl, trivial⟩ ?_
                refine hP.mono ?_
                rintro _ e150 M124 ⟨x125, rfl, rfl, hP⟩
                refine im_bkS ?_
                refine im_st1 (q := 178) (i := 10) (L' := [some (.ref 6952), some (vI (M 6952 83)), none, some (vL (M4 6961 (M 6952 83))), none, some (vL (M4 6963 (M 6952 83))), none, none, some (vI x18), some (vI x112), some (vI x125)]) D377_176 (Or.inr rfl) (Nat.le_of_ble_eq_true rfl) rfl ?_
                refine im_ld (q := 179) (i := 0) D377_178 rfl rfl rfl ?_
                refine im_gfR (q := 182) (b := 6955) D377_179 (im_fl cn_377 fl_12_17) sf_6952 rfl rfl tR_12_5 rf_6952_5 ?_
                refine im_ld (q := 184) (i := 10) D377_182 rfl rfl rfl ?_
                obtain ⟨hg126, hP⟩ := hP
                refine im_rng (j := x125) sf_6955 hg126.1 hg126.2 (fun hr127 => ?_)
                refine im_iald (q := 185) D377_184 sf_6955 hg126.1 hg126.2 (by decide) rfl ?_
                refine im_ifc (q := 188) (t := 197) D377_185 rfl hr127 (fun hc128 => ?_) (fun hc128 => ?_)
                · replace hP := hP.1 hc128
                  refine im_ld (q := 198) (i := 0) D377_197 rfl rfl rfl ?_
                  refine im_gfR (q := 201) (b := 7013) D377_198 (im_fl cn_377 fl_12_195) sf_6952 rfl rfl tR_12_88 rf_6952_88 ?_
                  refine im_ld (q := 203) (i := 8) D377_201 rfl rfl rfl ?_
                  refine im_ld (q := 205) (i := 10) D377_203 rfl rfl rfl ?_
                  obtain ⟨hg129, hP⟩ := hP
                  refine im_iast (q := 206) D377_205 sf_7013 hg21.1 hg21.2 (by decide) hg129 ?_
                  refine im_ld (q := 207) (i := 0) D377_206 rfl rfl rfl ?_
                  refine im_ld (q := 208) (i := 0) D377_207 rfl rfl rfl ?_
                  refine im_gfR (q := 211) (b := 6960) D377_208 (im_fl cn_377 fl_12_33) sf_6952 rfl rfl tR_12_21 rf_6952_21 ?_
                  refine im_ld (q := 212) (i := 1) D377_211 rfl rfl rfl ?_
                  refine im_rng (j := (M 6952 83)) sf_6960 hg2.1 hg2.2 (fun hr130 => ?_)
                  refine im_iald (q := 213) D377_212 sf_6960 hg2.1 hg2.2 (by decide) (im_rdn _ _ _ _ (by decide)) ?_
                  refine im_iconst (q := 214) D377_213 ?_
                  have hJ133 := hP
                  have kJ134 : ∀ x132 : Int, (((¬ (M124 6960 (M 6952 83)) = 2) ∧ x132 = 1) ∨ (((M124 6960 (M 6952 83)) = 2) ∧ x132 = 0)) → im_T g d 377 222 [some (.ref 6952), some (vI (M 6952 83)), none, some (vL (M4 6961 (M 6952 83))), none, some (vL (M4 6963 (M 6952 83))), none, none, none, some (vI x112), none] [vI x132, .ref 6952] e (im_u M124 7013 x18 x125) K := by
                    intro x132 hx135
                    have hP := hJ133 x132 hx135
                    refine im_ld (q := 223) (i := 3) D377_222 rfl rfl rfl ?_
                    refine im_ld (q := 224) (i := 0) D377_223 rfl rfl rfl ?_
                    refine im_gfR (q := 227) (b := 6962) D377_224 (im_fl cn_377 fl_12_39) sf_6952 rfl rfl tR_12_23 rf_6952_23 ?_
                    refine im_ld (q := 228) (i := 1) D377_227 rfl rfl rfl ?_
                    refine im_rng (j := (M 6952 83)) sf_6962 hg2.1 hg2.2 (fun hr136 => ?_)
                    refine im_lald (q := 229) D377_228 sf_6962 hg2.1 hg2.2 (by decide) (im_rdn _ _ _ _ (by decide)) ?_
                    refine im_ld (q := 231) (i := 5) D377_229 rfl rfl rfl ?_
                    refine im_ld (q := 233) (i := 9) D377_231 rfl rfl rfl ?_
                    refine im_callV (q := 236) (kd := 1) (y := 367) (n := 5) (ci := 12) (a := 6952) (vs := [.ref 6952, vI x132, vL (M4 6961 (M 6952 83)), vL (M124 6962 (M 6952 83)), vL (M4 6963 (M 6952 83)), vI x112]) (r := []) (L2 := [some (.ref 6952), some (vI x132), some (vL (M4 6961 (M 6952 83))), none, some (vL (M124 6962 (M 6952 83))), none, some (vL (M4 6963 (M 6952 83))), none, some (vI x112)]) D377_233 (im_cal cn_377 cl_12_994) (Or.inl rfl) rfl sf_6952 rfl rfl rfl rfl hd ⟨rfl, rfl, rfl, rfl, rfl, rfl, trivial⟩ ?_
                    refine hP.mono ?_
                    rintro _ e138 M137 ⟨rfl, rfl, hP⟩
                    refine im_bkN ?_
                    exact im_vret (q := 237) D377_236 rfl hP
                  refine im_icmp (q := 217) (t := 221) D377_214 rfl (im_rgc hr130 (im_rdn _ _ _ _ (by decide))) (by decide) (fun hc131 => ?_) (fun hc131 => ?_)
                  · refine im_iconst (q := 222) D377_221 ?_
                    exact (kJ134 (1) (Or.inl ⟨hc131, rfl⟩)).wk ⟨rfl, rfl, rfl, rfl, rfl, trivial⟩
                  · refine im_iconst (q := 218) D377_217 ?_
                    refine im_goto (q := 221) (t := 222) D377_218 rfl ?_
                    exact (kJ134 (0) (Or.inr ⟨(Decidable.not_not.mp hc131), rfl⟩)).wk ⟨rfl, rfl, rfl, rfl, rfl, trivial⟩
                · replace hP := hP.2 (Decidable.not_not.mp hc128)
                  refine im_ld (q := 189) (i := 0) D377_188 rfl rfl rfl ?_
                  refine im_ld (q := 191) (i := 8) D377_189 rfl rfl rfl ?_
                  refine im_callV (q := 194) (kd := 1) (y := 366) (n := 1) (ci := 12) (a := 6952) (vs := [.ref 6952, vI x18]) (r := []) (L2 := [some (.ref 6952), some (vI x18), none]) D377_191 (im_cal cn_377 cl_12_991) (Or.inl rfl) rfl sf_6952 rfl rfl rfl rfl hd ⟨rfl, rfl, trivial⟩ ?_
                  refine hP.mono ?_
                  rintro _ e149 M139 ⟨rfl, rfl, hP⟩
                  refine im_bkN ?_
                  refine im_goto (q := 197) (t := 206) D377_194 rfl ?_
                  refine im_ld (q := 207) (i := 0) D377_206 rfl rfl rfl ?_
                  refine im_ld (q := 208) (i := 0) D377_207 rfl rfl rfl ?_
                  refine im_gfR (q := 211) (b := 6960) D377_208 (im_fl cn_377 fl_12_33) sf_6952 rfl rfl tR_12_21 rf_6952_21 ?_
                  refine im_ld (q := 212) (i := 1) D377_211 rfl rfl rfl ?_
                  refine im_rng (j := (M 6952 83)) sf_6960 hg2.1 hg2.2 (fun hr140 => ?_)
                  refine im_iald (q := 213) D377_212 sf_6960 hg2.1 hg2.2 (by decide) rfl ?_
                  refine im_iconst (q := 214) D377_213 ?_
                  have hJ143 := hP
                  have kJ144 : ∀ x142 : Int, (((¬ (M139 6960 (M 6952 83)) = 2) ∧ x142 = 1) ∨ (((M139 6960 (M 6952 83)) = 2) ∧ x142 = 0)) → im_T g d 377 222 [some (.ref 6952), some (vI (M 6952 83)), none, some (vL (M4 6961 (M 6952 83))), none, some (vL (M4 6963 (M 6952 83))), none, none, none, some (vI x112), none] [vI x142, .ref 6952] e M139 K := by
                    intro x142 hx145
                    have hP := hJ143 x142 hx145
                    refine im_ld (q := 223) (i := 3) D377_222 rfl rfl rfl ?_
                    refine im_ld (q := 224) (i := 0) D377_223 rfl rfl rfl ?_
                    refine im_gfR (q := 227) (b := 6962) D377_224 (im_fl cn_377 fl_12_39) sf_6952 rfl rfl tR_12_23 rf_6952_23 ?_
                    refine im_ld (q := 228) (i := 1) D377_227 rfl rfl rfl ?_
                    refine im_rng (j := (M 6952 83)) sf_6962 hg2.1 hg2.2 (fun hr146 => ?_)
                    refine im_lald (q := 229) D377_228 sf_6962 hg2.1 hg2.2 (by decide) rfl ?_
                    refine im_ld (q := 231) (i := 5) D377_229 rfl rfl rfl ?_
                    refine im_ld (q := 233) (i := 9) D377_231 rfl rfl rfl ?_
                    refine im_callV (q := 236) (kd := 1) (y := 367) (n := 5) (ci := 12) (a := 6952) (vs := [.ref 6952, vI x142, vL (M4 6961 (M 6952 83)), vL (M139 6962 (M 6952 83)), vL (M4 6963 (M 6952 83)), vI x112]) (r := []) (L2 := [some (.ref 6952), some (vI x142), some (vL (M4 6961 (M 6952 83))), none, some (vL (M139 6962 (M 6952 83))), none, some (vL (M4 6963 (M 6952 83))), none, some (vI x112)]) D377_233 (im_cal cn_377 cl_12_994) (Or.inl rfl) rfl sf_6952 rfl rfl rfl rfl hd ⟨rfl, rfl, rfl, rfl, rfl, rfl, trivial⟩ ?_
                    refine hP.mono ?_
                    rintro _ e148 M147 ⟨rfl, rfl, hP⟩
                    refine im_bkN ?_
                    exact im_vret (q := 237) D377_236 rfl hP
                  refine im_icmp (q := 217) (t := 221) D377_214 rfl hr140 (by decide) (fun hc141 => ?_) (fun hc141 => ?_)
                  · refine im_iconst (q := 222) D377_221 ?_
                    exact (kJ144 (1) (Or.inl ⟨hc141, rfl⟩)).wk ⟨rfl, rfl, rfl, rfl, rfl, trivial⟩
                  · refine im_iconst (q := 218) D377_217 ?_
                    refine im_goto (q := 221) (t := 222) D377_218 rfl ?_
                    exact (kJ144 (0) (Or.inr ⟨(Decidable.not_not.mp hc141), rfl⟩)).wk ⟨rfl, rfl, rfl, rfl, rfl, trivial⟩
              · exact (kJ122  (Or.inr ⟨hc117, (Int.not_le.mp hc119)⟩)).wk trivial
          refine im_ifc (q := 135) (t := 145) D377_132 rfl hg19 (fun hc110 => ?_) (fun hc110 => ?_)
          · refine im_iconst (q := 146) D377_145 ?_
            exact (kJ114 ((-1)) (Or.inl ⟨hc110, rfl⟩)).wk ⟨rfl, rfl, rfl, rfl, rfl, trivial⟩
          · refine im_ld (q := 136) (i := 0) D377_135 rfl rfl rfl ?_
            refine im_gfR (q := 139) (b := 7013) D377_136 (im_fl cn_377 fl_12_195) sf_6952 rfl rfl tR_12_88 rf_6952_88 ?_
            refine im_ld (q := 141) (i := 8) D377_139 rfl rfl rfl ?_
            refine im_rng (j := x18) sf_7013 hg21.1 hg21.2 (fun hr111 => ?_)
            refine im_iald (q := 142) D377_141 sf_7013 hg21.1 hg21.2 (by decide) rfl ?_
            refine im_goto (q := 145) (t := 146) D377_142 rfl ?_
            exact (kJ114 ((M109 7013 x18)) (Or.inr ⟨hc110, rfl⟩)).wk ⟨rfl, rfl, rfl, rfl, rfl, trivial⟩
    · replace hP := hP.2 (Int.not_lt.mp hc13)
      refine im_ld (q := 59) (i := 0) D377_58 rfl rfl rfl ?_
      refine im_iconst (q := 60) D377_59 ?_
      refine im_ld (q := 61) (i := 3) D377_60 rfl rfl rfl ?_
      refine im_ld (q := 62) (i := 0) D377_61 rfl rfl rfl ?_
      refine im_gfR (q := 65) (b := 6962) D377_62 (im_fl cn_377 fl_12_39) sf_6952 rfl rfl tR_12_23 rf_6952_23 ?_
      refine im_ld (q := 66) (i := 1) D377_65 rfl rfl rfl ?_
      refine im_rng (j := (M 6952 83)) sf_6962 hg2.1 hg2.2 (fun hr14 => ?_)
      refine im_lald (q := 67) D377_66 sf_6962 hg2.1 hg2.2 (by decide) (im_rdn _ _ _ _ (by decide)) ?_
      refine im_ld (q := 69) (i := 5) D377_67 rfl rfl rfl ?_
      refine im_ld (q := 70) (i := 2) D377_69 rfl rfl rfl ?_
      refine im_callV (q := 73) (kd := 1) (y := 405) (n := 5) (ci := 12) (a := 6952) (vs := [.ref 6952, vI 2, vL (M4 6961 (M 6952 83)), vL (M4 6962 (M 6952 83)), vL (M4 6963 (M 6952 83)), vI x5]) (r := []) (L2 := [some (.ref 6952), some (vI 2), some (vL (M4 6961 (M 6952 83))), none, some (vL (M4 6962 (M 6952 83))), none, some (vL (M4 6963 (M 6952 83))), none, some (vI x5)]) D377_70 (im_cal cn_377 cl_12_987) (Or.inl rfl) rfl sf_6952 rfl rfl rfl rfl hd ⟨rfl, rfl, rfl, rfl, rfl, rfl, trivial⟩ ?_
      refine hP.mono ?_
      rintro _ e156 M155 ⟨rfl, rfl, hP⟩
      refine im_bkN ?_
      exact im_vret (q := 74) D377_73 rfl hP
  · replace hP := hP.2 (Int.not_le.mp hc8)
    exact im_vret (q := 34) D377_33 rfl hP
set_option maxRecDepth 20000 in
set_option maxHeartbeats 4000000 in
theorem b_worked_0 {g : im_g} {d : Nat} {e : im_E} {M : im_M} {K : im_K} {p1 : Int} (hd : 1 ≤ d) (hP : im_T g (d - 1) 379 0 [some (.ref 6952), some (vI p1), none, none, none, none] [] e M (im_ri (fun x2 e_ M1 => e = e_ ∧ (((M1 6952 8) = 0 → K (.inl (some (vI x2))) e M1) ∧ (¬ (M1 6952 8) = 0 → im_T g (d - 1) 368 0 [some (.ref 6952), some (vI (-8))] [] e M1 (im_r0 (fun  e_ M5 => e = e_ ∧ K (.inl (some (vI x2))) e M5))))))) : im_T g d 378 0 [some (.ref 6952), some (vI p1), none] [] e M K := by
  refine im_ld (q := 1) (i := 0) D378_0 rfl rfl rfl ?_
  refine im_ld (q := 2) (i := 1) D378_1 rfl rfl rfl ?_
  refine im_callV (q := 5) (kd := 1) (y := 379) (n := 1) (ci := 12) (a := 6952) (vs := [.ref 6952, vI p1]) (r := []) (L2 := [some (.ref 6952), some (vI p1), none, none, none, none]) D378_2 (im_cal cn_378 cl_12_956) (Or.inl rfl) rfl sf_6952 rfl rfl rfl rfl hd ⟨rfl, rfl, trivial⟩ ?_
  refine hP.mono ?_
  rintro _ e7 M1 ⟨x2, rfl, rfl, hP⟩
  refine im_bkS ?_
  refine im_st1 (q := 6) (i := 2) (L' := [some (.ref 6952), some (vI p1), some (vI x2)]) D378_5 (Or.inl ⟨_, rfl, rfl⟩) (Nat.le_of_ble_eq_true rfl) rfl ?_
  refine im_ld (q := 7) (i := 0) D378_6 rfl rfl rfl ?_
  refine im_rng (j := 8) sf_6952 (by decide) (by decide) (fun hr3 => ?_)
  refine im_gfI (q := 10) D378_7 (im_fl cn_378 fl_12_452) sf_6952 rfl rfl tI_12_8 rfl ?_
  refine im_ifc (q := 13) (t := 19) D378_10 rfl (im_z32 hr3) (fun hc4 => ?_) (fun hc4 => ?_)
  · replace hP := hP.1 hc4
    refine im_ld (q := 20) (i := 2) D378_19 rfl rfl rfl ?_
    exact im_iret (q := 21) D378_20 rfl hP
  · replace hP := hP.2 hc4
    refine im_ld (q := 14) (i := 0) D378_13 rfl rfl rfl ?_
    refine im_bipush (q := 16) D378_14 rfl ?_
    refine im_callV (q := 19) (kd := 1) (y := 368) (n := 1) (ci := 12) (a := 6952) (vs := [.ref 6952, vI (-8)]) (r := []) (L2 := [some (.ref 6952), some (vI (-8))]) D378_16 (im_cal cn_378 cl_12_959) (Or.inl rfl) rfl sf_6952 rfl rfl rfl rfl hd ⟨rfl, rfl, trivial⟩ ?_
    refine hP.mono ?_
    rintro _ e6 M5 ⟨rfl, rfl, hP⟩
    refine im_bkN ?_
    refine im_ld (q := 20) (i := 2) D378_19 rfl rfl rfl ?_
    exact im_iret (q := 21) D378_20 rfl hP
set_option maxRecDepth 20000 in
set_option maxHeartbeats 4000000 in
theorem b_work_0 {g : im_g} {d : Nat} {e : im_E} {M : im_M} {K : im_K} {p1 : Int} (hd : 1 ≤ d) (hP : ((((¬ (M 6952 102) = 0 → (im_i32 p1) ∧ (0 ≤ (p1.tmod 64) ∧ (p1.tmod 64) < 64) ∧ ((¬ (M 7037 (p1.tmod 64)) = 0 → (((M 7038 (p1.tmod 64)) = p1 → im_T g (d - 1) 380 0 [some (.ref 6952), some (vI (p1.tmod 64)), none, none] [] e M (im_ri (fun x16 e_ M15 => e = e_ ∧ K (.inl (some (vI x16))) e M15))))))))) ∧ (((((M 6952 102) = 0)) ∨ ((¬ (M 6952 102) = 0) ∧ ((M 7037 (p1.tmod 64)) = 0)) ∨ ((¬ (M 6952 102) = 0) ∧ (¬ (M 7037 (p1.tmod 64)) = 0) ∧ (¬ (M 7038 (p1.tmod 64)) = p1))) → im_T g (d - 1) 381 0 [some (.ref 6952), some (vI p1)] [] e (im_u (im_u (im_u M 6952 8 0) 6952 122 0) 6952 124 0) (im_r0 (fun  e_ M13 => e = e_ ∧ im_T g d 379 66 [some (.ref 6952), some (vI p1), some (vI (M 6952 7)), none, none, none] [] e M13 K))))) : im_T g d 379 0 [some (.ref 6952), some (vI p1), none, none, none, none] [] e M K := by
  refine im_ld (q := 1) (i := 0) D379_0 rfl rfl rfl ?_
  refine im_rng (j := 7) sf_6952 (by decide) (by decide) (fun hr1 => ?_)
  refine im_gfI (q := 4) D379_1 (im_fl cn_379 fl_12_449) sf_6952 rfl rfl tI_12_7 rfl ?_
  refine im_st1 (q := 5) (i := 2) (L' := [some (.ref 6952), some (vI p1), some (vI (M 6952 7)), none, none, none]) D379_4 (Or.inl ⟨_, rfl, rfl⟩) (Nat.le_of_ble_eq_true rfl) rfl ?_
  refine im_ld (q := 6) (i := 0) D379_5 rfl rfl rfl ?_
  refine im_rng (j := 102) sf_6952 (by decide) (by decide) (fun hr2 => ?_)
  refine im_gfI (q := 9) D379_6 (im_fl cn_379 fl_12_941) sf_6952 rfl rfl tI_12_102 rfl ?_
  obtain ⟨hP, hJ10⟩ := hP
  have kJ11 : ((((M 6952 102) = 0)) ∨ ((¬ (M 6952 102) = 0) ∧ ((M 7037 (p1.tmod 64)) = 0)) ∨ ((¬ (M 6952 102) = 0) ∧ (¬ (M 7037 (p1.tmod 64)) = 0) ∧ (¬ (M 7038 (p1.tmod 64)) = p1))) → im_T g d 379 46 [some (.ref 6952), some (vI p1), some (vI (M 6952 7)), none, none, none] [] e M K := by
    intro  hx12
    have hP := hJ10  hx12
    refine im_ld (q := 47) (i := 0) D379_46 rfl rfl rfl ?_
    refine im_iconst (q := 48) D379_47 ?_
    refine im_pfZ (q := 51) D379_48 (im_fl cn_379 fl_12_452) sf_6952 rfl rfl tz_12_8 (by decide) ?_
    refine im_ld (q := 52) (i := 0) D379_51 rfl rfl rfl ?_
    refine im_iconst (q := 53) D379_52 ?_
    refine im_pfI (q := 56) D379_53 (im_fl cn_379 fl_12_886) sf_6952 rfl rfl ti_12_122 (by decide) ?_
    refine im_ld (q := 57) (i := 0) D379_56 rfl rfl rfl ?_
    refine im_iconst (q := 58) D379_57 ?_
    refine im_pfI (q := 61) D379_58 (im_fl cn_379 fl_12_889) sf_6952 rfl rfl ti_12_124 (by decide) ?_
    refine im_ld (q := 62) (i := 0) D379_61 rfl rfl rfl ?_
    refine im_ld (q := 63) (i := 1) D379_62 rfl rfl rfl ?_
    refine im_callV (q := 66) (kd := 1) (y := 381) (n := 1) (ci := 12) (a := 6952) (vs := [.ref 6952, vI p1]) (r := []) (L2 := [some (.ref 6952), some (vI p1)]) D379_63 (im_cal cn_379 cl_12_932) (Or.inl rfl) rfl sf_6952 rfl rfl rfl rfl hd ⟨rfl, rfl, trivial⟩ ?_
    refine hP.mono ?_
    rintro _ e14 M13 ⟨rfl, rfl, hP⟩
    refine im_bkN ?_
    exact hP.wk ⟨rfl, rfl, rfl, trivial⟩
  refine im_ifc (q := 12) (t := 46) D379_9 rfl (im_z32 hr2) (fun hc3 => ?_) (fun hc3 => ?_)
  · exact (kJ11  (Or.inl hc3)).wk ⟨rfl, rfl, rfl, trivial⟩
  · replace hP := hP hc3
    refine im_ld (q := 13) (i := 0) D379_12 rfl rfl rfl ?_
    refine im_gfR (q := 16) (b := 7037) D379_13 (im_fl cn_379 fl_12_267) sf_6952 rfl rfl tR_12_125 rf_6952_125 ?_
    refine im_ld (q := 17) (i := 1) D379_16 rfl rfl rfl ?_
    refine im_bipush (q := 19) D379_17 rfl ?_
    obtain ⟨hg4, hP⟩ := hP
    refine im_irem (q := 20) D379_19 hg4 (by decide) (by decide) ?_
    obtain ⟨hg5, hP⟩ := hP
    refine im_rng (j := (p1.tmod 64)) sf_7037 hg5.1 hg5.2 (fun hr6 => ?_)
    refine im_bald (q := 21) D379_20 sf_7037 (Or.inr rfl) hg5.1 hg5.2 (by decide) rfl ?_
    refine im_ifc (q := 24) (t := 46) D379_21 rfl (im_z32 hr6) (fun hc7 => ?_) (fun hc7 => ?_)
    · exact (kJ11  (Or.inr (Or.inl ⟨hc3, hc7⟩))).wk ⟨rfl, rfl, rfl, trivial⟩
    · replace hP := hP hc7
      refine im_ld (q := 25) (i := 0) D379_24 rfl rfl rfl ?_
      refine im_gfR (q := 28) (b := 7038) D379_25 (im_fl cn_379 fl_12_270) sf_6952 rfl rfl tR_12_126 rf_6952_126 ?_
      refine im_ld (q := 29) (i := 1) D379_28 rfl rfl rfl ?_
      refine im_bipush (q := 31) D379_29 rfl ?_
      refine im_irem (q := 32) D379_31 hg4 (by decide) (by decide) ?_
      refine im_rng (j := (p1.tmod 64)) sf_7038 hg5.1 hg5.2 (fun hr8 => ?_)
      refine im_iald (q := 33) D379_32 sf_7038 hg5.1 hg5.2 (by decide) rfl ?_
      refine im_ld (q := 34) (i := 1) D379_33 rfl rfl rfl ?_
      refine im_icmp (q := 37) (t := 46) D379_34 rfl hr8 hg4 (fun hc9 => ?_) (fun hc9 => ?_)
      · exact (kJ11  (Or.inr (Or.inr ⟨hc3, hc7, hc9⟩))).wk ⟨rfl, rfl, rfl, trivial⟩
      · replace hP := hP (Decidable.not_not.mp hc9)
        refine im_ld (q := 38) (i := 0) D379_37 rfl rfl rfl ?_
        refine im_ld (q := 39) (i := 1) D379_38 rfl rfl rfl ?_
        refine im_bipush (q := 41) D379_39 rfl ?_
        refine im_irem (q := 42) D379_41 hg4 (by decide) (by decide) ?_
        refine im_callV (q := 45) (kd := 1) (y := 380) (n := 1) (ci := 12) (a := 6952) (vs := [.ref 6952, vI (p1.tmod 64)]) (r := []) (L2 := [some (.ref 6952), some (vI (p1.tmod 64)), none, none]) D379_42 (im_cal cn_379 cl_12_947) (Or.inl rfl) rfl sf_6952 rfl rfl rfl rfl hd ⟨rfl, rfl, trivial⟩ ?_
        refine hP.mono ?_
        rintro _ e17 M15 ⟨x16, rfl, rfl, hP⟩
        refine im_bkS ?_
        exact im_iret (q := 46) D379_45 rfl hP
set_option maxRecDepth 20000 in
set_option maxHeartbeats 4000000 in
theorem b_work_66 {g : im_g} {d : Nat} {e : im_E} {M : im_M} {K : im_K} {p1 p2 : Int} (hd : 1 ≤ d) (hP : ((((0 < (M 6952 122) → (((M 6952 8) = 0 → im_T g (d - 1) 382 0 [some (.ref 6952), none, none, none] [] e M (im_r0 (fun  e_ M22 => e = e_ ∧ im_T g d 379 66 [some (.ref 6952), some (vI p1), some (vI p2), none, none, none] [] e M22 K))))))) ∧ (((((M 6952 122) ≤ 0)) ∨ ((0 < (M 6952 122)) ∧ (¬ (M 6952 8) = 0))) → (((M 6952 8) = 0 → (0 ≤ p1 ∧ p1 < 5100) ∧ (((M 6960 p1) < 40 → (0 ≤ ((M 7036 0) + 1) ∧ ((M 7036 0) + 1) < 1100000) ∧ (im_i32 p2) ∧ ((p2 ≤ (M 7036 0) → im_T g d 379 160 [some (.ref 6952), some (vI p1), some (vI p2), some (vI (M 7036 0)), some (vI ((M 6955 ((M 7036 0) + 1)) + 2)), some (vI 0)] [] e M K) ∧ ((M 7036 0) < p2 → K (.inl (some (vI (M 7036 0)))) e (im_u M 6952 7 p2)))) ∧ (40 ≤ (M 6960 p1) → (im_i32 p2) ∧ K (.inl (some (vI (M 7036 0)))) e (im_u M 6952 7 p2)))) ∧ (¬ (M 6952 8) = 0 → (im_i32 p2) ∧ im_T g (d - 1) 403 0 [some (.ref 6952), some (vI p1), some (vI 0), some (vI (-1)), none, none] [] e (im_u M 6952 7 p2) (im_r0 (fun  e_ M20 => e = e_ ∧ K (.inl (some (vI 0))) e M20))))))) : im_T g d 379 66 [some (.ref 6952), some (vI p1), some (vI p2), none, none, none] [] e M K := by
  refine im_ld (q := 67) (i := 0) D379_66 rfl rfl rfl ?_
  refine im_rng (j := 122) sf_6952 (by decide) (by decide) (fun hr1 => ?_)
  refine im_gfI (q := 70) D379_67 (im_fl cn_379 fl_12_886) sf_6952 rfl rfl tI_12_122 rfl ?_
  obtain ⟨hP, hJ5⟩ := hP
  have kJ6 : ((((M 6952 122) ≤ 0)) ∨ ((0 < (M 6952 122)) ∧ (¬ (M 6952 8) = 0))) → im_T g d 379 87 [some (.ref 6952), some (vI p1), some (vI p2), none, none, none] [] e M K := by
    intro  hx7
    have hP := hJ5  hx7
    refine im_ld (q := 88) (i := 0) D379_87 rfl rfl rfl ?_
    refine im_rng (j := 8) sf_6952 (by decide) (by decide) (fun hr8 => ?_)
    refine im_gfI (q := 91) D379_88 (im_fl cn_379 fl_12_452) sf_6952 rfl rfl tI_12_8 rfl ?_
    refine im_ifc (q := 94) (t := 108) D379_91 rfl (im_z32 hr8) (fun hc9 => ?_) (fun hc9 => ?_)
    · replace hP := hP.1 hc9
      refine im_ld (q := 109) (i := 0) D379_108 rfl rfl rfl ?_
      refine im_gfR (q := 112) (b := 7036) D379_109 (im_fl cn_379 fl_12_264) sf_6952 rfl rfl tR_12_123 rf_6952_123 ?_
      refine im_iconst (q := 113) D379_112 ?_
      refine im_rng (j := 0) sf_7036 (by decide) (by decide) (fun hr10 => ?_)
      refine im_iald (q := 114) D379_113 sf_7036 (by decide) (by decide) (by decide) rfl ?_
      refine im_st1 (q := 115) (i := 3) (L' := [some (.ref 6952), some (vI p1), some (vI p2), some (vI (M 7036 0)), none, none]) D379_114 (Or.inl ⟨_, rfl, rfl⟩) (Nat.le_of_ble_eq_true rfl) rfl ?_
      refine im_ld (q := 116) (i := 0) D379_115 rfl rfl rfl ?_
      refine im_gfR (q := 119) (b := 6960) D379_116 (im_fl cn_379 fl_12_33) sf_6952 rfl rfl tR_12_21 rf_6952_21 ?_
      refine im_ld (q := 120) (i := 1) D379_119 rfl rfl rfl ?_
      obtain ⟨hg11, hP⟩ := hP
      refine im_rng (j := p1) sf_6960 hg11.1 hg11.2 (fun hr12 => ?_)
      refine im_iald (q := 121) D379_120 sf_6960 hg11.1 hg11.2 (by decide) rfl ?_
      refine im_bipush (q := 123) D379_121 rfl ?_
      refine im_icmp (q := 126) (t := 133) D379_123 rfl hr12 (by decide) (fun hc13 => ?_) (fun hc13 => ?_)
      · replace hP := hP.1 hc13
        refine im_ld (q := 134) (i := 0) D379_133 rfl rfl rfl ?_
        refine im_gfR (q := 137) (b := 6955) D379_134 (im_fl cn_379 fl_12_17) sf_6952 rfl rfl tR_12_5 rf_6952_5 ?_
        refine im_ld (q := 138) (i := 3) D379_137 rfl rfl rfl ?_
        refine im_iconst (q := 139) D379_138 ?_
        refine im_iadd (q := 140) D379_139 ?_
        obtain ⟨hg14, hP⟩ := hP
        refine im_rng (j := ((M 7036 0) + 1)) sf_6955 hg14.1 hg14.2 (fun hr15 => ?_)
        refine im_iald (q := 141) D379_140 sf_6955 hg14.1 hg14.2 (by decide) rfl ?_
        refine im_iconst (q := 142) D379_141 ?_
        refine im_iadd (q := 143) D379_142 ?_
        refine im_st1 (q := 145) (i := 4) (L' := [some (.ref 6952), some (vI p1), some (vI p2), some (vI (M 7036 0)), some (vI ((M 6955 ((M 7036 0) + 1)) + 2)), none]) D379_143 (Or.inr rfl) (Nat.le_of_ble_eq_true rfl) rfl ?_
        refine im_ld (q := 146) (i := 3) D379_145 rfl rfl rfl ?_
        refine im_ld (q := 147) (i := 2) D379_146 rfl rfl rfl ?_
        obtain ⟨hg16, hP⟩ := hP
        refine im_icmp (q := 150) (t := 157) D379_147 rfl hr10 hg16 (fun hc17 => ?_) (fun hc17 => ?_)
        · replace hP := hP.1 hc17
          refine im_iconst (q := 158) D379_157 ?_
          refine im_st1 (q := 160) (i := 5) (L' := [some (.ref 6952), some (vI p1), some (vI p2), some (vI (M 7036 0)), some (vI ((M 6955 ((M 7036 0) + 1)) + 2)), some (vI 0)]) D379_158 (Or.inr rfl) (Nat.le_of_ble_eq_true rfl) rfl ?_
          exact hP.wk ⟨rfl, rfl, rfl, rfl, rfl, rfl, trivial⟩
        · replace hP := hP.2 (Int.not_le.mp hc17)
          refine im_ld (q := 151) (i := 0) D379_150 rfl rfl rfl ?_
          refine im_ld (q := 152) (i := 2) D379_151 rfl rfl rfl ?_
          refine im_pfI (q := 155) D379_152 (im_fl cn_379 fl_12_449) sf_6952 rfl rfl ti_12_7 hg16 ?_
          refine im_ld (q := 156) (i := 3) D379_155 rfl rfl rfl ?_
          exact im_iret (q := 157) D379_156 rfl hP
      · replace hP := hP.2 (Int.not_lt.mp hc13)
        refine im_ld (q := 127) (i := 0) D379_126 rfl rfl rfl ?_
        refine im_ld (q := 128) (i := 2) D379_127 rfl rfl rfl ?_
        obtain ⟨hg18, hP⟩ := hP
        refine im_pfI (q := 131) D379_128 (im_fl cn_379 fl_12_449) sf_6952 rfl rfl ti_12_7 hg18 ?_
        refine im_ld (q := 132) (i := 3) D379_131 rfl rfl rfl ?_
        exact im_iret (q := 133) D379_132 rfl hP
    · replace hP := hP.2 hc9
      refine im_ld (q := 95) (i := 0) D379_94 rfl rfl rfl ?_
      refine im_ld (q := 96) (i := 2) D379_95 rfl rfl rfl ?_
      obtain ⟨hg19, hP⟩ := hP
      refine im_pfI (q := 99) D379_96 (im_fl cn_379 fl_12_449) sf_6952 rfl rfl ti_12_7 hg19 ?_
      refine im_ld (q := 100) (i := 0) D379_99 rfl rfl rfl ?_
      refine im_ld (q := 101) (i := 1) D379_100 rfl rfl rfl ?_
      refine im_iconst (q := 102) D379_101 ?_
      refine im_iconst (q := 103) D379_102 ?_
      refine im_callV (q := 106) (kd := 1) (y := 403) (n := 3) (ci := 12) (a := 6952) (vs := [.ref 6952, vI p1, vI 0, vI (-1)]) (r := []) (L2 := [some (.ref 6952), some (vI p1), some (vI 0), some (vI (-1)), none, none]) D379_103 (im_cal cn_379 cl_12_953) (Or.inl rfl) rfl sf_6952 rfl rfl rfl rfl hd ⟨rfl, rfl, rfl, rfl, trivial⟩ ?_
      refine hP.mono ?_
      rintro _ e21 M20 ⟨rfl, rfl, hP⟩
      refine im_bkN ?_
      refine im_iconst (q := 107) D379_106 ?_
      exact im_iret (q := 108) D379_107 rfl hP
  refine im_ifc (q := 73) (t := 87) D379_70 rfl hr1 (fun hc2 => ?_) (fun hc2 => ?_)
  · exact (kJ6  (Or.inl hc2)).wk ⟨rfl, rfl, rfl, trivial⟩
  · replace hP := hP (Int.not_le.mp hc2)
    refine im_ld (q := 74) (i := 0) D379_73 rfl rfl rfl ?_
    refine im_rng (j := 8) sf_6952 (by decide) (by decide) (fun hr3 => ?_)
    refine im_gfI (q := 77) D379_74 (im_fl cn_379 fl_12_452) sf_6952 rfl rfl tI_12_8 rfl ?_
    refine im_ifc (q := 80) (t := 87) D379_77 rfl (im_z32 hr3) (fun hc4 => ?_) (fun hc4 => ?_)
    · exact (kJ6  (Or.inr ⟨(Int.not_le.mp hc2), hc4⟩)).wk ⟨rfl, rfl, rfl, trivial⟩
    · replace hP := hP (Decidable.not_not.mp hc4)
      refine im_ld (q := 81) (i := 0) D379_80 rfl rfl rfl ?_
      refine im_callV (q := 84) (kd := 1) (y := 382) (n := 0) (ci := 12) (a := 6952) (vs := [.ref 6952]) (r := []) (L2 := [some (.ref 6952), none, none, none]) D379_81 (im_cal cn_379 cl_12_950) (Or.inl rfl) rfl sf_6952 rfl rfl rfl rfl hd ⟨rfl, trivial⟩ ?_
      refine hP.mono ?_
      rintro _ e23 M22 ⟨rfl, rfl, hP⟩
      refine im_bkN ?_
      refine im_goto (q := 87) (t := 66) D379_84 rfl ?_
      exact hP.wk ⟨rfl, rfl, rfl, trivial⟩
set_option maxRecDepth 20000 in
set_option maxHeartbeats 4000000 in
theorem b_work_160 {g : im_g} {d : Nat} {e : im_E} {M : im_M} {K : im_K} {p1 p2 p3 p4 p5 : Int} (hd : 1 ≤ d) (hP : (im_i32 p5) ∧ (im_i32 p4) ∧ ((p4 ≤ p5 → (im_i32 (p2 + p4)) ∧ im_T g (d - 1) 403 0 [some (.ref 6952), some (vI p1), some (vI p2), some (vI p4), none, none] [] e (im_u M 6952 7 (p2 + p4)) (im_r0 (fun  e_ M7 => e = e_ ∧ K (.inl (some (vI p2))) e M7))) ∧ (p5 < p4 → (0 ≤ (p3 + p5) ∧ (p3 + p5) < 1100000) ∧ (0 ≤ (p2 + p5) ∧ (p2 + p5) < 1100000) ∧ im_T g d 379 160 [some (.ref 6952), some (vI p1), some (vI p2), some (vI p3), some (vI p4), some (vI (p5 + 1))] [] e (im_u M 6955 (p2 + p5) (M 6955 (p3 + p5))) K))) : im_T g d 379 160 [some (.ref 6952), some (vI p1), some (vI p2), some (vI p3), some (vI p4), some (vI p5)] [] e M K := by
  refine im_ld (q := 162) (i := 5) D379_160 rfl rfl rfl ?_
  refine im_ld (q := 164) (i := 4) D379_162 rfl rfl rfl ?_
  obtain ⟨hg1, hP⟩ := hP
  obtain ⟨hg2, hP⟩ := hP
  refine im_icmp (q := 167) (t := 191) D379_164 rfl hg1 hg2 (fun hc3 => ?_) (fun hc3 => ?_)
  · replace hP := hP.1 hc3
    refine im_ld (q := 192) (i := 0) D379_191 rfl rfl rfl ?_
    refine im_ld (q := 193) (i := 2) D379_192 rfl rfl rfl ?_
    refine im_ld (q := 195) (i := 4) D379_193 rfl rfl rfl ?_
    refine im_iadd (q := 196) D379_195 ?_
    obtain ⟨hg6, hP⟩ := hP
    refine im_pfI (q := 199) D379_196 (im_fl cn_379 fl_12_449) sf_6952 rfl rfl ti_12_7 hg6 ?_
    refine im_ld (q := 200) (i := 0) D379_199 rfl rfl rfl ?_
    refine im_ld (q := 201) (i := 1) D379_200 rfl rfl rfl ?_
    refine im_ld (q := 202) (i := 2) D379_201 rfl rfl rfl ?_
    refine im_ld (q := 204) (i := 4) D379_202 rfl rfl rfl ?_
    refine im_callV (q := 207) (kd := 1) (y := 403) (n := 3) (ci := 12) (a := 6952) (vs := [.ref 6952, vI p1, vI p2, vI p4]) (r := []) (L2 := [some (.ref 6952), some (vI p1), some (vI p2), some (vI p4), none, none]) D379_204 (im_cal cn_379 cl_12_953) (Or.inl rfl) rfl sf_6952 rfl rfl rfl rfl hd ⟨rfl, rfl, rfl, rfl, trivial⟩ ?_
    refine hP.mono ?_
    rintro _ e8 M7 ⟨rfl, rfl, hP⟩
    refine im_bkN ?_
    refine im_ld (q := 208) (i := 2) D379_207 rfl rfl rfl ?_
    exact im_iret (q := 209) D379_208 rfl hP
  · replace hP := hP.2 (Int.not_le.mp hc3)
    refine im_ld (q := 168) (i := 0) D379_167 rfl rfl rfl ?_
    refine im_gfR (q := 171) (b := 6955) D379_168 (im_fl cn_379 fl_12_17) sf_6952 rfl rfl tR_12_5 rf_6952_5 ?_
    refine im_ld (q := 172) (i := 2) D379_171 rfl rfl rfl ?_
    refine im_ld (q := 174) (i := 5) D379_172 rfl rfl rfl ?_
    refine im_iadd (q := 175) D379_174 ?_
    refine im_ld (q := 176) (i := 0) D379_175 rfl rfl rfl ?_
    refine im_gfR (q := 179) (b := 6955) D379_176 (im_fl cn_379 fl_12_17) sf_6952 rfl rfl tR_12_5 rf_6952_5 ?_
    refine im_ld (q := 180) (i := 3) D379_179 rfl rfl rfl ?_
    refine im_ld (q := 182) (i := 5) D379_180 rfl rfl rfl ?_
    refine im_iadd (q := 183) D379_182 ?_
    obtain ⟨hg4, hP⟩ := hP
    refine im_rng (j := (p3 + p5)) sf_6955 hg4.1 hg4.2 (fun hr5 => ?_)
    refine im_iald (q := 184) D379_183 sf_6955 hg4.1 hg4.2 (by decide) rfl ?_
    obtain ⟨hg9, hP⟩ := hP
    refine im_iast (q := 185) D379_184 sf_6955 hg9.1 hg9.2 (by decide) hr5 ?_
    refine im_iinc (q := 188) (i := 5) (L' := [some (.ref 6952), some (vI p1), some (vI p2), some (vI p3), some (vI p4), some (vI (p5 + 1))]) D379_185 rfl (Nat.le_of_ble_eq_true rfl) rfl ?_
    refine im_goto (q := 191) (t := 160) D379_188 rfl ?_
    exact hP.wk ⟨rfl, rfl, rfl, rfl, rfl, rfl, trivial⟩
set_option maxRecDepth 20000 in
set_option maxHeartbeats 4000000 in
theorem b_known_0 {g : im_g} {d : Nat} {e : im_E} {M : im_M} {K : im_K} {p1 : Int} (hP : (0 ≤ p1 ∧ p1 < 64) ∧ ((∀ x4 : Int, (((0 ≤ (M 7039 p1)) ∧ x4 = 0) ∨ (((M 7039 p1) < 0) ∧ x4 = 1)) → ((x4 = 0 → im_T g d 380 34 [some (.ref 6952), some (vI p1), some (vI (M 6952 7)), some (vI 0)] [] e (im_u M 6952 8 x4) K) ∧ (¬ x4 = 0 → K (.inl (some (vI 0))) e (im_u M 6952 8 x4)))))) : im_T g d 380 0 [some (.ref 6952), some (vI p1), none, none] [] e M K := by
  refine im_ld (q := 1) (i := 0) D380_0 rfl rfl rfl ?_
  refine im_ld (q := 2) (i := 0) D380_1 rfl rfl rfl ?_
  refine im_gfR (q := 5) (b := 7039) D380_2 (im_fl cn_380 fl_12_273) sf_6952 rfl rfl tR_12_127 rf_6952_127 ?_
  refine im_ld (q := 6) (i := 1) D380_5 rfl rfl rfl ?_
  obtain ⟨hg1, hP⟩ := hP
  refine im_rng (j := p1) sf_7039 hg1.1 hg1.2 (fun hr2 => ?_)
  refine im_iald (q := 7) D380_6 sf_7039 hg1.1 hg1.2 (by decide) rfl ?_
  have hJ5 := hP
  have kJ6 : ∀ x4 : Int, (((0 ≤ (M 7039 p1)) ∧ x4 = 0) ∨ (((M 7039 p1) < 0) ∧ x4 = 1)) → im_T g d 380 15 [some (.ref 6952), some (vI p1), none, none] [vI x4, .ref 6952] e M K := by
    intro x4 hx7
    have hP := hJ5 x4 hx7
    refine im_pfZ (q := 18) D380_15 (im_fl cn_380 fl_12_452) sf_6952 rfl rfl tz_12_8 (by omega) ?_
    refine im_ld (q := 19) (i := 0) D380_18 rfl rfl rfl ?_
    refine im_gfI (q := 22) D380_19 (im_fl cn_380 fl_12_452) sf_6952 rfl rfl tI_12_8 (im_rds _ _ _ _) ?_
    refine im_ifc (q := 25) (t := 27) D380_22 rfl (by omega) (fun hc9 => ?_) (fun hc9 => ?_)
    · replace hP := hP.1 hc9
      refine im_ld (q := 28) (i := 0) D380_27 rfl rfl rfl ?_
      refine im_rng (j := 7) sf_6952 (by decide) (by decide) (fun hr10 => ?_)
      refine im_gfI (q := 31) D380_28 (im_fl cn_380 fl_12_449) sf_6952 rfl rfl tI_12_7 (im_rdk _ _ _ (by decide)) ?_
      refine im_st1 (q := 32) (i := 2) (L' := [some (.ref 6952), some (vI p1), some (vI (M 6952 7)), none]) D380_31 (Or.inl ⟨_, rfl, rfl⟩) (Nat.le_of_ble_eq_true rfl) rfl ?_
      refine im_iconst (q := 33) D380_32 ?_
      refine im_st1 (q := 34) (i := 3) (L' := [some (.ref 6952), some (vI p1), some (vI (M 6952 7)), some (vI 0)]) D380_33 (Or.inl ⟨_, rfl, rfl⟩) (Nat.le_of_ble_eq_true rfl) rfl ?_
      exact hP.wk ⟨rfl, rfl, rfl, rfl, trivial⟩
    · replace hP := hP.2 hc9
      refine im_iconst (q := 26) D380_25 ?_
      exact im_iret (q := 27) D380_26 rfl hP
  refine im_ifc (q := 10) (t := 14) D380_7 rfl hr2 (fun hc3 => ?_) (fun hc3 => ?_)
  · refine im_iconst (q := 15) D380_14 ?_
    exact (kJ6 (0) (Or.inl ⟨hc3, rfl⟩)).wk ⟨rfl, rfl, trivial⟩
  · refine im_iconst (q := 11) D380_10 ?_
    refine im_goto (q := 14) (t := 15) D380_11 rfl ?_
    exact (kJ6 (1) (Or.inr ⟨(Int.not_le.mp hc3), rfl⟩)).wk ⟨rfl, rfl, trivial⟩
set_option maxRecDepth 20000 in
set_option maxHeartbeats 4000000 in
theorem b_known_34 {g : im_g} {d : Nat} {e : im_E} {M : im_M} {K : im_K} {p1 p2 p3 : Int} (hP : (0 ≤ p1 ∧ p1 < 64) ∧ (im_i32 p3) ∧ (((M 7039 p1) ≤ p3 → (im_i32 (p2 + (M 7039 p1))) ∧ K (.inl (some (vI p2))) e (im_u M 6952 7 (p2 + (M 7039 p1)))) ∧ (p3 < (M 7039 p1) → (0 ≤ ((304 * p1) + p3) ∧ ((304 * p1) + p3) < 19456) ∧ (0 ≤ (p2 + p3) ∧ (p2 + p3) < 1100000) ∧ im_T g d 380 34 [some (.ref 6952), some (vI p1), some (vI p2), some (vI (p3 + 1))] [] e (im_u M 6955 (p2 + p3) (M 7040 ((304 * p1) + p3))) K))) : im_T g d 380 34 [some (.ref 6952), some (vI p1), some (vI p2), some (vI p3)] [] e M K := by
  refine im_ld (q := 35) (i := 3) D380_34 rfl rfl rfl ?_
  refine im_ld (q := 36) (i := 0) D380_35 rfl rfl rfl ?_
  refine im_gfR (q := 39) (b := 7039) D380_36 (im_fl cn_380 fl_12_273) sf_6952 rfl rfl tR_12_127 rf_6952_127 ?_
  refine im_ld (q := 40) (i := 1) D380_39 rfl rfl rfl ?_
  obtain ⟨hg1, hP⟩ := hP
  refine im_rng (j := p1) sf_7039 hg1.1 hg1.2 (fun hr2 => ?_)
  refine im_iald (q := 41) D380_40 sf_7039 hg1.1 hg1.2 (by decide) rfl ?_
  obtain ⟨hg3, hP⟩ := hP
  refine im_icmp (q := 44) (t := 70) D380_41 rfl hg3 hr2 (fun hc4 => ?_) (fun hc4 => ?_)
  · replace hP := hP.1 hc4
    refine im_ld (q := 71) (i := 0) D380_70 rfl rfl rfl ?_
    refine im_ld (q := 72) (i := 2) D380_71 rfl rfl rfl ?_
    refine im_ld (q := 73) (i := 0) D380_72 rfl rfl rfl ?_
    refine im_gfR (q := 76) (b := 7039) D380_73 (im_fl cn_380 fl_12_273) sf_6952 rfl rfl tR_12_127 rf_6952_127 ?_
    refine im_ld (q := 77) (i := 1) D380_76 rfl rfl rfl ?_
    refine im_iald (q := 78) D380_77 sf_7039 hg1.1 hg1.2 (by decide) rfl ?_
    refine im_iadd (q := 79) D380_78 ?_
    obtain ⟨hg8, hP⟩ := hP
    refine im_pfI (q := 82) D380_79 (im_fl cn_380 fl_12_449) sf_6952 rfl rfl ti_12_7 hg8 ?_
    refine im_ld (q := 83) (i := 2) D380_82 rfl rfl rfl ?_
    exact im_iret (q := 84) D380_83 rfl hP
  · replace hP := hP.2 (Int.not_le.mp hc4)
    refine im_ld (q := 45) (i := 0) D380_44 rfl rfl rfl ?_
    refine im_gfR (q := 48) (b := 6955) D380_45 (im_fl cn_380 fl_12_17) sf_6952 rfl rfl tR_12_5 rf_6952_5 ?_
    refine im_ld (q := 49) (i := 2) D380_48 rfl rfl rfl ?_
    refine im_ld (q := 50) (i := 3) D380_49 rfl rfl rfl ?_
    refine im_iadd (q := 51) D380_50 ?_
    refine im_ld (q := 52) (i := 0) D380_51 rfl rfl rfl ?_
    refine im_gfR (q := 55) (b := 7040) D380_52 (im_fl cn_380 fl_12_276) sf_6952 rfl rfl tR_12_128 rf_6952_128 ?_
    refine im_sipush (q := 58) D380_55 rfl ?_
    refine im_ld (q := 59) (i := 1) D380_58 rfl rfl rfl ?_
    refine im_imul (q := 60) D380_59 ?_
    refine im_ld (q := 61) (i := 3) D380_60 rfl rfl rfl ?_
    refine im_iadd (q := 62) D380_61 ?_
    obtain ⟨hg6, hP⟩ := hP
    refine im_rng (j := ((304 * p1) + p3)) sf_7040 hg6.1 hg6.2 (fun hr7 => ?_)
    refine im_iald (q := 63) D380_62 sf_7040 hg6.1 hg6.2 (by decide) rfl ?_
    obtain ⟨hg9, hP⟩ := hP
    refine im_iast (q := 64) D380_63 sf_6955 hg9.1 hg9.2 (by decide) hr7 ?_
    refine im_iinc (q := 67) (i := 3) (L' := [some (.ref 6952), some (vI p1), some (vI p2), some (vI (p3 + 1))]) D380_64 rfl (Nat.le_of_ble_eq_true rfl) rfl ?_
    refine im_goto (q := 70) (t := 34) D380_67 rfl ?_
    exact hP.wk ⟨rfl, rfl, rfl, rfl, trivial⟩
set_option maxRecDepth 20000 in
set_option maxHeartbeats 4000000 in
theorem b_pile_0 {g : im_g} {d : Nat} {e : im_E} {M : im_M} {K : im_K} {p1 : Int} (hP : (0 ≤ (M 6952 122) ∧ (M 6952 122) < 400) ∧ (im_i32 p1) ∧ (im_i32 ((M 6952 122) + 1)) ∧ K (.inl none) e (im_u (im_u (im_u M 7034 (M 6952 122) p1) 7035 (M 6952 122) 0) 6952 122 ((M 6952 122) + 1))) : im_T g d 381 0 [some (.ref 6952), some (vI p1)] [] e M K := by
  refine im_ld (q := 1) (i := 0) D381_0 rfl rfl rfl ?_
  refine im_gfR (q := 4) (b := 7034) D381_1 (im_fl cn_381 fl_12_258) sf_6952 rfl rfl tR_12_120 rf_6952_120 ?_
  refine im_ld (q := 5) (i := 0) D381_4 rfl rfl rfl ?_
  refine im_rng (j := 122) sf_6952 (by decide) (by decide) (fun hr1 => ?_)
  refine im_gfI (q := 8) D381_5 (im_fl cn_381 fl_12_886) sf_6952 rfl rfl tI_12_122 rfl ?_
  refine im_ld (q := 9) (i := 1) D381_8 rfl rfl rfl ?_
  obtain ⟨hg2, hP⟩ := hP
  obtain ⟨hg3, hP⟩ := hP
  refine im_iast (q := 10) D381_9 sf_7034 hg2.1 hg2.2 (by decide) hg3 ?_
  refine im_ld (q := 11) (i := 0) D381_10 rfl rfl rfl ?_
  refine im_gfR (q := 14) (b := 7035) D381_11 (im_fl cn_381 fl_12_261) sf_6952 rfl rfl tR_12_121 rf_6952_121 ?_
  refine im_ld (q := 15) (i := 0) D381_14 rfl rfl rfl ?_
  refine im_gfI (q := 18) D381_15 (im_fl cn_381 fl_12_886) sf_6952 rfl rfl tI_12_122 (im_rdn _ _ _ _ (by decide)) ?_
  refine im_iconst (q := 19) D381_18 ?_
  refine im_iast (q := 20) D381_19 sf_7035 hg2.1 hg2.2 (by decide) (by decide) ?_
  refine im_ld (q := 21) (i := 0) D381_20 rfl rfl rfl ?_
  refine im_dup (q := 22) D381_21 rfl ?_
  refine im_gfI (q := 25) D381_22 (im_fl cn_381 fl_12_886) sf_6952 rfl rfl tI_12_122 ((im_rdn _ _ _ _ (by decide)).trans (im_rdn _ _ _ _ (by decide))) ?_
  refine im_iconst (q := 26) D381_25 ?_
  refine im_iadd (q := 27) D381_26 ?_
  obtain ⟨hg6, hP⟩ := hP
  refine im_pfI (q := 30) D381_27 (im_fl cn_381 fl_12_886) sf_6952 rfl rfl ti_12_122 hg6 ?_
  exact im_vret (q := 31) D381_30 rfl hP
set_option maxRecDepth 20000 in
set_option maxHeartbeats 4000000 in
theorem b_workNext_0 {g : im_g} {d : Nat} {e : im_E} {M : im_M} {K : im_K} (hd : 1 ≤ d) (hP : (0 ≤ ((M 6952 122) - 1) ∧ ((M 6952 122) - 1) < 400) ∧ (0 ≤ (M 7034 ((M 6952 122) - 1)) ∧ (M 7034 ((M 6952 122) - 1)) < 5100) ∧ im_T g (d - 1) 383 0 [some (vI (M 6960 (M 7034 ((M 6952 122) - 1)))), none] [] e M (im_ri (fun x9 e_ M8 => e = e_ ∧ (im_i32 x9) ∧ ((x9 = 0 → (0 ≤ ((M8 6952 122) - 1) ∧ ((M8 6952 122) - 1) < 400) ∧ (im_i32 ((M8 7035 ((M8 6952 122) - 1)) + 1)) ∧ ((((¬ (M 7035 ((M 6952 122) - 1)) = 0 → ((¬ (M 6960 (M 7034 ((M 6952 122) - 1))) = 32 → ((¬ (M 6960 (M 7034 ((M 6952 122) - 1))) = 23 → ((¬ (M 6960 (M 7034 ((M 6952 122) - 1))) = 42 → ((¬ (M 7035 ((M 6952 122) - 1)) = 1 → (im_i32 ((M8 6952 122) - 1)) ∧ (im_i32 ((M8 6952 124) - 1)) ∧ (0 ≤ (((M8 6952 124) - 1) - 1) ∧ (((M8 6952 124) - 1) - 1) < 400) ∧ (0 ≤ ((M8 6952 124) - 1) ∧ ((M8 6952 124) - 1) < 400) ∧ im_T g (d - 1) 394 0 [some (.ref 6952), some (vI (M 6960 (M 7034 ((M 6952 122) - 1)))), some (vI (M8 7036 (((M8 6952 124) - 1) - 1))), some (vI (M8 7036 ((M8 6952 124) - 1)))] [] e (im_u (im_u (im_u M8 7035 ((M8 6952 122) - 1) ((M8 7035 ((M8 6952 122) - 1)) + 1)) 6952 122 ((M8 6952 122) - 1)) 6952 124 ((M8 6952 124) - 1)) (im_ri (fun x55 e_ M54 => e = e_ ∧ (im_i32 x55) ∧ K (.inl none) e (im_u M54 7036 (((M8 6952 124) - 1) - 1) x55)))) ∧ ((M 7035 ((M 6952 122) - 1)) = 1 → im_T g (d - 1) 381 0 [some (.ref 6952), some (vI (M8 6965 (M 7034 ((M 6952 122) - 1))))] [] e (im_u M8 7035 ((M8 6952 122) - 1) ((M8 7035 ((M8 6952 122) - 1)) + 1)) (im_r0 (fun  e_ M58 => e = e_ ∧ K (.inl none) e M58))))))))) ∧ ((M 6960 (M 7034 ((M 6952 122) - 1))) = 32 → (im_i32 ((M8 6952 124) - 1)) ∧ (im_i32 ((M8 6952 122) - 1)) ∧ (0 ≤ ((M8 6952 124) - 1) ∧ ((M8 6952 124) - 1) < 400) ∧ ((∀ x69 : Int, (((¬ (M8 7036 ((M8 6952 124) - 1)) = 1) ∧ x69 = (M8 6966 (M 7034 ((M 6952 122) - 1)))) ∨ (((M8 7036 ((M8 6952 124) - 1)) = 1) ∧ x69 = (M8 6965 (M 7034 ((M 6952 122) - 1))))) → im_T g (d - 1) 381 0 [some (.ref 6952), some (vI x69)] [] e (im_u (im_u (im_u M8 7035 ((M8 6952 122) - 1) ((M8 7035 ((M8 6952 122) - 1)) + 1)) 6952 124 ((M8 6952 124) - 1)) 6952 122 ((M8 6952 122) - 1)) (im_r0 (fun  e_ M73 => e = e_ ∧ K (.inl none) e M73))))))) ∧ ((M 7035 ((M 6952 122) - 1)) = 0 → im_T g (d - 1) 381 0 [some (.ref 6952), some (vI (M8 6964 (M 7034 ((M 6952 122) - 1))))] [] e (im_u M8 7035 ((M8 6952 122) - 1) ((M8 7035 ((M8 6952 122) - 1)) + 1)) (im_r0 (fun  e_ M75 => e = e_ ∧ K (.inl none) e M75))))) ∧ ((((¬ (M 7035 ((M 6952 122) - 1)) = 0) ∧ (¬ (M 6960 (M 7034 ((M 6952 122) - 1))) = 32) ∧ ((M 6960 (M 7034 ((M 6952 122) - 1))) = 23)) ∨ ((¬ (M 7035 ((M 6952 122) - 1)) = 0) ∧ (¬ (M 6960 (M 7034 ((M 6952 122) - 1))) = 32) ∧ (¬ (M 6960 (M 7034 ((M 6952 122) - 1))) = 23) ∧ ((M 6960 (M 7034 ((M 6952 122) - 1))) = 42))) → (im_i32 ((M8 6952 122) - 1)) ∧ ((¬ (M 6960 (M 7034 ((M 6952 122) - 1))) = 23 → (0 ≤ ((M8 6952 124) - 1) ∧ ((M8 6952 124) - 1) < 400) ∧ (im_i32 (1 - (M8 7036 ((M8 6952 124) - 1)))) ∧ K (.inl none) e (im_u (im_u (im_u M8 7035 ((M8 6952 122) - 1) ((M8 7035 ((M8 6952 122) - 1)) + 1)) 6952 122 ((M8 6952 122) - 1)) 7036 ((M8 6952 124) - 1) (1 - (M8 7036 ((M8 6952 124) - 1))))) ∧ ((M 6960 (M 7034 ((M 6952 122) - 1))) = 23 → (0 ≤ ((M8 6952 124) - 1) ∧ ((M8 6952 124) - 1) < 400) ∧ im_T g (d - 1) 393 0 [some (.ref 6952), some (vI (M8 7036 ((M8 6952 124) - 1))), none] [] e (im_u (im_u M8 7035 ((M8 6952 122) - 1) ((M8 7035 ((M8 6952 122) - 1)) + 1)) 6952 122 ((M8 6952 122) - 1)) (im_ri (fun x41 e_ M40 => e = e_ ∧ (im_i32 x41) ∧ K (.inl none) e (im_u M40 7036 ((M8 6952 124) - 1) x41)))))))) ∧ (¬ x9 = 0 → (im_i32 ((M8 6952 122) - 1)) ∧ im_T g (d - 1) 384 0 [some (.ref 6952), some (vI (M 7034 ((M 6952 122) - 1)))] [] e (im_u M8 6952 122 ((M8 6952 122) - 1)) (im_ri (fun x79 e_ M78 => e = e_ ∧ im_T g (d - 1) 392 0 [some (.ref 6952), some (vI x79)] [] e M78 (im_r0 (fun  e_ M80 => e = e_ ∧ K (.inl none) e M80))))))))) : im_T g d 382 0 [some (.ref 6952), none, none, none] [] e M K := by
  refine im_ld (q := 1) (i := 0) D382_0 rfl rfl rfl ?_
  refine im_gfR (q := 4) (b := 7034) D382_1 (im_fl cn_382 fl_12_258) sf_6952 rfl rfl tR_12_120 rf_6952_120 ?_
  refine im_ld (q := 5) (i := 0) D382_4 rfl rfl rfl ?_
  refine im_rng (j := 122) sf_6952 (by decide) (by decide) (fun hr1 => ?_)
  refine im_gfI (q := 8) D382_5 (im_fl cn_382 fl_12_886) sf_6952 rfl rfl tI_12_122 rfl ?_
  refine im_iconst (q := 9) D382_8 ?_
  refine im_isub (q := 10) D382_9 ?_
  obtain ⟨hg2, hP⟩ := hP
  refine im_rng (j := ((M 6952 122) - 1)) sf_7034 hg2.1 hg2.2 (fun hr3 => ?_)
  refine im_iald (q := 11) D382_10 sf_7034 hg2.1 hg2.2 (by decide) rfl ?_
  refine im_st1 (q := 12) (i := 1) (L' := [some (.ref 6952), some (vI (M 7034 ((M 6952 122) - 1))), none, none]) D382_11 (Or.inl ⟨_, rfl, rfl⟩) (Nat.le_of_ble_eq_true rfl) rfl ?_
  refine im_ld (q := 13) (i := 0) D382_12 rfl rfl rfl ?_
  refine im_gfR (q := 16) (b := 7035) D382_13 (im_fl cn_382 fl_12_261) sf_6952 rfl rfl tR_12_121 rf_6952_121 ?_
  refine im_ld (q := 17) (i := 0) D382_16 rfl rfl rfl ?_
  refine im_gfI (q := 20) D382_17 (im_fl cn_382 fl_12_886) sf_6952 rfl rfl tI_12_122 rfl ?_
  refine im_iconst (q := 21) D382_20 ?_
  refine im_isub (q := 22) D382_21 ?_
  refine im_rng (j := ((M 6952 122) - 1)) sf_7035 hg2.1 hg2.2 (fun hr5 => ?_)
  refine im_iald (q := 23) D382_22 sf_7035 hg2.1 hg2.2 (by decide) rfl ?_
  refine im_st1 (q := 24) (i := 2) (L' := [some (.ref 6952), some (vI (M 7034 ((M 6952 122) - 1))), some (vI (M 7035 ((M 6952 122) - 1))), none]) D382_23 (Or.inl ⟨_, rfl, rfl⟩) (Nat.le_of_ble_eq_true rfl) rfl ?_
  refine im_ld (q := 25) (i := 0) D382_24 rfl rfl rfl ?_
  refine im_gfR (q := 28) (b := 6960) D382_25 (im_fl cn_382 fl_12_33) sf_6952 rfl rfl tR_12_21 rf_6952_21 ?_
  refine im_ld (q := 29) (i := 1) D382_28 rfl rfl rfl ?_
  obtain ⟨hg6, hP⟩ := hP
  refine im_rng (j := (M 7034 ((M 6952 122) - 1))) sf_6960 hg6.1 hg6.2 (fun hr7 => ?_)
  refine im_iald (q := 30) D382_29 sf_6960 hg6.1 hg6.2 (by decide) rfl ?_
  refine im_st1 (q := 31) (i := 3) (L' := [some (.ref 6952), some (vI (M 7034 ((M 6952 122) - 1))), some (vI (M 7035 ((M 6952 122) - 1))), some (vI (M 6960 (M 7034 ((M 6952 122) - 1))))]) D382_30 (Or.inl ⟨_, rfl, rfl⟩) (Nat.le_of_ble_eq_true rfl) rfl ?_
  refine im_ld (q := 32) (i := 3) D382_31 rfl rfl rfl ?_
  refine im_callS (q := 35) (kd := 0) (y := 383) (n := 1) (z := 12) (vs := [vI (M 6960 (M 7034 ((M 6952 122) - 1)))]) (r := []) (L2 := [some (vI (M 6960 (M 7034 ((M 6952 122) - 1)))), none]) D382_32 rfl (im_cal cn_382 cl_12_923) (Or.inl rfl) rfl rfl rfl rfl rfl hd ⟨rfl, trivial⟩ ?_
  refine hP.mono ?_
  rintro _ e83 M8 ⟨x9, rfl, rfl, hP⟩
  refine im_bkS ?_
  obtain ⟨hg10, hP⟩ := hP
  refine im_ifc (q := 38) (t := 58) D382_35 rfl hg10 (fun hc11 => ?_) (fun hc11 => ?_)
  · replace hP := hP.1 hc11
    refine im_ld (q := 59) (i := 0) D382_58 rfl rfl rfl ?_
    refine im_gfR (q := 62) (b := 7035) D382_59 (im_fl cn_382 fl_12_261) sf_6952 rfl rfl tR_12_121 rf_6952_121 ?_
    refine im_ld (q := 63) (i := 0) D382_62 rfl rfl rfl ?_
    refine im_rng (j := 122) sf_6952 (by decide) (by decide) (fun hr12 => ?_)
    refine im_gfI (q := 66) D382_63 (im_fl cn_382 fl_12_886) sf_6952 rfl rfl tI_12_122 rfl ?_
    refine im_iconst (q := 67) D382_66 ?_
    refine im_isub (q := 68) D382_67 ?_
    refine im_dup2 (q := 69) D382_68 rfl rfl ?_
    obtain ⟨hg13, hP⟩ := hP
    refine im_rng (j := ((M8 6952 122) - 1)) sf_7035 hg13.1 hg13.2 (fun hr14 => ?_)
    refine im_iald (q := 70) D382_69 sf_7035 hg13.1 hg13.2 (by decide) rfl ?_
    refine im_iconst (q := 71) D382_70 ?_
    refine im_iadd (q := 72) D382_71 ?_
    obtain ⟨hg16, hP⟩ := hP
    refine im_iast (q := 73) D382_72 sf_7035 hg13.1 hg13.2 (by decide) hg16 ?_
    refine im_ld (q := 74) (i := 2) D382_73 rfl rfl rfl ?_
    obtain ⟨hP, hJ26⟩ := hP
    have kJ27 : (((¬ (M 7035 ((M 6952 122) - 1)) = 0) ∧ (¬ (M 6960 (M 7034 ((M 6952 122) - 1))) = 32) ∧ ((M 6960 (M 7034 ((M 6952 122) - 1))) = 23)) ∨ ((¬ (M 7035 ((M 6952 122) - 1)) = 0) ∧ (¬ (M 6960 (M 7034 ((M 6952 122) - 1))) = 32) ∧ (¬ (M 6960 (M 7034 ((M 6952 122) - 1))) = 23) ∧ ((M 6960 (M 7034 ((M 6952 122) - 1))) = 42))) → im_T g d 382 163 [some (.ref 6952), none, none, some (vI (M 6960 (M 7034 ((M 6952 122) - 1))))] [] e (im_u M8 7035 ((M8 6952 122) - 1) ((M8 7035 ((M8 6952 122) - 1)) + 1)) K := by
      intro  hx28
      have hP := hJ26  hx28
      refine im_ld (q := 164) (i := 0) D382_163 rfl rfl rfl ?_
      refine im_dup (q := 165) D382_164 rfl ?_
      refine im_gfI (q := 168) D382_165 (im_fl cn_382 fl_12_886) sf_6952 rfl rfl tI_12_122 (im_rdn _ _ _ _ (by decide)) ?_
      refine im_iconst (q := 169) D382_168 ?_
      refine im_isub (q := 170) D382_169 ?_
      obtain ⟨hg30, hP⟩ := hP
      refine im_pfI (q := 173) D382_170 (im_fl cn_382 fl_12_886) sf_6952 rfl rfl ti_12_122 hg30 ?_
      refine im_ld (q := 174) (i := 0) D382_173 rfl rfl rfl ?_
      refine im_gfR (q := 177) (b := 7036) D382_174 (im_fl cn_382 fl_12_264) sf_6952 rfl rfl tR_12_123 rf_6952_123 ?_
      refine im_ld (q := 178) (i := 0) D382_177 rfl rfl rfl ?_
      refine im_rng (j := 124) sf_6952 (by decide) (by decide) (fun hr31 => ?_)
      refine im_gfI (q := 181) D382_178 (im_fl cn_382 fl_12_889) sf_6952 rfl rfl tI_12_124 ((im_rdk _ _ _ (by decide)).trans (im_rdn _ _ _ _ (by decide))) ?_
      refine im_iconst (q := 182) D382_181 ?_
      refine im_isub (q := 183) D382_182 ?_
      refine im_ld (q := 184) (i := 3) D382_183 rfl rfl rfl ?_
      refine im_bipush (q := 186) D382_184 rfl ?_
      refine im_icmp (q := 189) (t := 207) D382_186 rfl hr7 (by decide) (fun hc32 => ?_) (fun hc32 => ?_)
      · replace hP := hP.1 hc32
        refine im_iconst (q := 208) D382_207 ?_
        refine im_ld (q := 209) (i := 0) D382_208 rfl rfl rfl ?_
        refine im_gfR (q := 212) (b := 7036) D382_209 (im_fl cn_382 fl_12_264) sf_6952 rfl rfl tR_12_123 rf_6952_123 ?_
        refine im_ld (q := 213) (i := 0) D382_212 rfl rfl rfl ?_
        refine im_gfI (q := 216) D382_213 (im_fl cn_382 fl_12_889) sf_6952 rfl rfl tI_12_124 ((im_rdk _ _ _ (by decide)).trans (im_rdn _ _ _ _ (by decide))) ?_
        refine im_iconst (q := 217) D382_216 ?_
        refine im_isub (q := 218) D382_217 ?_
        obtain ⟨hg34, hP⟩ := hP
        refine im_rng (j := ((M8 6952 124) - 1)) sf_7036 hg34.1 hg34.2 (fun hr35 => ?_)
        refine im_iald (q := 219) D382_218 sf_7036 hg34.1 hg34.2 (by decide) ((im_rdn _ _ _ _ (by decide)).trans (im_rdn _ _ _ _ (by decide))) ?_
        refine im_isub (q := 220) D382_219 ?_
        obtain ⟨hg39, hP⟩ := hP
        refine im_iast (q := 221) D382_220 sf_7036 hg34.1 hg34.2 (by decide) hg39 ?_
        refine im_goto (q := 224) (t := 298) D382_221 rfl ?_
        exact im_vret (q := 299) D382_298 rfl hP
      · replace hP := hP.2 (Decidable.not_not.mp hc32)
        refine im_ld (q := 190) (i := 0) D382_189 rfl rfl rfl ?_
        refine im_ld (q := 191) (i := 0) D382_190 rfl rfl rfl ?_
        refine im_gfR (q := 194) (b := 7036) D382_191 (im_fl cn_382 fl_12_264) sf_6952 rfl rfl tR_12_123 rf_6952_123 ?_
        refine im_ld (q := 195) (i := 0) D382_194 rfl rfl rfl ?_
        refine im_gfI (q := 198) D382_195 (im_fl cn_382 fl_12_889) sf_6952 rfl rfl tI_12_124 ((im_rdk _ _ _ (by decide)).trans (im_rdn _ _ _ _ (by decide))) ?_
        refine im_iconst (q := 199) D382_198 ?_
        refine im_isub (q := 200) D382_199 ?_
        obtain ⟨hg37, hP⟩ := hP
        refine im_rng (j := ((M8 6952 124) - 1)) sf_7036 hg37.1 hg37.2 (fun hr38 => ?_)
        refine im_iald (q := 201) D382_200 sf_7036 hg37.1 hg37.2 (by decide) ((im_rdn _ _ _ _ (by decide)).trans (im_rdn _ _ _ _ (by decide))) ?_
        refine im_callV (q := 204) (kd := 1) (y := 393) (n := 1) (ci := 12) (a := 6952) (vs := [.ref 6952, vI (M8 7036 ((M8 6952 124) - 1))]) (r := [vI ((M8 6952 124) - 1), .ref 7036]) (L2 := [some (.ref 6952), some (vI (M8 7036 ((M8 6952 124) - 1))), none]) D382_201 (im_cal cn_382 cl_12_935) (Or.inl rfl) rfl sf_6952 rfl rfl rfl rfl hd ⟨rfl, rfl, trivial⟩ ?_
        refine hP.mono ?_
        rintro _ e43 M40 ⟨x41, rfl, rfl, hP⟩
        refine im_bkS ?_
        refine im_goto (q := 207) (t := 220) D382_204 rfl ?_
        obtain ⟨hg42, hP⟩ := hP
        refine im_iast (q := 221) D382_220 sf_7036 hg37.1 hg37.2 (by decide) hg42 ?_
        refine im_goto (q := 224) (t := 298) D382_221 rfl ?_
        exact im_vret (q := 299) D382_298 rfl hP
    refine im_ifc (q := 77) (t := 90) D382_74 rfl hr5 (fun hc17 => ?_) (fun hc17 => ?_)
    · replace hP := hP.1 hc17
      refine im_ld (q := 91) (i := 3) D382_90 rfl rfl rfl ?_
      refine im_bipush (q := 93) D382_91 rfl ?_
      refine im_icmp (q := 96) (t := 151) D382_93 rfl hr7 (by decide) (fun hc18 => ?_) (fun hc18 => ?_)
      · replace hP := hP.1 hc18
        refine im_ld (q := 152) (i := 3) D382_151 rfl rfl rfl ?_
        refine im_bipush (q := 154) D382_152 rfl ?_
        refine im_icmp (q := 157) (t := 163) D382_154 rfl hr7 (by decide) (fun hc19 => ?_) (fun hc19 => ?_)
        · exact (kJ27  (Or.inl ⟨hc17, hc18, hc19⟩)).wk ⟨rfl, rfl, trivial⟩
        · replace hP := hP hc19
          refine im_ld (q := 158) (i := 3) D382_157 rfl rfl rfl ?_
          refine im_bipush (q := 160) D382_158 rfl ?_
          refine im_icmp (q := 163) (t := 224) D382_160 rfl hr7 (by decide) (fun hc20 => ?_) (fun hc20 => ?_)
          · replace hP := hP hc20
            refine im_ld (q := 225) (i := 2) D382_224 rfl rfl rfl ?_
            refine im_iconst (q := 226) D382_225 ?_
            refine im_icmp (q := 229) (t := 242) D382_226 rfl hr5 (by decide) (fun hc21 => ?_) (fun hc21 => ?_)
            · replace hP := hP.1 hc21
              refine im_ld (q := 243) (i := 0) D382_242 rfl rfl rfl ?_
              refine im_dup (q := 244) D382_243 rfl ?_
              refine im_gfI (q := 247) D382_244 (im_fl cn_382 fl_12_886) sf_6952 rfl rfl tI_12_122 (im_rdn _ _ _ _ (by decide)) ?_
              refine im_iconst (q := 248) D382_247 ?_
              refine im_isub (q := 249) D382_248 ?_
              obtain ⟨hg44, hP⟩ := hP
              refine im_pfI (q := 252) D382_249 (im_fl cn_382 fl_12_886) sf_6952 rfl rfl ti_12_122 hg44 ?_
              refine im_ld (q := 253) (i := 0) D382_252 rfl rfl rfl ?_
              refine im_dup (q := 254) D382_253 rfl ?_
              refine im_rng (j := 124) sf_6952 (by decide) (by decide) (fun hr45 => ?_)
              refine im_gfI (q := 257) D382_254 (im_fl cn_382 fl_12_889) sf_6952 rfl rfl tI_12_124 ((im_rdk _ _ _ (by decide)).trans (im_rdn _ _ _ _ (by decide))) ?_
              refine im_iconst (q := 258) D382_257 ?_
              refine im_isub (q := 259) D382_258 ?_
              obtain ⟨hg46, hP⟩ := hP
              refine im_pfI (q := 262) D382_259 (im_fl cn_382 fl_12_889) sf_6952 rfl rfl ti_12_124 hg46 ?_
              refine im_ld (q := 263) (i := 0) D382_262 rfl rfl rfl ?_
              refine im_gfR (q := 266) (b := 7036) D382_263 (im_fl cn_382 fl_12_264) sf_6952 rfl rfl tR_12_123 rf_6952_123 ?_
              refine im_ld (q := 267) (i := 0) D382_266 rfl rfl rfl ?_
              refine im_gfI (q := 270) D382_267 (im_fl cn_382 fl_12_889) sf_6952 rfl rfl tI_12_124 (im_rds _ _ _ _) ?_
              refine im_iconst (q := 271) D382_270 ?_
              refine im_isub (q := 272) D382_271 ?_
              refine im_ld (q := 273) (i := 0) D382_272 rfl rfl rfl ?_
              refine im_ld (q := 274) (i := 3) D382_273 rfl rfl rfl ?_
              refine im_ld (q := 275) (i := 0) D382_274 rfl rfl rfl ?_
              refine im_gfR (q := 278) (b := 7036) D382_275 (im_fl cn_382 fl_12_264) sf_6952 rfl rfl tR_12_123 rf_6952_123 ?_
              refine im_ld (q := 279) (i := 0) D382_278 rfl rfl rfl ?_
              refine im_gfI (q := 282) D382_279 (im_fl cn_382 fl_12_889) sf_6952 rfl rfl tI_12_124 (im_rds _ _ _ _) ?_
              refine im_iconst (q := 283) D382_282 ?_
              refine im_isub (q := 284) D382_283 ?_
              obtain ⟨hg49, hP⟩ := hP
              refine im_rng (j := (((M8 6952 124) - 1) - 1)) sf_7036 hg49.1 hg49.2 (fun hr50 => ?_)
              refine im_iald (q := 285) D382_284 sf_7036 hg49.1 hg49.2 (by decide) ((im_rdn _ _ _ _ (by decide)).trans ((im_rdn _ _ _ _ (by decide)).trans (im_rdn _ _ _ _ (by decide)))) ?_
              refine im_ld (q := 286) (i := 0) D382_285 rfl rfl rfl ?_
              refine im_gfR (q := 289) (b := 7036) D382_286 (im_fl cn_382 fl_12_264) sf_6952 rfl rfl tR_12_123 rf_6952_123 ?_
              refine im_ld (q := 290) (i := 0) D382_289 rfl rfl rfl ?_
              refine im_gfI (q := 293) D382_290 (im_fl cn_382 fl_12_889) sf_6952 rfl rfl tI_12_124 (im_rds _ _ _ _) ?_
              obtain ⟨hg52, hP⟩ := hP
              refine im_rng (j := ((M8 6952 124) - 1)) sf_7036 hg52.1 hg52.2 (fun hr53 => ?_)
              refine im_iald (q := 294) D382_293 sf_7036 hg52.1 hg52.2 (by decide) ((im_rdn _ _ _ _ (by decide)).trans ((im_rdn _ _ _ _ (by decide)).trans (im_rdn _ _ _ _ (by decide)))) ?_
              refine im_callV (q := 297) (kd := 1) (y := 394) (n := 3) (ci := 12) (a := 6952) (vs := [.ref 6952, vI (M 6960 (M 7034 ((M 6952 122) - 1))), vI (M8 7036 (((M8 6952 124) - 1) - 1)), vI (M8 7036 ((M8 6952 124) - 1))]) (r := [vI (((M8 6952 124) - 1) - 1), .ref 7036]) (L2 := [some (.ref 6952), some (vI (M 6960 (M 7034 ((M 6952 122) - 1)))), some (vI (M8 7036 (((M8 6952 124) - 1) - 1))), some (vI (M8 7036 ((M8 6952 124) - 1)))]) D382_294 (im_cal cn_382 cl_12_938) (Or.inl rfl) rfl sf_6952 rfl rfl rfl rfl hd ⟨rfl, rfl, rfl, rfl, trivial⟩ ?_
              refine hP.mono ?_
              rintro _ e57 M54 ⟨x55, rfl, rfl, hP⟩
              refine im_bkS ?_
              obtain ⟨hg56, hP⟩ := hP
              refine im_iast (q := 298) D382_297 sf_7036 hg49.1 hg49.2 (by decide) hg56 ?_
              exact im_vret (q := 299) D382_298 rfl hP
            · replace hP := hP.2 (Decidable.not_not.mp hc21)
              refine im_ld (q := 230) (i := 0) D382_229 rfl rfl rfl ?_
              refine im_ld (q := 231) (i := 0) D382_230 rfl rfl rfl ?_
              refine im_gfR (q := 234) (b := 6965) D382_231 (im_fl cn_382 fl_12_48) sf_6952 rfl rfl tR_12_26 rf_6952_26 ?_
              refine im_ld (q := 235) (i := 1) D382_234 rfl rfl rfl ?_
              refine im_rng (j := (M 7034 ((M 6952 122) - 1))) sf_6965 hg6.1 hg6.2 (fun hr23 => ?_)
              refine im_iald (q := 236) D382_235 sf_6965 hg6.1 hg6.2 (by decide) (im_rdn _ _ _ _ (by decide)) ?_
              refine im_callV (q := 239) (kd := 1) (y := 381) (n := 1) (ci := 12) (a := 6952) (vs := [.ref 6952, vI (M8 6965 (M 7034 ((M 6952 122) - 1)))]) (r := []) (L2 := [some (.ref 6952), some (vI (M8 6965 (M 7034 ((M 6952 122) - 1))))]) D382_236 (im_cal cn_382 cl_12_932) (Or.inl rfl) rfl sf_6952 rfl rfl rfl rfl hd ⟨rfl, rfl, trivial⟩ ?_
              refine hP.mono ?_
              rintro _ e59 M58 ⟨rfl, rfl, hP⟩
              refine im_bkN ?_
              refine im_goto (q := 242) (t := 298) D382_239 rfl ?_
              exact im_vret (q := 299) D382_298 rfl hP
          · exact (kJ27  (Or.inr ⟨hc17, hc18, hc19, (Decidable.not_not.mp hc20)⟩)).wk ⟨rfl, rfl, trivial⟩
      · replace hP := hP.2 (Decidable.not_not.mp hc18)
        refine im_ld (q := 97) (i := 0) D382_96 rfl rfl rfl ?_
        refine im_dup (q := 98) D382_97 rfl ?_
        refine im_rng (j := 124) sf_6952 (by decide) (by decide) (fun hr24 => ?_)
        refine im_gfI (q := 101) D382_98 (im_fl cn_382 fl_12_889) sf_6952 rfl rfl tI_12_124 (im_rdn _ _ _ _ (by decide)) ?_
        refine im_iconst (q := 102) D382_101 ?_
        refine im_isub (q := 103) D382_102 ?_
        obtain ⟨hg60, hP⟩ := hP
        refine im_pfI (q := 106) D382_103 (im_fl cn_382 fl_12_889) sf_6952 rfl rfl ti_12_124 hg60 ?_
        refine im_ld (q := 107) (i := 0) D382_106 rfl rfl rfl ?_
        refine im_dup (q := 108) D382_107 rfl ?_
        refine im_gfI (q := 111) D382_108 (im_fl cn_382 fl_12_886) sf_6952 rfl rfl tI_12_122 ((im_rdk _ _ _ (by decide)).trans (im_rdn _ _ _ _ (by decide))) ?_
        refine im_iconst (q := 112) D382_111 ?_
        refine im_isub (q := 113) D382_112 ?_
        obtain ⟨hg62, hP⟩ := hP
        refine im_pfI (q := 116) D382_113 (im_fl cn_382 fl_12_886) sf_6952 rfl rfl ti_12_122 hg62 ?_
        refine im_ld (q := 117) (i := 0) D382_116 rfl rfl rfl ?_
        refine im_ld (q := 118) (i := 0) D382_117 rfl rfl rfl ?_
        refine im_gfR (q := 121) (b := 7036) D382_118 (im_fl cn_382 fl_12_264) sf_6952 rfl rfl tR_12_123 rf_6952_123 ?_
        refine im_ld (q := 122) (i := 0) D382_121 rfl rfl rfl ?_
        refine im_gfI (q := 125) D382_122 (im_fl cn_382 fl_12_889) sf_6952 rfl rfl tI_12_124 ((im_rdk _ _ _ (by decide)).trans (im_rds _ _ _ _)) ?_
        obtain ⟨hg64, hP⟩ := hP
        refine im_rng (j := ((M8 6952 124) - 1)) sf_7036 hg64.1 hg64.2 (fun hr65 => ?_)
        refine im_iald (q := 126) D382_125 sf_7036 hg64.1 hg64.2 (by decide) ((im_rdn _ _ _ _ (by decide)).trans ((im_rdn _ _ _ _ (by decide)).trans (im_rdn _ _ _ _ (by decide)))) ?_
        refine im_iconst (q := 127) D382_126 ?_
        have hJ70 := hP
        have kJ71 : ∀ x69 : Int, (((¬ (M8 7036 ((M8 6952 124) - 1)) = 1) ∧ x69 = (M8 6966 (M 7034 ((M 6952 122) - 1)))) ∨ (((M8 7036 ((M8 6952 124) - 1)) = 1) ∧ x69 = (M8 6965 (M 7034 ((M 6952 122) - 1))))) → im_T g d 382 145 [none, none, none, none] [vI x69, .ref 6952] e (im_u (im_u (im_u M8 7035 ((M8 6952 122) - 1) ((M8 7035 ((M8 6952 122) - 1)) + 1)) 6952 124 ((M8 6952 124) - 1)) 6952 122 ((M8 6952 122) - 1)) K := by
          intro x69 hx72
          have hP := hJ70 x69 hx72
          refine im_callV (q := 148) (kd := 1) (y := 381) (n := 1) (ci := 12) (a := 6952) (vs := [.ref 6952, vI x69]) (r := []) (L2 := [some (.ref 6952), some (vI x69)]) D382_145 (im_cal cn_382 cl_12_932) (Or.inl rfl) rfl sf_6952 rfl rfl rfl rfl hd ⟨rfl, rfl, trivial⟩ ?_
          refine hP.mono ?_
          rintro _ e74 M73 ⟨rfl, rfl, hP⟩
          refine im_bkN ?_
          refine im_goto (q := 151) (t := 298) D382_148 rfl ?_
          exact im_vret (q := 299) D382_298 rfl hP
        refine im_icmp (q := 130) (t := 139) D382_127 rfl (im_rgc hr65 ((im_rdn _ _ _ _ (by decide)).trans ((im_rdn _ _ _ _ (by decide)).trans (im_rdn _ _ _ _ (by decide))))) (by decide) (fun hc66 => ?_) (fun hc66 => ?_)
        · refine im_ld (q := 140) (i := 0) D382_139 rfl rfl rfl ?_
          refine im_gfR (q := 143) (b := 6966) D382_140 (im_fl cn_382 fl_12_51) sf_6952 rfl rfl tR_12_27 rf_6952_27 ?_
          refine im_ld (q := 144) (i := 1) D382_143 rfl rfl rfl ?_
          refine im_rng (j := (M 7034 ((M 6952 122) - 1))) sf_6966 hg6.1 hg6.2 (fun hr67 => ?_)
          refine im_iald (q := 145) D382_144 sf_6966 hg6.1 hg6.2 (by decide) ((im_rdn _ _ _ _ (by decide)).trans ((im_rdn _ _ _ _ (by decide)).trans (im_rdn _ _ _ _ (by decide)))) ?_
          exact (kJ71 ((M8 6966 (M 7034 ((M 6952 122) - 1)))) (Or.inl ⟨hc66, rfl⟩)).wk trivial
        · refine im_ld (q := 131) (i := 0) D382_130 rfl rfl rfl ?_
          refine im_gfR (q := 134) (b := 6965) D382_131 (im_fl cn_382 fl_12_48) sf_6952 rfl rfl tR_12_26 rf_6952_26 ?_
          refine im_ld (q := 135) (i := 1) D382_134 rfl rfl rfl ?_
          refine im_rng (j := (M 7034 ((M 6952 122) - 1))) sf_6965 hg6.1 hg6.2 (fun hr68 => ?_)
          refine im_iald (q := 136) D382_135 sf_6965 hg6.1 hg6.2 (by decide) ((im_rdn _ _ _ _ (by decide)).trans ((im_rdn _ _ _ _ (by decide)).trans (im_rdn _ _ _ _ (by decide)))) ?_
          refine im_goto (q := 139) (t := 145) D382_136 rfl ?_
          exact (kJ71 ((M8 6965 (M 7034 ((M 6952 122) - 1)))) (Or.inr ⟨(Decidable.not_not.mp hc66), rfl⟩)).wk trivial
    · replace hP := hP.2 (Decidable.not_not.mp hc17)
      refine im_ld (q := 78) (i := 0) D382_77 rfl rfl rfl ?_
      refine im_ld (q := 79) (i := 0) D382_78 rfl rfl rfl ?_
      refine im_gfR (q := 82) (b := 6964) D382_79 (im_fl cn_382 fl_12_45) sf_6952 rfl rfl tR_12_25 rf_6952_25 ?_
      refine im_ld (q := 83) (i := 1) D382_82 rfl rfl rfl ?_
      refine im_rng (j := (M 7034 ((M 6952 122) - 1))) sf_6964 hg6.1 hg6.2 (fun hr25 => ?_)
      refine im_iald (q := 84) D382_83 sf_6964 hg6.1 hg6.2 (by decide) (im_rdn _ _ _ _ (by decide)) ?_
      refine im_callV (q := 87) (kd := 1) (y := 381) (n := 1) (ci := 12) (a := 6952) (vs := [.ref 6952, vI (M8 6964 (M 7034 ((M 6952 122) - 1)))]) (r := []) (L2 := [some (.ref 6952), some (vI (M8 6964 (M 7034 ((M 6952 122) - 1))))]) D382_84 (im_cal cn_382 cl_12_932) (Or.inl rfl) rfl sf_6952 rfl rfl rfl rfl hd ⟨rfl, rfl, trivial⟩ ?_
      refine hP.mono ?_
      rintro _ e76 M75 ⟨rfl, rfl, hP⟩
      refine im_bkN ?_
      refine im_goto (q := 90) (t := 298) D382_87 rfl ?_
      exact im_vret (q := 299) D382_298 rfl hP
  · replace hP := hP.2 hc11
    refine im_ld (q := 39) (i := 0) D382_38 rfl rfl rfl ?_
    refine im_dup (q := 40) D382_39 rfl ?_
    refine im_rng (j := 122) sf_6952 (by decide) (by decide) (fun hr15 => ?_)
    refine im_gfI (q := 43) D382_40 (im_fl cn_382 fl_12_886) sf_6952 rfl rfl tI_12_122 rfl ?_
    refine im_iconst (q := 44) D382_43 ?_
    refine im_isub (q := 45) D382_44 ?_
    obtain ⟨hg77, hP⟩ := hP
    refine im_pfI (q := 48) D382_45 (im_fl cn_382 fl_12_886) sf_6952 rfl rfl ti_12_122 hg77 ?_
    refine im_ld (q := 49) (i := 0) D382_48 rfl rfl rfl ?_
    refine im_ld (q := 50) (i := 0) D382_49 rfl rfl rfl ?_
    refine im_ld (q := 51) (i := 1) D382_50 rfl rfl rfl ?_
    refine im_callV (q := 54) (kd := 1) (y := 384) (n := 1) (ci := 12) (a := 6952) (vs := [.ref 6952, vI (M 7034 ((M 6952 122) - 1))]) (r := [.ref 6952]) (L2 := [some (.ref 6952), some (vI (M 7034 ((M 6952 122) - 1)))]) D382_51 (im_cal cn_382 cl_12_926) (Or.inl rfl) rfl sf_6952 rfl rfl rfl rfl hd ⟨rfl, rfl, trivial⟩ ?_
    refine hP.mono ?_
    rintro _ e82 M78 ⟨x79, rfl, rfl, hP⟩
    refine im_bkS ?_
    refine im_callV (q := 57) (kd := 1) (y := 392) (n := 1) (ci := 12) (a := 6952) (vs := [.ref 6952, vI x79]) (r := []) (L2 := [some (.ref 6952), some (vI x79)]) D382_54 (im_cal cn_382 cl_12_929) (Or.inl rfl) rfl sf_6952 rfl rfl rfl rfl hd ⟨rfl, rfl, trivial⟩ ?_
    refine hP.mono ?_
    rintro _ e81 M80 ⟨rfl, rfl, hP⟩
    refine im_bkN ?_
    exact im_vret (q := 58) D382_57 rfl hP
set_option maxRecDepth 20000 in
set_option maxHeartbeats 4000000 in
theorem b_isLeaf_0 {g : im_g} {d : Nat} {e : im_E} {M : im_M} {K : im_K} {p0 : Int} (hP : (im_i32 p0) ∧ ((((¬ p0 = 20 → ((¬ p0 = 21 → ((¬ p0 = 22 → ((¬ p0 = 28 → ((¬ p0 = 31 → ((¬ p0 = 29 → ((¬ p0 = 30 → ((((¬ p0 = 43 → ((¬ p0 = 49 → ((¬ p0 = 50 → K (.inl (some (vI 0))) e M))))))) ∧ ((((p0 = 43)) ∨ ((¬ p0 = 43) ∧ (p0 = 49)) ∨ ((¬ p0 = 43) ∧ (¬ p0 = 49) ∧ (p0 = 50))) → K (.inl (some (vI 1))) e M))))))))))))))))) ∧ ((((p0 = 20)) ∨ ((¬ p0 = 20) ∧ (p0 = 21)) ∨ ((¬ p0 = 20) ∧ (¬ p0 = 21) ∧ (p0 = 22)) ∨ ((¬ p0 = 20) ∧ (¬ p0 = 21) ∧ (¬ p0 = 22) ∧ (p0 = 28)) ∨ ((¬ p0 = 20) ∧ (¬ p0 = 21) ∧ (¬ p0 = 22) ∧ (¬ p0 = 28) ∧ (p0 = 31)) ∨ ((¬ p0 = 20) ∧ (¬ p0 = 21) ∧ (¬ p0 = 22) ∧ (¬ p0 = 28) ∧ (¬ p0 = 31) ∧ (p0 = 29)) ∨ ((¬ p0 = 20) ∧ (¬ p0 = 21) ∧ (¬ p0 = 22) ∧ (¬ p0 = 28) ∧ (¬ p0 = 31) ∧ (¬ p0 = 29) ∧ (p0 = 30))) → K (.inl (some (vI 1))) e M))) : im_T g d 383 0 [some (vI p0), none] [] e M K := by
  refine im_ld (q := 1) (i := 0) D383_0 rfl rfl rfl ?_
  refine im_bipush (q := 3) D383_1 rfl ?_
  obtain ⟨hg1, hP⟩ := hP
  obtain ⟨hP, hJ9⟩ := hP
  have kJ10 : (((p0 = 20)) ∨ ((¬ p0 = 20) ∧ (p0 = 21)) ∨ ((¬ p0 = 20) ∧ (¬ p0 = 21) ∧ (p0 = 22)) ∨ ((¬ p0 = 20) ∧ (¬ p0 = 21) ∧ (¬ p0 = 22) ∧ (p0 = 28)) ∨ ((¬ p0 = 20) ∧ (¬ p0 = 21) ∧ (¬ p0 = 22) ∧ (¬ p0 = 28) ∧ (p0 = 31)) ∨ ((¬ p0 = 20) ∧ (¬ p0 = 21) ∧ (¬ p0 = 22) ∧ (¬ p0 = 28) ∧ (¬ p0 = 31) ∧ (p0 = 29)) ∨ ((¬ p0 = 20) ∧ (¬ p0 = 21) ∧ (¬ p0 = 22) ∧ (¬ p0 = 28) ∧ (¬ p0 = 31) ∧ (¬ p0 = 29) ∧ (p0 = 30))) → im_T g d 383 42 [some (vI p0), none] [] e M K := by
    intro  hx11
    have hP := hJ9  hx11
    refine im_iconst (q := 43) D383_42 ?_
    refine im_goto (q := 46) (t := 47) D383_43 rfl ?_
    refine im_st1 (q := 48) (i := 1) (L' := [some (vI p0), some (vI 1)]) D383_47 (Or.inl ⟨_, rfl, rfl⟩) (Nat.le_of_ble_eq_true rfl) rfl ?_
    refine im_ld (q := 49) (i := 1) D383_48 rfl rfl rfl ?_
    refine im_ifc (q := 52) (t := 70) D383_49 rfl (by decide) (fun _ => ?_) (fun hc => absurd (show ¬ (1 : Int) = 0 by decide) hc)
    refine im_iconst (q := 71) D383_70 ?_
    refine im_goto (q := 74) (t := 75) D383_71 rfl ?_
    exact im_zret (q := 76) D383_75 rfl (by decide) hP
  refine im_icmp (q := 6) (t := 42) D383_3 rfl hg1 (by decide) (fun hc2 => ?_) (fun hc2 => ?_)
  · exact (kJ10  (Or.inl hc2)).wk ⟨rfl, trivial⟩
  · replace hP := hP hc2
    refine im_ld (q := 7) (i := 0) D383_6 rfl rfl rfl ?_
    refine im_bipush (q := 9) D383_7 rfl ?_
    refine im_icmp (q := 12) (t := 42) D383_9 rfl hg1 (by decide) (fun hc3 => ?_) (fun hc3 => ?_)
    · exact (kJ10  (Or.inr (Or.inl ⟨hc2, hc3⟩))).wk ⟨rfl, trivial⟩
    · replace hP := hP hc3
      refine im_ld (q := 13) (i := 0) D383_12 rfl rfl rfl ?_
      refine im_bipush (q := 15) D383_13 rfl ?_
      refine im_icmp (q := 18) (t := 42) D383_15 rfl hg1 (by decide) (fun hc4 => ?_) (fun hc4 => ?_)
      · exact (kJ10  (Or.inr (Or.inr (Or.inl ⟨hc2, hc3, hc4⟩)))).wk ⟨rfl, trivial⟩
      · replace hP := hP hc4
        refine im_ld (q := 19) (i := 0) D383_18 rfl rfl rfl ?_
        refine im_bipush (q := 21) D383_19 rfl ?_
        refine im_icmp (q := 24) (t := 42) D383_21 rfl hg1 (by decide) (fun hc5 => ?_) (fun hc5 => ?_)
        · exact (kJ10  (Or.inr (Or.inr (Or.inr (Or.inl ⟨hc2, hc3, hc4, hc5⟩))))).wk ⟨rfl, trivial⟩
        · replace hP := hP hc5
          refine im_ld (q := 25) (i := 0) D383_24 rfl rfl rfl ?_
          refine im_bipush (q := 27) D383_25 rfl ?_
          refine im_icmp (q := 30) (t := 42) D383_27 rfl hg1 (by decide) (fun hc6 => ?_) (fun hc6 => ?_)
          · exact (kJ10  (Or.inr (Or.inr (Or.inr (Or.inr (Or.inl ⟨hc2, hc3, hc4, hc5, hc6⟩)))))).wk ⟨rfl, trivial⟩
          · replace hP := hP hc6
            refine im_ld (q := 31) (i := 0) D383_30 rfl rfl rfl ?_
            refine im_bipush (q := 33) D383_31 rfl ?_
            refine im_icmp (q := 36) (t := 42) D383_33 rfl hg1 (by decide) (fun hc7 => ?_) (fun hc7 => ?_)
            · exact (kJ10  (Or.inr (Or.inr (Or.inr (Or.inr (Or.inr (Or.inl ⟨hc2, hc3, hc4, hc5, hc6, hc7⟩))))))).wk ⟨rfl, trivial⟩
            · replace hP := hP hc7
              refine im_ld (q := 37) (i := 0) D383_36 rfl rfl rfl ?_
              refine im_bipush (q := 39) D383_37 rfl ?_
              refine im_icmp (q := 42) (t := 46) D383_39 rfl hg1 (by decide) (fun hc8 => ?_) (fun hc8 => ?_)
              · replace hP := hP hc8
                refine im_iconst (q := 47) D383_46 ?_
                refine im_st1 (q := 48) (i := 1) (L' := [some (vI p0), some (vI 0)]) D383_47 (Or.inl ⟨_, rfl, rfl⟩) (Nat.le_of_ble_eq_true rfl) rfl ?_
                refine im_ld (q := 49) (i := 1) D383_48 rfl rfl rfl ?_
                refine im_ifc (q := 52) (t := 70) D383_49 rfl (by decide) (fun hc => absurd hc (show ¬ (¬ (0 : Int) = 0) by decide)) (fun _ => ?_)
                refine im_ld (q := 53) (i := 0) D383_52 rfl rfl rfl ?_
                refine im_bipush (q := 55) D383_53 rfl ?_
                obtain ⟨hP, hJ17⟩ := hP
                have kJ18 : (((p0 = 43)) ∨ ((¬ p0 = 43) ∧ (p0 = 49)) ∨ ((¬ p0 = 43) ∧ (¬ p0 = 49) ∧ (p0 = 50))) → im_T g d 383 70 [none, none] [] e M K := by
                  intro  hx19
                  have hP := hJ17  hx19
                  refine im_iconst (q := 71) D383_70 ?_
                  refine im_goto (q := 74) (t := 75) D383_71 rfl ?_
                  exact im_zret (q := 76) D383_75 rfl (by decide) hP
                refine im_icmp (q := 58) (t := 70) D383_55 rfl hg1 (by decide) (fun hc14 => ?_) (fun hc14 => ?_)
                · exact (kJ18  (Or.inl hc14)).wk trivial
                · replace hP := hP hc14
                  refine im_ld (q := 59) (i := 0) D383_58 rfl rfl rfl ?_
                  refine im_bipush (q := 61) D383_59 rfl ?_
                  refine im_icmp (q := 64) (t := 70) D383_61 rfl hg1 (by decide) (fun hc15 => ?_) (fun hc15 => ?_)
                  · exact (kJ18  (Or.inr (Or.inl ⟨hc14, hc15⟩))).wk trivial
                  · replace hP := hP hc15
                    refine im_ld (q := 65) (i := 0) D383_64 rfl rfl rfl ?_
                    refine im_bipush (q := 67) D383_65 rfl ?_
                    refine im_icmp (q := 70) (t := 74) D383_67 rfl hg1 (by decide) (fun hc16 => ?_) (fun hc16 => ?_)
                    · replace hP := hP hc16
                      refine im_iconst (q := 75) D383_74 ?_
                      exact im_zret (q := 76) D383_75 rfl (by decide) hP
                    · exact (kJ18  (Or.inr (Or.inr ⟨hc14, hc15, (Decidable.not_not.mp hc16)⟩))).wk trivial
              · exact (kJ10  (Or.inr (Or.inr (Or.inr (Or.inr (Or.inr (Or.inr ⟨hc2, hc3, hc4, hc5, hc6, hc7, (Decidable.not_not.mp hc8)⟩))))))).wk ⟨rfl, trivial⟩

/-! blocks of the reference -/
theorem D279_0 {g : im_g} : im_D g 279 0 (.aload_n 0) 1 := im_D.of (by decide +kernel)
theorem D279_1 {g : im_g} : im_D g 279 1 (.getfield 30) 4 := im_D.of (by decide +kernel)
theorem D279_4 {g : im_g} : im_D g 279 4 (.aload_n 0) 5 := im_D.of (by decide +kernel)
theorem D279_5 {g : im_g} : im_D g 279 5 (.getfield 585) 8 := im_D.of (by decide +kernel)
theorem D279_8 {g : im_g} : im_D g 279 8 (.iaload) 9 := im_D.of (by decide +kernel)
theorem D279_9 {g : im_g} : im_D g 279 9 (.bipush 45) 11 := im_D.of (by decide +kernel)
theorem D279_11 {g : im_g} : im_D g 279 11 (.if_icmp .ne 12) 14 := im_D.of (by decide +kernel)
theorem D279_14 {g : im_g} : im_D g 279 14 (.aload_n 0) 15 := im_D.of (by decide +kernel)
theorem D279_15 {g : im_g} : im_D g 279 15 (.getfield 585) 18 := im_D.of (by decide +kernel)
theorem D279_18 {g : im_g} : im_D g 279 18 (.iconst 1) 19 := im_D.of (by decide +kernel)
theorem D279_19 {g : im_g} : im_D g 279 19 (.iadd) 20 := im_D.of (by decide +kernel)
theorem D279_20 {g : im_g} : im_D g 279 20 (.goto 7) 23 := im_D.of (by decide +kernel)
theorem D279_23 {g : im_g} : im_D g 279 23 (.aload_n 0) 24 := im_D.of (by decide +kernel)
theorem D279_24 {g : im_g} : im_D g 279 24 (.getfield 585) 27 := im_D.of (by decide +kernel)
theorem D279_27 {g : im_g} : im_D g 279 27 (.istore_n 1) 28 := im_D.of (by decide +kernel)
theorem D279_28 {g : im_g} : im_D g 279 28 (.iload_n 1) 29 := im_D.of (by decide +kernel)
theorem D279_29 {g : im_g} : im_D g 279 29 (.aload_n 0) 30 := im_D.of (by decide +kernel)
theorem D279_30 {g : im_g} : im_D g 279 30 (.getfield 588) 33 := im_D.of (by decide +kernel)
theorem D279_33 {g : im_g} : im_D g 279 33 (.if_icmp .ge 7) 36 := im_D.of (by decide +kernel)
theorem D279_36 {g : im_g} : im_D g 279 36 (.iconst 1) 37 := im_D.of (by decide +kernel)
theorem D279_37 {g : im_g} : im_D g 279 37 (.goto 4) 40 := im_D.of (by decide +kernel)
theorem D279_40 {g : im_g} : im_D g 279 40 (.iconst 0) 41 := im_D.of (by decide +kernel)
theorem D279_41 {g : im_g} : im_D g 279 41 (.istore_n 2) 42 := im_D.of (by decide +kernel)
theorem D279_42 {g : im_g} : im_D g 279 42 (.iload_n 1) 43 := im_D.of (by decide +kernel)
theorem D279_43 {g : im_g} : im_D g 279 43 (.istore_n 3) 44 := im_D.of (by decide +kernel)
theorem D279_44 {g : im_g} : im_D g 279 44 (.iload_n 3) 45 := im_D.of (by decide +kernel)
theorem D279_45 {g : im_g} : im_D g 279 45 (.aload_n 0) 46 := im_D.of (by decide +kernel)
theorem D279_46 {g : im_g} : im_D g 279 46 (.getfield 588) 49 := im_D.of (by decide +kernel)
theorem D279_49 {g : im_g} : im_D g 279 49 (.if_icmp .ge 38) 52 := im_D.of (by decide +kernel)
theorem D279_52 {g : im_g} : im_D g 279 52 (.iload_n 2) 53 := im_D.of (by decide +kernel)
theorem D279_53 {g : im_g} : im_D g 279 53 (.ifCond .eq 26) 56 := im_D.of (by decide +kernel)
theorem D279_56 {g : im_g} : im_D g 279 56 (.aload_n 0) 57 := im_D.of (by decide +kernel)
theorem D279_57 {g : im_g} : im_D g 279 57 (.getfield 30) 60 := im_D.of (by decide +kernel)
theorem D279_60 {g : im_g} : im_D g 279 60 (.iload_n 3) 61 := im_D.of (by decide +kernel)
theorem D279_61 {g : im_g} : im_D g 279 61 (.iaload) 62 := im_D.of (by decide +kernel)
theorem D279_62 {g : im_g} : im_D g 279 62 (.i2l) 63 := im_D.of (by decide +kernel)
theorem D279_63 {g : im_g} : im_D g 279 63 (.ldc2_w 581) 66 := im_D.of (by decide +kernel)
theorem D279_66 {g : im_g} : im_D g 279 66 (.ldc2_w 583) 69 := im_D.of (by decide +kernel)
theorem D279_69 {g : im_g} : im_D g 279 69 (.invokestatic 428) 72 := im_D.of (by decide +kernel)
theorem D279_72 {g : im_g} : im_D g 279 72 (.ifCond .eq 7) 75 := im_D.of (by decide +kernel)
theorem D279_75 {g : im_g} : im_D g 279 75 (.iconst 1) 76 := im_D.of (by decide +kernel)
theorem D279_76 {g : im_g} : im_D g 279 76 (.goto 4) 79 := im_D.of (by decide +kernel)
theorem D279_79 {g : im_g} : im_D g 279 79 (.iconst 0) 80 := im_D.of (by decide +kernel)
theorem D279_80 {g : im_g} : im_D g 279 80 (.istore_n 2) 81 := im_D.of (by decide +kernel)
theorem D279_81 {g : im_g} : im_D g 279 81 (.iinc 3 1) 84 := im_D.of (by decide +kernel)
theorem D279_84 {g : im_g} : im_D g 279 84 (.goto (-40)) 87 := im_D.of (by decide +kernel)
theorem D279_87 {g : im_g} : im_D g 279 87 (.iload_n 2) 88 := im_D.of (by decide +kernel)
theorem D279_88 {g : im_g} : im_D g 279 88 (.ifCond .eq 53) 91 := im_D.of (by decide +kernel)
theorem D279_91 {g : im_g} : im_D g 279 91 (.iload_n 1) 92 := im_D.of (by decide +kernel)
theorem D279_92 {g : im_g} : im_D g 279 92 (.istore_n 3) 93 := im_D.of (by decide +kernel)
theorem D279_93 {g : im_g} : im_D g 279 93 (.iload_n 3) 94 := im_D.of (by decide +kernel)
theorem D279_94 {g : im_g} : im_D g 279 94 (.aload_n 0) 95 := im_D.of (by decide +kernel)
theorem D279_95 {g : im_g} : im_D g 279 95 (.getfield 588) 98 := im_D.of (by decide +kernel)
theorem D279_98 {g : im_g} : im_D g 279 98 (.if_icmp .ge 20) 101 := im_D.of (by decide +kernel)
theorem D279_101 {g : im_g} : im_D g 279 101 (.aload_n 0) 102 := im_D.of (by decide +kernel)
theorem D279_102 {g : im_g} : im_D g 279 102 (.getfield 30) 105 := im_D.of (by decide +kernel)
theorem D279_105 {g : im_g} : im_D g 279 105 (.iload_n 3) 106 := im_D.of (by decide +kernel)
theorem D279_106 {g : im_g} : im_D g 279 106 (.iaload) 107 := im_D.of (by decide +kernel)
theorem D279_107 {g : im_g} : im_D g 279 107 (.bipush 48) 109 := im_D.of (by decide +kernel)
theorem D279_109 {g : im_g} : im_D g 279 109 (.if_icmp .ne 9) 112 := im_D.of (by decide +kernel)
theorem D279_112 {g : im_g} : im_D g 279 112 (.iinc 3 1) 115 := im_D.of (by decide +kernel)
theorem D279_115 {g : im_g} : im_D g 279 115 (.goto (-22)) 118 := im_D.of (by decide +kernel)
theorem D279_118 {g : im_g} : im_D g 279 118 (.aload_n 0) 119 := im_D.of (by decide +kernel)
theorem D279_119 {g : im_g} : im_D g 279 119 (.aload_n 0) 120 := im_D.of (by decide +kernel)
theorem D279_120 {g : im_g} : im_D g 279 120 (.getfield 588) 123 := im_D.of (by decide +kernel)
theorem D279_123 {g : im_g} : im_D g 279 123 (.iload_n 3) 124 := im_D.of (by decide +kernel)
theorem D279_124 {g : im_g} : im_D g 279 124 (.isub) 125 := im_D.of (by decide +kernel)
theorem D279_125 {g : im_g} : im_D g 279 125 (.sipush 300) 128 := im_D.of (by decide +kernel)
theorem D279_128 {g : im_g} : im_D g 279 128 (.if_icmp .le 8) 131 := im_D.of (by decide +kernel)
theorem D279_131 {g : im_g} : im_D g 279 131 (.bipush 10) 133 := im_D.of (by decide +kernel)
theorem D279_133 {g : im_g} : im_D g 279 133 (.goto 4) 136 := im_D.of (by decide +kernel)
theorem D279_136 {g : im_g} : im_D g 279 136 (.iconst 1) 137 := im_D.of (by decide +kernel)
theorem D279_137 {g : im_g} : im_D g 279 137 (.putfield 591) 140 := im_D.of (by decide +kernel)
theorem D279_140 {g : im_g} : im_D g 279 140 (.return_) 141 := im_D.of (by decide +kernel)
theorem D279_141 {g : im_g} : im_D g 279 141 (.aload_n 0) 142 := im_D.of (by decide +kernel)
theorem D279_142 {g : im_g} : im_D g 279 142 (.getfield 30) 145 := im_D.of (by decide +kernel)
theorem D279_145 {g : im_g} : im_D g 279 145 (.aload_n 0) 146 := im_D.of (by decide +kernel)
theorem D279_146 {g : im_g} : im_D g 279 146 (.getfield 585) 149 := im_D.of (by decide +kernel)
theorem D279_149 {g : im_g} : im_D g 279 149 (.iaload) 150 := im_D.of (by decide +kernel)
theorem D279_150 {g : im_g} : im_D g 279 150 (.bipush 63) 152 := im_D.of (by decide +kernel)
theorem D279_152 {g : im_g} : im_D g 279 152 (.if_icmp .ne 7) 155 := im_D.of (by decide +kernel)
theorem D279_155 {g : im_g} : im_D g 279 155 (.iconst 1) 156 := im_D.of (by decide +kernel)
theorem D279_156 {g : im_g} : im_D g 279 156 (.goto 4) 159 := im_D.of (by decide +kernel)
theorem D279_159 {g : im_g} : im_D g 279 159 (.iconst 0) 160 := im_D.of (by decide +kernel)
theorem D279_160 {g : im_g} : im_D g 279 160 (.istore_n 3) 161 := im_D.of (by decide +kernel)
theorem D279_161 {g : im_g} : im_D g 279 161 (.aload_n 0) 162 := im_D.of (by decide +kernel)
theorem D279_162 {g : im_g} : im_D g 279 162 (.aload_n 0) 163 := im_D.of (by decide +kernel)
theorem D279_163 {g : im_g} : im_D g 279 163 (.iload_n 3) 164 := im_D.of (by decide +kernel)
theorem D279_164 {g : im_g} : im_D g 279 164 (.ifCond .eq 12) 167 := im_D.of (by decide +kernel)
theorem D279_167 {g : im_g} : im_D g 279 167 (.aload_n 0) 168 := im_D.of (by decide +kernel)
theorem D279_168 {g : im_g} : im_D g 279 168 (.getfield 585) 171 := im_D.of (by decide +kernel)
theorem D279_171 {g : im_g} : im_D g 279 171 (.iconst 1) 172 := im_D.of (by decide +kernel)
theorem D279_172 {g : im_g} : im_D g 279 172 (.iadd) 173 := im_D.of (by decide +kernel)
theorem D279_173 {g : im_g} : im_D g 279 173 (.goto 7) 176 := im_D.of (by decide +kernel)
theorem D279_176 {g : im_g} : im_D g 279 176 (.aload_n 0) 177 := im_D.of (by decide +kernel)
theorem D279_177 {g : im_g} : im_D g 279 177 (.getfield 585) 180 := im_D.of (by decide +kernel)
theorem D279_180 {g : im_g} : im_D g 279 180 (.aload_n 0) 181 := im_D.of (by decide +kernel)
theorem D279_181 {g : im_g} : im_D g 279 181 (.getfield 588) 184 := im_D.of (by decide +kernel)
theorem D279_184 {g : im_g} : im_D g 279 184 (.invokevirtual 594) 187 := im_D.of (by decide +kernel)
theorem D279_187 {g : im_g} : im_D g 279 187 (.putfield 597) 190 := im_D.of (by decide +kernel)
theorem D279_190 {g : im_g} : im_D g 279 190 (.aload_n 0) 191 := im_D.of (by decide +kernel)
theorem D279_191 {g : im_g} : im_D g 279 191 (.getfield 597) 194 := im_D.of (by decide +kernel)
theorem D279_194 {g : im_g} : im_D g 279 194 (.invokestatic 573) 197 := im_D.of (by decide +kernel)
theorem D279_197 {g : im_g} : im_D g 279 197 (.istore 4) 199 := im_D.of (by decide +kernel)
theorem D279_199 {g : im_g} : im_D g 279 199 (.aload_n 0) 200 := im_D.of (by decide +kernel)
theorem D279_200 {g : im_g} : im_D g 279 200 (.aload_n 0) 201 := im_D.of (by decide +kernel)
theorem D279_201 {g : im_g} : im_D g 279 201 (.getfield 597) 204 := im_D.of (by decide +kernel)
theorem D279_204 {g : im_g} : im_D g 279 204 (.lconst 0) 205 := im_D.of (by decide +kernel)
theorem D279_205 {g : im_g} : im_D g 279 205 (.lcmp) 206 := im_D.of (by decide +kernel)
theorem D279_206 {g : im_g} : im_D g 279 206 (.ifCond .eq 12) 209 := im_D.of (by decide +kernel)
theorem D279_209 {g : im_g} : im_D g 279 209 (.iload_n 3) 210 := im_D.of (by decide +kernel)
theorem D279_210 {g : im_g} : im_D g 279 210 (.ifCond .eq 13) 213 := im_D.of (by decide +kernel)
theorem D279_213 {g : im_g} : im_D g 279 213 (.iload 4) 215 := im_D.of (by decide +kernel)
theorem D279_215 {g : im_g} : im_D g 279 215 (.ifCond .eq 8) 218 := im_D.of (by decide +kernel)
theorem D279_218 {g : im_g} : im_D g 279 218 (.bipush 9) 220 := im_D.of (by decide +kernel)
theorem D279_220 {g : im_g} : im_D g 279 220 (.goto 21) 223 := im_D.of (by decide +kernel)
theorem D279_223 {g : im_g} : im_D g 279 223 (.iload_n 3) 224 := im_D.of (by decide +kernel)
theorem D279_224 {g : im_g} : im_D g 279 224 (.ifCond .eq 7) 227 := im_D.of (by decide +kernel)
theorem D279_227 {g : im_g} : im_D g 279 227 (.iconst 4) 228 := im_D.of (by decide +kernel)
theorem D279_228 {g : im_g} : im_D g 279 228 (.goto 13) 231 := im_D.of (by decide +kernel)
theorem D279_231 {g : im_g} : im_D g 279 231 (.iload 4) 233 := im_D.of (by decide +kernel)
theorem D279_233 {g : im_g} : im_D g 279 233 (.ifCond .eq 7) 236 := im_D.of (by decide +kernel)
theorem D279_236 {g : im_g} : im_D g 279 236 (.iconst 2) 237 := im_D.of (by decide +kernel)
theorem D279_237 {g : im_g} : im_D g 279 237 (.goto 4) 240 := im_D.of (by decide +kernel)
theorem D279_240 {g : im_g} : im_D g 279 240 (.iconst 3) 241 := im_D.of (by decide +kernel)
theorem D279_241 {g : im_g} : im_D g 279 241 (.putfield 591) 244 := im_D.of (by decide +kernel)
theorem D279_244 {g : im_g} : im_D g 279 244 (.return_) 245 := im_D.of (by decide +kernel)
theorem D280_0 {g : im_g} : im_D g 280 0 (.iload_n 2) 1 := im_D.of (by decide +kernel)
theorem D280_1 {g : im_g} : im_D g 280 1 (.iload_n 1) 2 := im_D.of (by decide +kernel)
theorem D280_2 {g : im_g} : im_D g 280 2 (.isub) 3 := im_D.of (by decide +kernel)
theorem D280_3 {g : im_g} : im_D g 280 3 (.iconst 1) 4 := im_D.of (by decide +kernel)
theorem D280_4 {g : im_g} : im_D g 280 4 (.if_icmp .lt 30) 7 := im_D.of (by decide +kernel)
theorem D280_7 {g : im_g} : im_D g 280 7 (.iload_n 2) 8 := im_D.of (by decide +kernel)
theorem D280_8 {g : im_g} : im_D g 280 8 (.iload_n 1) 9 := im_D.of (by decide +kernel)
theorem D280_9 {g : im_g} : im_D g 280 9 (.isub) 10 := im_D.of (by decide +kernel)
theorem D280_10 {g : im_g} : im_D g 280 10 (.bipush 8) 12 := im_D.of (by decide +kernel)
theorem D280_12 {g : im_g} : im_D g 280 12 (.if_icmp .gt 22) 15 := im_D.of (by decide +kernel)
theorem D280_15 {g : im_g} : im_D g 280 15 (.aload_n 0) 16 := im_D.of (by decide +kernel)
theorem D280_16 {g : im_g} : im_D g 280 16 (.getfield 30) 19 := im_D.of (by decide +kernel)
theorem D280_19 {g : im_g} : im_D g 280 19 (.iload_n 1) 20 := im_D.of (by decide +kernel)
theorem D280_20 {g : im_g} : im_D g 280 20 (.iaload) 21 := im_D.of (by decide +kernel)
theorem D280_21 {g : im_g} : im_D g 280 21 (.i2l) 22 := im_D.of (by decide +kernel)
theorem D280_22 {g : im_g} : im_D g 280 22 (.ldc2_w 577) 25 := im_D.of (by decide +kernel)
theorem D280_25 {g : im_g} : im_D g 280 25 (.ldc2_w 579) 28 := im_D.of (by decide +kernel)
theorem D280_28 {g : im_g} : im_D g 280 28 (.invokestatic 428) 31 := im_D.of (by decide +kernel)
theorem D280_31 {g : im_g} : im_D g 280 31 (.ifCond .ne 5) 34 := im_D.of (by decide +kernel)
theorem D280_34 {g : im_g} : im_D g 280 34 (.lconst 0) 35 := im_D.of (by decide +kernel)
theorem D280_35 {g : im_g} : im_D g 280 35 (.lreturn) 36 := im_D.of (by decide +kernel)
theorem D280_36 {g : im_g} : im_D g 280 36 (.lconst 0) 37 := im_D.of (by decide +kernel)
theorem D280_37 {g : im_g} : im_D g 280 37 (.lstore_n 3) 38 := im_D.of (by decide +kernel)
theorem D280_38 {g : im_g} : im_D g 280 38 (.iload_n 1) 39 := im_D.of (by decide +kernel)
theorem D280_39 {g : im_g} : im_D g 280 39 (.istore 5) 41 := im_D.of (by decide +kernel)
theorem D280_41 {g : im_g} : im_D g 280 41 (.iload 5) 43 := im_D.of (by decide +kernel)
theorem D280_43 {g : im_g} : im_D g 280 43 (.iload_n 2) 44 := im_D.of (by decide +kernel)
theorem D280_44 {g : im_g} : im_D g 280 44 (.if_icmp .ge 65) 47 := im_D.of (by decide +kernel)
theorem D280_47 {g : im_g} : im_D g 280 47 (.aload_n 0) 48 := im_D.of (by decide +kernel)
theorem D280_48 {g : im_g} : im_D g 280 48 (.getfield 30) 51 := im_D.of (by decide +kernel)
theorem D280_51 {g : im_g} : im_D g 280 51 (.iload 5) 53 := im_D.of (by decide +kernel)
theorem D280_53 {g : im_g} : im_D g 280 53 (.iaload) 54 := im_D.of (by decide +kernel)
theorem D280_54 {g : im_g} : im_D g 280 54 (.i2l) 55 := im_D.of (by decide +kernel)
theorem D280_55 {g : im_g} : im_D g 280 55 (.ldc2_w 577) 58 := im_D.of (by decide +kernel)
theorem D280_58 {g : im_g} : im_D g 280 58 (.ldc2_w 579) 61 := im_D.of (by decide +kernel)
theorem D280_61 {g : im_g} : im_D g 280 61 (.invokestatic 428) 64 := im_D.of (by decide +kernel)
theorem D280_64 {g : im_g} : im_D g 280 64 (.ifCond .ne 25) 67 := im_D.of (by decide +kernel)
theorem D280_67 {g : im_g} : im_D g 280 67 (.aload_n 0) 68 := im_D.of (by decide +kernel)
theorem D280_68 {g : im_g} : im_D g 280 68 (.getfield 30) 71 := im_D.of (by decide +kernel)
theorem D280_71 {g : im_g} : im_D g 280 71 (.iload 5) 73 := im_D.of (by decide +kernel)
theorem D280_73 {g : im_g} : im_D g 280 73 (.iaload) 74 := im_D.of (by decide +kernel)
theorem D280_74 {g : im_g} : im_D g 280 74 (.i2l) 75 := im_D.of (by decide +kernel)
theorem D280_75 {g : im_g} : im_D g 280 75 (.ldc2_w 581) 78 := im_D.of (by decide +kernel)
theorem D280_78 {g : im_g} : im_D g 280 78 (.ldc2_w 583) 81 := im_D.of (by decide +kernel)
theorem D280_81 {g : im_g} : im_D g 280 81 (.invokestatic 428) 84 := im_D.of (by decide +kernel)
theorem D280_84 {g : im_g} : im_D g 280 84 (.ifCond .ne 5) 87 := im_D.of (by decide +kernel)
theorem D280_87 {g : im_g} : im_D g 280 87 (.lconst 0) 88 := im_D.of (by decide +kernel)
theorem D280_88 {g : im_g} : im_D g 280 88 (.lreturn) 89 := im_D.of (by decide +kernel)
theorem D280_89 {g : im_g} : im_D g 280 89 (.lload_n 3) 90 := im_D.of (by decide +kernel)
theorem D280_90 {g : im_g} : im_D g 280 90 (.bipush 8) 92 := im_D.of (by decide +kernel)
theorem D280_92 {g : im_g} : im_D g 280 92 (.lshl) 93 := im_D.of (by decide +kernel)
theorem D280_93 {g : im_g} : im_D g 280 93 (.aload_n 0) 94 := im_D.of (by decide +kernel)
theorem D280_94 {g : im_g} : im_D g 280 94 (.getfield 30) 97 := im_D.of (by decide +kernel)
theorem D280_97 {g : im_g} : im_D g 280 97 (.iload 5) 99 := im_D.of (by decide +kernel)
theorem D280_99 {g : im_g} : im_D g 280 99 (.iaload) 100 := im_D.of (by decide +kernel)
theorem D280_100 {g : im_g} : im_D g 280 100 (.i2l) 101 := im_D.of (by decide +kernel)
theorem D280_101 {g : im_g} : im_D g 280 101 (.lor) 102 := im_D.of (by decide +kernel)
theorem D280_102 {g : im_g} : im_D g 280 102 (.lstore_n 3) 103 := im_D.of (by decide +kernel)
theorem D280_103 {g : im_g} : im_D g 280 103 (.iinc 5 1) 106 := im_D.of (by decide +kernel)
theorem D280_106 {g : im_g} : im_D g 280 106 (.goto (-65)) 109 := im_D.of (by decide +kernel)
theorem D280_109 {g : im_g} : im_D g 280 109 (.lload_n 3) 110 := im_D.of (by decide +kernel)
theorem D280_110 {g : im_g} : im_D g 280 110 (.lreturn) 111 := im_D.of (by decide +kernel)
theorem D281_0 {g : im_g} : im_D g 281 0 (.lload_n 0) 1 := im_D.of (by decide +kernel)
theorem D281_1 {g : im_g} : im_D g 281 1 (.ldc2_w 505) 4 := im_D.of (by decide +kernel)
theorem D281_4 {g : im_g} : im_D g 281 4 (.lcmp) 5 := im_D.of (by decide +kernel)
theorem D281_5 {g : im_g} : im_D g 281 5 (.ifCond .eq 91) 8 := im_D.of (by decide +kernel)
theorem D281_8 {g : im_g} : im_D g 281 8 (.lload_n 0) 9 := im_D.of (by decide +kernel)
theorem D281_9 {g : im_g} : im_D g 281 9 (.ldc2_w 507) 12 := im_D.of (by decide +kernel)
theorem D281_12 {g : im_g} : im_D g 281 12 (.lcmp) 13 := im_D.of (by decide +kernel)
theorem D281_13 {g : im_g} : im_D g 281 13 (.ifCond .eq 83) 16 := im_D.of (by decide +kernel)
theorem D281_16 {g : im_g} : im_D g 281 16 (.lload_n 0) 17 := im_D.of (by decide +kernel)
theorem D281_17 {g : im_g} : im_D g 281 17 (.ldc2_w 509) 20 := im_D.of (by decide +kernel)
theorem D281_20 {g : im_g} : im_D g 281 20 (.lcmp) 21 := im_D.of (by decide +kernel)
theorem D281_21 {g : im_g} : im_D g 281 21 (.ifCond .eq 75) 24 := im_D.of (by decide +kernel)
theorem D281_24 {g : im_g} : im_D g 281 24 (.lload_n 0) 25 := im_D.of (by decide +kernel)
theorem D281_25 {g : im_g} : im_D g 281 25 (.ldc2_w 511) 28 := im_D.of (by decide +kernel)
theorem D281_28 {g : im_g} : im_D g 281 28 (.lcmp) 29 := im_D.of (by decide +kernel)
theorem D281_29 {g : im_g} : im_D g 281 29 (.ifCond .eq 67) 32 := im_D.of (by decide +kernel)
theorem D281_32 {g : im_g} : im_D g 281 32 (.lload_n 0) 33 := im_D.of (by decide +kernel)
theorem D281_33 {g : im_g} : im_D g 281 33 (.ldc2_w 513) 36 := im_D.of (by decide +kernel)
theorem D281_36 {g : im_g} : im_D g 281 36 (.lcmp) 37 := im_D.of (by decide +kernel)
theorem D281_37 {g : im_g} : im_D g 281 37 (.ifCond .eq 59) 40 := im_D.of (by decide +kernel)
theorem D281_40 {g : im_g} : im_D g 281 40 (.lload_n 0) 41 := im_D.of (by decide +kernel)
theorem D281_41 {g : im_g} : im_D g 281 41 (.ldc2_w 515) 44 := im_D.of (by decide +kernel)
theorem D281_44 {g : im_g} : im_D g 281 44 (.lcmp) 45 := im_D.of (by decide +kernel)
theorem D281_45 {g : im_g} : im_D g 281 45 (.ifCond .eq 51) 48 := im_D.of (by decide +kernel)
theorem D281_48 {g : im_g} : im_D g 281 48 (.lload_n 0) 49 := im_D.of (by decide +kernel)
theorem D281_49 {g : im_g} : im_D g 281 49 (.ldc2_w 517) 52 := im_D.of (by decide +kernel)
theorem D281_52 {g : im_g} : im_D g 281 52 (.lcmp) 53 := im_D.of (by decide +kernel)
theorem D281_53 {g : im_g} : im_D g 281 53 (.ifCond .eq 43) 56 := im_D.of (by decide +kernel)
theorem D281_56 {g : im_g} : im_D g 281 56 (.lload_n 0) 57 := im_D.of (by decide +kernel)
theorem D281_57 {g : im_g} : im_D g 281 57 (.ldc2_w 519) 60 := im_D.of (by decide +kernel)
theorem D281_60 {g : im_g} : im_D g 281 60 (.lcmp) 61 := im_D.of (by decide +kernel)
theorem D281_61 {g : im_g} : im_D g 281 61 (.ifCond .eq 35) 64 := im_D.of (by decide +kernel)
theorem D281_64 {g : im_g} : im_D g 281 64 (.lload_n 0) 65 := im_D.of (by decide +kernel)
theorem D281_65 {g : im_g} : im_D g 281 65 (.ldc2_w 521) 68 := im_D.of (by decide +kernel)
theorem D281_68 {g : im_g} : im_D g 281 68 (.lcmp) 69 := im_D.of (by decide +kernel)
theorem D281_69 {g : im_g} : im_D g 281 69 (.ifCond .eq 27) 72 := im_D.of (by decide +kernel)
theorem D281_72 {g : im_g} : im_D g 281 72 (.lload_n 0) 73 := im_D.of (by decide +kernel)
theorem D281_73 {g : im_g} : im_D g 281 73 (.ldc2_w 523) 76 := im_D.of (by decide +kernel)
theorem D281_76 {g : im_g} : im_D g 281 76 (.lcmp) 77 := im_D.of (by decide +kernel)
theorem D281_77 {g : im_g} : im_D g 281 77 (.ifCond .eq 19) 80 := im_D.of (by decide +kernel)
theorem D281_80 {g : im_g} : im_D g 281 80 (.lload_n 0) 81 := im_D.of (by decide +kernel)
theorem D281_81 {g : im_g} : im_D g 281 81 (.ldc2_w 525) 84 := im_D.of (by decide +kernel)
theorem D281_84 {g : im_g} : im_D g 281 84 (.lcmp) 85 := im_D.of (by decide +kernel)
theorem D281_85 {g : im_g} : im_D g 281 85 (.ifCond .eq 11) 88 := im_D.of (by decide +kernel)
theorem D281_88 {g : im_g} : im_D g 281 88 (.lload_n 0) 89 := im_D.of (by decide +kernel)
theorem D281_89 {g : im_g} : im_D g 281 89 (.ldc2_w 527) 92 := im_D.of (by decide +kernel)
theorem D281_92 {g : im_g} : im_D g 281 92 (.lcmp) 93 := im_D.of (by decide +kernel)
theorem D281_93 {g : im_g} : im_D g 281 93 (.ifCond .ne 7) 96 := im_D.of (by decide +kernel)
theorem D281_96 {g : im_g} : im_D g 281 96 (.iconst 1) 97 := im_D.of (by decide +kernel)
theorem D281_97 {g : im_g} : im_D g 281 97 (.goto 4) 100 := im_D.of (by decide +kernel)
theorem D281_100 {g : im_g} : im_D g 281 100 (.iconst 0) 101 := im_D.of (by decide +kernel)
theorem D281_101 {g : im_g} : im_D g 281 101 (.istore_n 2) 102 := im_D.of (by decide +kernel)
theorem D281_102 {g : im_g} : im_D g 281 102 (.lload_n 0) 103 := im_D.of (by decide +kernel)
theorem D281_103 {g : im_g} : im_D g 281 103 (.ldc2_w 529) 106 := im_D.of (by decide +kernel)
theorem D281_106 {g : im_g} : im_D g 281 106 (.lcmp) 107 := im_D.of (by decide +kernel)
theorem D281_107 {g : im_g} : im_D g 281 107 (.ifCond .eq 83) 110 := im_D.of (by decide +kernel)
theorem D281_110 {g : im_g} : im_D g 281 110 (.lload_n 0) 111 := im_D.of (by decide +kernel)
theorem D281_111 {g : im_g} : im_D g 281 111 (.ldc2_w 531) 114 := im_D.of (by decide +kernel)
theorem D281_114 {g : im_g} : im_D g 281 114 (.lcmp) 115 := im_D.of (by decide +kernel)
theorem D281_115 {g : im_g} : im_D g 281 115 (.ifCond .eq 75) 118 := im_D.of (by decide +kernel)
theorem D281_118 {g : im_g} : im_D g 281 118 (.lload_n 0) 119 := im_D.of (by decide +kernel)
theorem D281_119 {g : im_g} : im_D g 281 119 (.ldc2_w 533) 122 := im_D.of (by decide +kernel)
theorem D281_122 {g : im_g} : im_D g 281 122 (.lcmp) 123 := im_D.of (by decide +kernel)
theorem D281_123 {g : im_g} : im_D g 281 123 (.ifCond .eq 67) 126 := im_D.of (by decide +kernel)
theorem D281_126 {g : im_g} : im_D g 281 126 (.lload_n 0) 127 := im_D.of (by decide +kernel)
theorem D281_127 {g : im_g} : im_D g 281 127 (.ldc2_w 535) 130 := im_D.of (by decide +kernel)
theorem D281_130 {g : im_g} : im_D g 281 130 (.lcmp) 131 := im_D.of (by decide +kernel)
theorem D281_131 {g : im_g} : im_D g 281 131 (.ifCond .eq 59) 134 := im_D.of (by decide +kernel)
theorem D281_134 {g : im_g} : im_D g 281 134 (.lload_n 0) 135 := im_D.of (by decide +kernel)
theorem D281_135 {g : im_g} : im_D g 281 135 (.ldc2_w 537) 138 := im_D.of (by decide +kernel)
theorem D281_138 {g : im_g} : im_D g 281 138 (.lcmp) 139 := im_D.of (by decide +kernel)
theorem D281_139 {g : im_g} : im_D g 281 139 (.ifCond .eq 51) 142 := im_D.of (by decide +kernel)
theorem D281_142 {g : im_g} : im_D g 281 142 (.lload_n 0) 143 := im_D.of (by decide +kernel)
theorem D281_143 {g : im_g} : im_D g 281 143 (.ldc2_w 539) 146 := im_D.of (by decide +kernel)
theorem D281_146 {g : im_g} : im_D g 281 146 (.lcmp) 147 := im_D.of (by decide +kernel)
theorem D281_147 {g : im_g} : im_D g 281 147 (.ifCond .eq 43) 150 := im_D.of (by decide +kernel)
theorem D281_150 {g : im_g} : im_D g 281 150 (.lload_n 0) 151 := im_D.of (by decide +kernel)
theorem D281_151 {g : im_g} : im_D g 281 151 (.ldc2_w 541) 154 := im_D.of (by decide +kernel)
theorem D281_154 {g : im_g} : im_D g 281 154 (.lcmp) 155 := im_D.of (by decide +kernel)
theorem D281_155 {g : im_g} : im_D g 281 155 (.ifCond .eq 35) 158 := im_D.of (by decide +kernel)
theorem D281_158 {g : im_g} : im_D g 281 158 (.lload_n 0) 159 := im_D.of (by decide +kernel)
theorem D281_159 {g : im_g} : im_D g 281 159 (.ldc2_w 543) 162 := im_D.of (by decide +kernel)
theorem D281_162 {g : im_g} : im_D g 281 162 (.lcmp) 163 := im_D.of (by decide +kernel)
theorem D281_163 {g : im_g} : im_D g 281 163 (.ifCond .eq 27) 166 := im_D.of (by decide +kernel)
theorem D281_166 {g : im_g} : im_D g 281 166 (.lload_n 0) 167 := im_D.of (by decide +kernel)
theorem D281_167 {g : im_g} : im_D g 281 167 (.ldc2_w 545) 170 := im_D.of (by decide +kernel)
theorem D281_170 {g : im_g} : im_D g 281 170 (.lcmp) 171 := im_D.of (by decide +kernel)
theorem D281_171 {g : im_g} : im_D g 281 171 (.ifCond .eq 19) 174 := im_D.of (by decide +kernel)
theorem D281_174 {g : im_g} : im_D g 281 174 (.lload_n 0) 175 := im_D.of (by decide +kernel)
theorem D281_175 {g : im_g} : im_D g 281 175 (.ldc2_w 547) 178 := im_D.of (by decide +kernel)
theorem D281_178 {g : im_g} : im_D g 281 178 (.lcmp) 179 := im_D.of (by decide +kernel)
theorem D281_179 {g : im_g} : im_D g 281 179 (.ifCond .eq 11) 182 := im_D.of (by decide +kernel)
theorem D281_182 {g : im_g} : im_D g 281 182 (.lload_n 0) 183 := im_D.of (by decide +kernel)
theorem D281_183 {g : im_g} : im_D g 281 183 (.ldc2_w 549) 186 := im_D.of (by decide +kernel)
theorem D281_186 {g : im_g} : im_D g 281 186 (.lcmp) 187 := im_D.of (by decide +kernel)
theorem D281_187 {g : im_g} : im_D g 281 187 (.ifCond .ne 7) 190 := im_D.of (by decide +kernel)
theorem D281_190 {g : im_g} : im_D g 281 190 (.iconst 1) 191 := im_D.of (by decide +kernel)
theorem D281_191 {g : im_g} : im_D g 281 191 (.goto 4) 194 := im_D.of (by decide +kernel)
theorem D281_194 {g : im_g} : im_D g 281 194 (.iconst 0) 195 := im_D.of (by decide +kernel)
theorem D281_195 {g : im_g} : im_D g 281 195 (.istore_n 3) 196 := im_D.of (by decide +kernel)
theorem D281_196 {g : im_g} : im_D g 281 196 (.iload_n 2) 197 := im_D.of (by decide +kernel)
theorem D281_197 {g : im_g} : im_D g 281 197 (.ifCond .ne 95) 200 := im_D.of (by decide +kernel)
theorem D281_200 {g : im_g} : im_D g 281 200 (.iload_n 3) 201 := im_D.of (by decide +kernel)
theorem D281_201 {g : im_g} : im_D g 281 201 (.ifCond .ne 91) 204 := im_D.of (by decide +kernel)
theorem D281_204 {g : im_g} : im_D g 281 204 (.lload_n 0) 205 := im_D.of (by decide +kernel)
theorem D281_205 {g : im_g} : im_D g 281 205 (.ldc2_w 551) 208 := im_D.of (by decide +kernel)
theorem D281_208 {g : im_g} : im_D g 281 208 (.lcmp) 209 := im_D.of (by decide +kernel)
theorem D281_209 {g : im_g} : im_D g 281 209 (.ifCond .eq 83) 212 := im_D.of (by decide +kernel)
theorem D281_212 {g : im_g} : im_D g 281 212 (.lload_n 0) 213 := im_D.of (by decide +kernel)
theorem D281_213 {g : im_g} : im_D g 281 213 (.ldc2_w 553) 216 := im_D.of (by decide +kernel)
theorem D281_216 {g : im_g} : im_D g 281 216 (.lcmp) 217 := im_D.of (by decide +kernel)
theorem D281_217 {g : im_g} : im_D g 281 217 (.ifCond .eq 75) 220 := im_D.of (by decide +kernel)
theorem D281_220 {g : im_g} : im_D g 281 220 (.lload_n 0) 221 := im_D.of (by decide +kernel)
theorem D281_221 {g : im_g} : im_D g 281 221 (.ldc2_w 555) 224 := im_D.of (by decide +kernel)
theorem D281_224 {g : im_g} : im_D g 281 224 (.lcmp) 225 := im_D.of (by decide +kernel)
theorem D281_225 {g : im_g} : im_D g 281 225 (.ifCond .eq 67) 228 := im_D.of (by decide +kernel)
theorem D281_228 {g : im_g} : im_D g 281 228 (.lload_n 0) 229 := im_D.of (by decide +kernel)
theorem D281_229 {g : im_g} : im_D g 281 229 (.ldc2_w 557) 232 := im_D.of (by decide +kernel)
theorem D281_232 {g : im_g} : im_D g 281 232 (.lcmp) 233 := im_D.of (by decide +kernel)
theorem D281_233 {g : im_g} : im_D g 281 233 (.ifCond .eq 59) 236 := im_D.of (by decide +kernel)
theorem D281_236 {g : im_g} : im_D g 281 236 (.lload_n 0) 237 := im_D.of (by decide +kernel)
theorem D281_237 {g : im_g} : im_D g 281 237 (.ldc2_w 559) 240 := im_D.of (by decide +kernel)
theorem D281_240 {g : im_g} : im_D g 281 240 (.lcmp) 241 := im_D.of (by decide +kernel)
theorem D281_241 {g : im_g} : im_D g 281 241 (.ifCond .eq 51) 244 := im_D.of (by decide +kernel)
theorem D281_244 {g : im_g} : im_D g 281 244 (.lload_n 0) 245 := im_D.of (by decide +kernel)
theorem D281_245 {g : im_g} : im_D g 281 245 (.ldc2_w 561) 248 := im_D.of (by decide +kernel)
theorem D281_248 {g : im_g} : im_D g 281 248 (.lcmp) 249 := im_D.of (by decide +kernel)
theorem D281_249 {g : im_g} : im_D g 281 249 (.ifCond .eq 43) 252 := im_D.of (by decide +kernel)
theorem D281_252 {g : im_g} : im_D g 281 252 (.lload_n 0) 253 := im_D.of (by decide +kernel)
theorem D281_253 {g : im_g} : im_D g 281 253 (.ldc2_w 563) 256 := im_D.of (by decide +kernel)
theorem D281_256 {g : im_g} : im_D g 281 256 (.lcmp) 257 := im_D.of (by decide +kernel)
theorem D281_257 {g : im_g} : im_D g 281 257 (.ifCond .eq 35) 260 := im_D.of (by decide +kernel)
theorem D281_260 {g : im_g} : im_D g 281 260 (.lload_n 0) 261 := im_D.of (by decide +kernel)
theorem D281_261 {g : im_g} : im_D g 281 261 (.ldc2_w 565) 264 := im_D.of (by decide +kernel)
theorem D281_264 {g : im_g} : im_D g 281 264 (.lcmp) 265 := im_D.of (by decide +kernel)
theorem D281_265 {g : im_g} : im_D g 281 265 (.ifCond .eq 27) 268 := im_D.of (by decide +kernel)
theorem D281_268 {g : im_g} : im_D g 281 268 (.lload_n 0) 269 := im_D.of (by decide +kernel)
theorem D281_269 {g : im_g} : im_D g 281 269 (.ldc2_w 567) 272 := im_D.of (by decide +kernel)
theorem D281_272 {g : im_g} : im_D g 281 272 (.lcmp) 273 := im_D.of (by decide +kernel)
theorem D281_273 {g : im_g} : im_D g 281 273 (.ifCond .eq 19) 276 := im_D.of (by decide +kernel)
theorem D281_276 {g : im_g} : im_D g 281 276 (.lload_n 0) 277 := im_D.of (by decide +kernel)
theorem D281_277 {g : im_g} : im_D g 281 277 (.ldc2_w 569) 280 := im_D.of (by decide +kernel)
theorem D281_280 {g : im_g} : im_D g 281 280 (.lcmp) 281 := im_D.of (by decide +kernel)
theorem D281_281 {g : im_g} : im_D g 281 281 (.ifCond .eq 11) 284 := im_D.of (by decide +kernel)
theorem D281_284 {g : im_g} : im_D g 281 284 (.lload_n 0) 285 := im_D.of (by decide +kernel)
theorem D281_285 {g : im_g} : im_D g 281 285 (.ldc2_w 571) 288 := im_D.of (by decide +kernel)
theorem D281_288 {g : im_g} : im_D g 281 288 (.lcmp) 289 := im_D.of (by decide +kernel)
theorem D281_289 {g : im_g} : im_D g 281 289 (.ifCond .ne 7) 292 := im_D.of (by decide +kernel)
theorem D281_292 {g : im_g} : im_D g 281 292 (.iconst 1) 293 := im_D.of (by decide +kernel)
theorem D281_293 {g : im_g} : im_D g 281 293 (.goto 4) 296 := im_D.of (by decide +kernel)
theorem D281_296 {g : im_g} : im_D g 281 296 (.iconst 0) 297 := im_D.of (by decide +kernel)
theorem D281_297 {g : im_g} : im_D g 281 297 (.ireturn) 298 := im_D.of (by decide +kernel)
theorem D282_0 {g : im_g} : im_D g 282 0 (.aload_n 0) 1 := im_D.of (by decide +kernel)
theorem D282_1 {g : im_g} : im_D g 282 1 (.aload_n 0) 2 := im_D.of (by decide +kernel)
theorem D282_2 {g : im_g} : im_D g 282 2 (.getfield 588) 5 := im_D.of (by decide +kernel)
theorem D282_5 {g : im_g} : im_D g 282 5 (.putfield 601) 8 := im_D.of (by decide +kernel)
theorem D282_8 {g : im_g} : im_D g 282 8 (.return_) 9 := im_D.of (by decide +kernel)
theorem D283_0 {g : im_g} : im_D g 283 0 (.aload_n 0) 1 := im_D.of (by decide +kernel)
theorem D283_1 {g : im_g} : im_D g 283 1 (.getfield 591) 4 := im_D.of (by decide +kernel)
theorem D283_4 {g : im_g} : im_D g 283 4 (.iconst 2) 5 := im_D.of (by decide +kernel)
theorem D283_5 {g : im_g} : im_D g 283 5 (.if_icmp .ne 13) 8 := im_D.of (by decide +kernel)
theorem D283_8 {g : im_g} : im_D g 283 8 (.aload_n 0) 9 := im_D.of (by decide +kernel)
theorem D283_9 {g : im_g} : im_D g 283 9 (.getfield 597) 12 := im_D.of (by decide +kernel)
theorem D283_12 {g : im_g} : im_D g 283 12 (.invokestatic 635) 15 := im_D.of (by decide +kernel)
theorem D283_15 {g : im_g} : im_D g 283 15 (.goto 4) 18 := im_D.of (by decide +kernel)
theorem D283_18 {g : im_g} : im_D g 283 18 (.iconst 0) 19 := im_D.of (by decide +kernel)
theorem D283_19 {g : im_g} : im_D g 283 19 (.istore 4) 21 := im_D.of (by decide +kernel)
theorem D283_21 {g : im_g} : im_D g 283 21 (.iload 4) 23 := im_D.of (by decide +kernel)
theorem D283_23 {g : im_g} : im_D g 283 23 (.ifCond .ne 8) 26 := im_D.of (by decide +kernel)
theorem D283_26 {g : im_g} : im_D g 283 26 (.aload_n 0) 27 := im_D.of (by decide +kernel)
theorem D283_27 {g : im_g} : im_D g 283 27 (.invokevirtual 639) 30 := im_D.of (by decide +kernel)
theorem D283_30 {g : im_g} : im_D g 283 30 (.return_) 31 := im_D.of (by decide +kernel)
theorem D283_31 {g : im_g} : im_D g 283 31 (.aload_n 0) 32 := im_D.of (by decide +kernel)
theorem D283_32 {g : im_g} : im_D g 283 32 (.iload 4) 34 := im_D.of (by decide +kernel)
theorem D283_34 {g : im_g} : im_D g 283 34 (.iload_n 3) 35 := im_D.of (by decide +kernel)
theorem D283_35 {g : im_g} : im_D g 283 35 (.invokevirtual 642) 38 := im_D.of (by decide +kernel)
theorem D283_38 {g : im_g} : im_D g 283 38 (.istore 5) 40 := im_D.of (by decide +kernel)
theorem D283_40 {g : im_g} : im_D g 283 40 (.iload 5) 42 := im_D.of (by decide +kernel)
theorem D283_42 {g : im_g} : im_D g 283 42 (.iconst (-1)) 43 := im_D.of (by decide +kernel)
theorem D283_43 {g : im_g} : im_D g 283 43 (.if_icmp .ne 4) 46 := im_D.of (by decide +kernel)
theorem D283_46 {g : im_g} : im_D g 283 46 (.return_) 47 := im_D.of (by decide +kernel)
theorem D283_47 {g : im_g} : im_D g 283 47 (.aload_n 0) 48 := im_D.of (by decide +kernel)
theorem D283_48 {g : im_g} : im_D g 283 48 (.iload_n 1) 49 := im_D.of (by decide +kernel)
theorem D283_49 {g : im_g} : im_D g 283 49 (.iload_n 2) 50 := im_D.of (by decide +kernel)
theorem D283_50 {g : im_g} : im_D g 283 50 (.iload 5) 52 := im_D.of (by decide +kernel)
theorem D283_52 {g : im_g} : im_D g 283 52 (.invokevirtual 645) 55 := im_D.of (by decide +kernel)
theorem D283_55 {g : im_g} : im_D g 283 55 (.aload_n 0) 56 := im_D.of (by decide +kernel)
theorem D283_56 {g : im_g} : im_D g 283 56 (.invokevirtual 649) 59 := im_D.of (by decide +kernel)
theorem D283_59 {g : im_g} : im_D g 283 59 (.iload 4) 61 := im_D.of (by decide +kernel)
theorem D283_61 {g : im_g} : im_D g 283 61 (.iconst 5) 62 := im_D.of (by decide +kernel)
theorem D283_62 {g : im_g} : im_D g 283 62 (.if_icmp .ne 47) 65 := im_D.of (by decide +kernel)
theorem D283_65 {g : im_g} : im_D g 283 65 (.aload_n 0) 66 := im_D.of (by decide +kernel)
theorem D283_66 {g : im_g} : im_D g 283 66 (.iconst 1) 67 := im_D.of (by decide +kernel)
theorem D283_67 {g : im_g} : im_D g 283 67 (.iload 5) 69 := im_D.of (by decide +kernel)
theorem D283_69 {g : im_g} : im_D g 283 69 (.iconst 2) 70 := im_D.of (by decide +kernel)
theorem D283_70 {g : im_g} : im_D g 283 70 (.iload_n 3) 71 := im_D.of (by decide +kernel)
theorem D283_71 {g : im_g} : im_D g 283 71 (.iconst 1) 72 := im_D.of (by decide +kernel)
theorem D283_72 {g : im_g} : im_D g 283 72 (.iadd) 73 := im_D.of (by decide +kernel)
theorem D283_73 {g : im_g} : im_D g 283 73 (.invokevirtual 652) 76 := im_D.of (by decide +kernel)
theorem D283_76 {g : im_g} : im_D g 283 76 (.aload_n 0) 77 := im_D.of (by decide +kernel)
theorem D283_77 {g : im_g} : im_D g 283 77 (.bipush 9) 79 := im_D.of (by decide +kernel)
theorem D283_79 {g : im_g} : im_D g 283 79 (.iload 5) 81 := im_D.of (by decide +kernel)
theorem D283_81 {g : im_g} : im_D g 283 81 (.iconst 0) 82 := im_D.of (by decide +kernel)
theorem D283_82 {g : im_g} : im_D g 283 82 (.iload_n 3) 83 := im_D.of (by decide +kernel)
theorem D283_83 {g : im_g} : im_D g 283 83 (.invokevirtual 652) 86 := im_D.of (by decide +kernel)
theorem D283_86 {g : im_g} : im_D g 283 86 (.aload_n 0) 87 := im_D.of (by decide +kernel)
theorem D283_87 {g : im_g} : im_D g 283 87 (.bipush 8) 89 := im_D.of (by decide +kernel)
theorem D283_89 {g : im_g} : im_D g 283 89 (.iload 5) 91 := im_D.of (by decide +kernel)
theorem D283_91 {g : im_g} : im_D g 283 91 (.iconst 0) 92 := im_D.of (by decide +kernel)
theorem D283_92 {g : im_g} : im_D g 283 92 (.iload_n 3) 93 := im_D.of (by decide +kernel)
theorem D283_93 {g : im_g} : im_D g 283 93 (.invokevirtual 652) 96 := im_D.of (by decide +kernel)
theorem D283_96 {g : im_g} : im_D g 283 96 (.aload_n 0) 97 := im_D.of (by decide +kernel)
theorem D283_97 {g : im_g} : im_D g 283 97 (.bipush 7) 99 := im_D.of (by decide +kernel)
theorem D283_99 {g : im_g} : im_D g 283 99 (.iload 5) 101 := im_D.of (by decide +kernel)
theorem D283_101 {g : im_g} : im_D g 283 101 (.iconst 0) 102 := im_D.of (by decide +kernel)
theorem D283_102 {g : im_g} : im_D g 283 102 (.iload_n 3) 103 := im_D.of (by decide +kernel)
theorem D283_103 {g : im_g} : im_D g 283 103 (.invokevirtual 652) 106 := im_D.of (by decide +kernel)
theorem D283_106 {g : im_g} : im_D g 283 106 (.goto 134) 109 := im_D.of (by decide +kernel)
theorem D283_109 {g : im_g} : im_D g 283 109 (.iload 4) 111 := im_D.of (by decide +kernel)
theorem D283_111 {g : im_g} : im_D g 283 111 (.iconst 4) 112 := im_D.of (by decide +kernel)
theorem D283_112 {g : im_g} : im_D g 283 112 (.if_icmp .ne 39) 115 := im_D.of (by decide +kernel)
theorem D283_115 {g : im_g} : im_D g 283 115 (.aload_n 0) 116 := im_D.of (by decide +kernel)
theorem D283_116 {g : im_g} : im_D g 283 116 (.iconst 1) 117 := im_D.of (by decide +kernel)
theorem D283_117 {g : im_g} : im_D g 283 117 (.iload 5) 119 := im_D.of (by decide +kernel)
theorem D283_119 {g : im_g} : im_D g 283 119 (.iconst 3) 120 := im_D.of (by decide +kernel)
theorem D283_120 {g : im_g} : im_D g 283 120 (.iload_n 3) 121 := im_D.of (by decide +kernel)
theorem D283_121 {g : im_g} : im_D g 283 121 (.iconst 1) 122 := im_D.of (by decide +kernel)
theorem D283_122 {g : im_g} : im_D g 283 122 (.iadd) 123 := im_D.of (by decide +kernel)
theorem D283_123 {g : im_g} : im_D g 283 123 (.invokevirtual 652) 126 := im_D.of (by decide +kernel)
theorem D283_126 {g : im_g} : im_D g 283 126 (.aload_n 0) 127 := im_D.of (by decide +kernel)
theorem D283_127 {g : im_g} : im_D g 283 127 (.iconst 1) 128 := im_D.of (by decide +kernel)
theorem D283_128 {g : im_g} : im_D g 283 128 (.iload 5) 130 := im_D.of (by decide +kernel)
theorem D283_130 {g : im_g} : im_D g 283 130 (.iconst 2) 131 := im_D.of (by decide +kernel)
theorem D283_131 {g : im_g} : im_D g 283 131 (.iload_n 3) 132 := im_D.of (by decide +kernel)
theorem D283_132 {g : im_g} : im_D g 283 132 (.iconst 1) 133 := im_D.of (by decide +kernel)
theorem D283_133 {g : im_g} : im_D g 283 133 (.iadd) 134 := im_D.of (by decide +kernel)
theorem D283_134 {g : im_g} : im_D g 283 134 (.invokevirtual 652) 137 := im_D.of (by decide +kernel)
theorem D283_137 {g : im_g} : im_D g 283 137 (.aload_n 0) 138 := im_D.of (by decide +kernel)
theorem D283_138 {g : im_g} : im_D g 283 138 (.iconst 3) 139 := im_D.of (by decide +kernel)
theorem D283_139 {g : im_g} : im_D g 283 139 (.iload 5) 141 := im_D.of (by decide +kernel)
theorem D283_141 {g : im_g} : im_D g 283 141 (.iconst 1) 142 := im_D.of (by decide +kernel)
theorem D283_142 {g : im_g} : im_D g 283 142 (.iload_n 3) 143 := im_D.of (by decide +kernel)
theorem D283_143 {g : im_g} : im_D g 283 143 (.iconst 1) 144 := im_D.of (by decide +kernel)
theorem D283_144 {g : im_g} : im_D g 283 144 (.iadd) 145 := im_D.of (by decide +kernel)
theorem D283_145 {g : im_g} : im_D g 283 145 (.invokevirtual 652) 148 := im_D.of (by decide +kernel)
theorem D283_148 {g : im_g} : im_D g 283 148 (.goto 92) 151 := im_D.of (by decide +kernel)
theorem D283_151 {g : im_g} : im_D g 283 151 (.iload 4) 153 := im_D.of (by decide +kernel)
theorem D283_153 {g : im_g} : im_D g 283 153 (.iconst 1) 154 := im_D.of (by decide +kernel)
theorem D283_154 {g : im_g} : im_D g 283 154 (.if_icmp .eq 86) 157 := im_D.of (by decide +kernel)
theorem D283_157 {g : im_g} : im_D g 283 157 (.aload_n 0) 158 := im_D.of (by decide +kernel)
theorem D283_158 {g : im_g} : im_D g 283 158 (.iconst 1) 159 := im_D.of (by decide +kernel)
theorem D283_159 {g : im_g} : im_D g 283 159 (.iload 5) 161 := im_D.of (by decide +kernel)
theorem D283_161 {g : im_g} : im_D g 283 161 (.iconst 2) 162 := im_D.of (by decide +kernel)
theorem D283_162 {g : im_g} : im_D g 283 162 (.iload_n 3) 163 := im_D.of (by decide +kernel)
theorem D283_163 {g : im_g} : im_D g 283 163 (.iconst 1) 164 := im_D.of (by decide +kernel)
theorem D283_164 {g : im_g} : im_D g 283 164 (.iadd) 165 := im_D.of (by decide +kernel)
theorem D283_165 {g : im_g} : im_D g 283 165 (.invokevirtual 652) 168 := im_D.of (by decide +kernel)
theorem D283_168 {g : im_g} : im_D g 283 168 (.aload_n 0) 169 := im_D.of (by decide +kernel)
theorem D283_169 {g : im_g} : im_D g 283 169 (.iload 4) 171 := im_D.of (by decide +kernel)
theorem D283_171 {g : im_g} : im_D g 283 171 (.bipush 7) 173 := im_D.of (by decide +kernel)
theorem D283_173 {g : im_g} : im_D g 283 173 (.if_icmp .ne 7) 176 := im_D.of (by decide +kernel)
theorem D283_176 {g : im_g} : im_D g 283 176 (.iconst 3) 177 := im_D.of (by decide +kernel)
theorem D283_177 {g : im_g} : im_D g 283 177 (.goto 4) 180 := im_D.of (by decide +kernel)
theorem D283_180 {g : im_g} : im_D g 283 180 (.iconst 2) 181 := im_D.of (by decide +kernel)
theorem D283_181 {g : im_g} : im_D g 283 181 (.iload 5) 183 := im_D.of (by decide +kernel)
theorem D283_183 {g : im_g} : im_D g 283 183 (.iconst 1) 184 := im_D.of (by decide +kernel)
theorem D283_184 {g : im_g} : im_D g 283 184 (.iload_n 3) 185 := im_D.of (by decide +kernel)
theorem D283_185 {g : im_g} : im_D g 283 185 (.iconst 1) 186 := im_D.of (by decide +kernel)
theorem D283_186 {g : im_g} : im_D g 283 186 (.iadd) 187 := im_D.of (by decide +kernel)
theorem D283_187 {g : im_g} : im_D g 283 187 (.invokevirtual 652) 190 := im_D.of (by decide +kernel)
theorem D283_190 {g : im_g} : im_D g 283 190 (.iload 4) 192 := im_D.of (by decide +kernel)
theorem D283_192 {g : im_g} : im_D g 283 192 (.iconst 2) 193 := im_D.of (by decide +kernel)
theorem D283_193 {g : im_g} : im_D g 283 193 (.if_icmp .ne 31) 196 := im_D.of (by decide +kernel)
theorem D283_196 {g : im_g} : im_D g 283 196 (.aload_n 0) 197 := im_D.of (by decide +kernel)
theorem D283_197 {g : im_g} : im_D g 283 197 (.iconst 4) 198 := im_D.of (by decide +kernel)
theorem D283_198 {g : im_g} : im_D g 283 198 (.iload 5) 200 := im_D.of (by decide +kernel)
theorem D283_200 {g : im_g} : im_D g 283 200 (.iconst 3) 201 := im_D.of (by decide +kernel)
theorem D283_201 {g : im_g} : im_D g 283 201 (.iload_n 3) 202 := im_D.of (by decide +kernel)
theorem D283_202 {g : im_g} : im_D g 283 202 (.invokevirtual 652) 205 := im_D.of (by decide +kernel)
theorem D283_205 {g : im_g} : im_D g 283 205 (.aload_n 0) 206 := im_D.of (by decide +kernel)
theorem D283_206 {g : im_g} : im_D g 283 206 (.iconst 4) 207 := im_D.of (by decide +kernel)
theorem D283_207 {g : im_g} : im_D g 283 207 (.iload 5) 209 := im_D.of (by decide +kernel)
theorem D283_209 {g : im_g} : im_D g 283 209 (.iconst 2) 210 := im_D.of (by decide +kernel)
theorem D283_210 {g : im_g} : im_D g 283 210 (.iload_n 3) 211 := im_D.of (by decide +kernel)
theorem D283_211 {g : im_g} : im_D g 283 211 (.invokevirtual 652) 214 := im_D.of (by decide +kernel)
theorem D283_214 {g : im_g} : im_D g 283 214 (.aload_n 0) 215 := im_D.of (by decide +kernel)
theorem D283_215 {g : im_g} : im_D g 283 215 (.bipush 6) 217 := im_D.of (by decide +kernel)
theorem D283_217 {g : im_g} : im_D g 283 217 (.iload 5) 219 := im_D.of (by decide +kernel)
theorem D283_219 {g : im_g} : im_D g 283 219 (.iconst 0) 220 := im_D.of (by decide +kernel)
theorem D283_220 {g : im_g} : im_D g 283 220 (.iload_n 3) 221 := im_D.of (by decide +kernel)
theorem D283_221 {g : im_g} : im_D g 283 221 (.invokevirtual 652) 224 := im_D.of (by decide +kernel)
theorem D283_224 {g : im_g} : im_D g 283 224 (.iload 4) 226 := im_D.of (by decide +kernel)
theorem D283_226 {g : im_g} : im_D g 283 226 (.bipush 7) 228 := im_D.of (by decide +kernel)
theorem D283_228 {g : im_g} : im_D g 283 228 (.if_icmp .eq 12) 231 := im_D.of (by decide +kernel)
theorem D283_231 {g : im_g} : im_D g 283 231 (.aload_n 0) 232 := im_D.of (by decide +kernel)
theorem D283_232 {g : im_g} : im_D g 283 232 (.iconst 4) 233 := im_D.of (by decide +kernel)
theorem D283_233 {g : im_g} : im_D g 283 233 (.iload 5) 235 := im_D.of (by decide +kernel)
theorem D283_235 {g : im_g} : im_D g 283 235 (.iconst 1) 236 := im_D.of (by decide +kernel)
theorem D283_236 {g : im_g} : im_D g 283 236 (.iload_n 3) 237 := im_D.of (by decide +kernel)
theorem D283_237 {g : im_g} : im_D g 283 237 (.invokevirtual 652) 240 := im_D.of (by decide +kernel)
theorem D283_240 {g : im_g} : im_D g 283 240 (.return_) 241 := im_D.of (by decide +kernel)
theorem D284_0 {g : im_g} : im_D g 284 0 (.lload_n 0) 1 := im_D.of (by decide +kernel)
theorem D284_1 {g : im_g} : im_D g 284 1 (.ldc2_w 505) 4 := im_D.of (by decide +kernel)
theorem D284_4 {g : im_g} : im_D g 284 4 (.lcmp) 5 := im_D.of (by decide +kernel)
theorem D284_5 {g : im_g} : im_D g 284 5 (.ifCond .ne 7) 8 := im_D.of (by decide +kernel)
theorem D284_8 {g : im_g} : im_D g 284 8 (.iconst 1) 9 := im_D.of (by decide +kernel)
theorem D284_9 {g : im_g} : im_D g 284 9 (.goto 66) 12 := im_D.of (by decide +kernel)
theorem D284_12 {g : im_g} : im_D g 284 12 (.lload_n 0) 13 := im_D.of (by decide +kernel)
theorem D284_13 {g : im_g} : im_D g 284 13 (.ldc2_w 507) 16 := im_D.of (by decide +kernel)
theorem D284_16 {g : im_g} : im_D g 284 16 (.lcmp) 17 := im_D.of (by decide +kernel)
theorem D284_17 {g : im_g} : im_D g 284 17 (.ifCond .ne 7) 20 := im_D.of (by decide +kernel)
theorem D284_20 {g : im_g} : im_D g 284 20 (.iconst 2) 21 := im_D.of (by decide +kernel)
theorem D284_21 {g : im_g} : im_D g 284 21 (.goto 54) 24 := im_D.of (by decide +kernel)
theorem D284_24 {g : im_g} : im_D g 284 24 (.lload_n 0) 25 := im_D.of (by decide +kernel)
theorem D284_25 {g : im_g} : im_D g 284 25 (.ldc2_w 513) 28 := im_D.of (by decide +kernel)
theorem D284_28 {g : im_g} : im_D g 284 28 (.lcmp) 29 := im_D.of (by decide +kernel)
theorem D284_29 {g : im_g} : im_D g 284 29 (.ifCond .ne 7) 32 := im_D.of (by decide +kernel)
theorem D284_32 {g : im_g} : im_D g 284 32 (.iconst 4) 33 := im_D.of (by decide +kernel)
theorem D284_33 {g : im_g} : im_D g 284 33 (.goto 42) 36 := im_D.of (by decide +kernel)
theorem D284_36 {g : im_g} : im_D g 284 36 (.lload_n 0) 37 := im_D.of (by decide +kernel)
theorem D284_37 {g : im_g} : im_D g 284 37 (.ldc2_w 515) 40 := im_D.of (by decide +kernel)
theorem D284_40 {g : im_g} : im_D g 284 40 (.lcmp) 41 := im_D.of (by decide +kernel)
theorem D284_41 {g : im_g} : im_D g 284 41 (.ifCond .ne 7) 44 := im_D.of (by decide +kernel)
theorem D284_44 {g : im_g} : im_D g 284 44 (.iconst 5) 45 := im_D.of (by decide +kernel)
theorem D284_45 {g : im_g} : im_D g 284 45 (.goto 30) 48 := im_D.of (by decide +kernel)
theorem D284_48 {g : im_g} : im_D g 284 48 (.lload_n 0) 49 := im_D.of (by decide +kernel)
theorem D284_49 {g : im_g} : im_D g 284 49 (.ldc2_w 525) 52 := im_D.of (by decide +kernel)
theorem D284_52 {g : im_g} : im_D g 284 52 (.lcmp) 53 := im_D.of (by decide +kernel)
theorem D284_53 {g : im_g} : im_D g 284 53 (.ifCond .ne 8) 56 := im_D.of (by decide +kernel)
theorem D284_56 {g : im_g} : im_D g 284 56 (.bipush 6) 58 := im_D.of (by decide +kernel)
theorem D284_58 {g : im_g} : im_D g 284 58 (.goto 17) 61 := im_D.of (by decide +kernel)
theorem D284_61 {g : im_g} : im_D g 284 61 (.lload_n 0) 62 := im_D.of (by decide +kernel)
theorem D284_62 {g : im_g} : im_D g 284 62 (.ldc2_w 527) 65 := im_D.of (by decide +kernel)
theorem D284_65 {g : im_g} : im_D g 284 65 (.lcmp) 66 := im_D.of (by decide +kernel)
theorem D284_66 {g : im_g} : im_D g 284 66 (.ifCond .ne 8) 69 := im_D.of (by decide +kernel)
theorem D284_69 {g : im_g} : im_D g 284 69 (.bipush 7) 71 := im_D.of (by decide +kernel)
theorem D284_71 {g : im_g} : im_D g 284 71 (.goto 4) 74 := im_D.of (by decide +kernel)
theorem D284_74 {g : im_g} : im_D g 284 74 (.iconst 0) 75 := im_D.of (by decide +kernel)
theorem D284_75 {g : im_g} : im_D g 284 75 (.ireturn) 76 := im_D.of (by decide +kernel)
theorem D285_0 {g : im_g} : im_D g 285 0 (.aload_n 0) 1 := im_D.of (by decide +kernel)
theorem D285_1 {g : im_g} : im_D g 285 1 (.aload_n 0) 2 := im_D.of (by decide +kernel)
theorem D285_2 {g : im_g} : im_D g 285 2 (.getfield 591) 5 := im_D.of (by decide +kernel)
theorem D285_5 {g : im_g} : im_D g 285 5 (.bipush 9) 7 := im_D.of (by decide +kernel)
theorem D285_7 {g : im_g} : im_D g 285 7 (.if_icmp .ne 7) 10 := im_D.of (by decide +kernel)
theorem D285_10 {g : im_g} : im_D g 285 10 (.iconst 1) 11 := im_D.of (by decide +kernel)
theorem D285_11 {g : im_g} : im_D g 285 11 (.goto 28) 14 := im_D.of (by decide +kernel)
theorem D285_14 {g : im_g} : im_D g 285 14 (.aload_n 0) 15 := im_D.of (by decide +kernel)
theorem D285_15 {g : im_g} : im_D g 285 15 (.getfield 591) 18 := im_D.of (by decide +kernel)
theorem D285_18 {g : im_g} : im_D g 285 18 (.bipush 10) 20 := im_D.of (by decide +kernel)
theorem D285_20 {g : im_g} : im_D g 285 20 (.if_icmp .ne 7) 23 := im_D.of (by decide +kernel)
theorem D285_23 {g : im_g} : im_D g 285 23 (.iconst 2) 24 := im_D.of (by decide +kernel)
theorem D285_24 {g : im_g} : im_D g 285 24 (.goto 15) 27 := im_D.of (by decide +kernel)
theorem D285_27 {g : im_g} : im_D g 285 27 (.aload_n 0) 28 := im_D.of (by decide +kernel)
theorem D285_28 {g : im_g} : im_D g 285 28 (.getfield 591) 31 := im_D.of (by decide +kernel)
theorem D285_31 {g : im_g} : im_D g 285 31 (.ifCond .ne 7) 34 := im_D.of (by decide +kernel)
theorem D285_34 {g : im_g} : im_D g 285 34 (.iconst 3) 35 := im_D.of (by decide +kernel)
theorem D285_35 {g : im_g} : im_D g 285 35 (.goto 4) 38 := im_D.of (by decide +kernel)
theorem D285_38 {g : im_g} : im_D g 285 38 (.iconst 4) 39 := im_D.of (by decide +kernel)
theorem D285_39 {g : im_g} : im_D g 285 39 (.invokevirtual 614) 42 := im_D.of (by decide +kernel)
theorem D285_42 {g : im_g} : im_D g 285 42 (.return_) 43 := im_D.of (by decide +kernel)
theorem D286_0 {g : im_g} : im_D g 286 0 (.aload_n 0) 1 := im_D.of (by decide +kernel)
theorem D286_1 {g : im_g} : im_D g 286 1 (.getfield 403) 4 := im_D.of (by decide +kernel)
theorem D286_4 {g : im_g} : im_D g 286 4 (.ifCond .ne 16) 7 := im_D.of (by decide +kernel)
theorem D286_7 {g : im_g} : im_D g 286 7 (.aload_n 0) 8 := im_D.of (by decide +kernel)
theorem D286_8 {g : im_g} : im_D g 286 8 (.iload_n 1) 9 := im_D.of (by decide +kernel)
theorem D286_9 {g : im_g} : im_D g 286 9 (.putfield 403) 12 := im_D.of (by decide +kernel)
theorem D286_12 {g : im_g} : im_D g 286 12 (.aload_n 0) 13 := im_D.of (by decide +kernel)
theorem D286_13 {g : im_g} : im_D g 286 13 (.aload_n 0) 14 := im_D.of (by decide +kernel)
theorem D286_14 {g : im_g} : im_D g 286 14 (.getfield 585) 17 := im_D.of (by decide +kernel)
theorem D286_17 {g : im_g} : im_D g 286 17 (.putfield 406) 20 := im_D.of (by decide +kernel)
theorem D286_20 {g : im_g} : im_D g 286 20 (.return_) 21 := im_D.of (by decide +kernel)
theorem D287_0 {g : im_g} : im_D g 287 0 (.iload_n 2) 1 := im_D.of (by decide +kernel)
theorem D287_1 {g : im_g} : im_D g 287 1 (.bipush 100) 3 := im_D.of (by decide +kernel)
theorem D287_3 {g : im_g} : im_D g 287 3 (.if_icmp .gt 18) 6 := im_D.of (by decide +kernel)
theorem D287_6 {g : im_g} : im_D g 287 6 (.aload_n 0) 7 := im_D.of (by decide +kernel)
theorem D287_7 {g : im_g} : im_D g 287 7 (.getfield 629) 10 := im_D.of (by decide +kernel)
theorem D287_10 {g : im_g} : im_D g 287 10 (.aload_n 0) 11 := im_D.of (by decide +kernel)
theorem D287_11 {g : im_g} : im_D g 287 11 (.getfield 632) 14 := im_D.of (by decide +kernel)
theorem D287_14 {g : im_g} : im_D g 287 14 (.isub) 15 := im_D.of (by decide +kernel)
theorem D287_15 {g : im_g} : im_D g 287 15 (.sipush 1000) 18 := im_D.of (by decide +kernel)
theorem D287_18 {g : im_g} : im_D g 287 18 (.if_icmp .ne 11) 21 := im_D.of (by decide +kernel)
theorem D287_21 {g : im_g} : im_D g 287 21 (.aload_n 0) 22 := im_D.of (by decide +kernel)
theorem D287_22 {g : im_g} : im_D g 287 22 (.bipush 7) 24 := im_D.of (by decide +kernel)
theorem D287_24 {g : im_g} : im_D g 287 24 (.invokevirtual 614) 27 := im_D.of (by decide +kernel)
theorem D287_27 {g : im_g} : im_D g 287 27 (.iconst (-1)) 28 := im_D.of (by decide +kernel)
theorem D287_28 {g : im_g} : im_D g 287 28 (.ireturn) 29 := im_D.of (by decide +kernel)
theorem D287_29 {g : im_g} : im_D g 287 29 (.aload_n 0) 30 := im_D.of (by decide +kernel)
theorem D287_30 {g : im_g} : im_D g 287 30 (.getfield 629) 33 := im_D.of (by decide +kernel)
theorem D287_33 {g : im_g} : im_D g 287 33 (.istore_n 3) 34 := im_D.of (by decide +kernel)
theorem D287_34 {g : im_g} : im_D g 287 34 (.aload_n 0) 35 := im_D.of (by decide +kernel)
theorem D287_35 {g : im_g} : im_D g 287 35 (.dup) 36 := im_D.of (by decide +kernel)
theorem D287_36 {g : im_g} : im_D g 287 36 (.getfield 629) 39 := im_D.of (by decide +kernel)
theorem D287_39 {g : im_g} : im_D g 287 39 (.iconst 1) 40 := im_D.of (by decide +kernel)
theorem D287_40 {g : im_g} : im_D g 287 40 (.iadd) 41 := im_D.of (by decide +kernel)
theorem D287_41 {g : im_g} : im_D g 287 41 (.putfield 629) 44 := im_D.of (by decide +kernel)
theorem D287_44 {g : im_g} : im_D g 287 44 (.aload_n 0) 45 := im_D.of (by decide +kernel)
theorem D287_45 {g : im_g} : im_D g 287 45 (.getfield 33) 48 := im_D.of (by decide +kernel)
theorem D287_48 {g : im_g} : im_D g 287 48 (.iload_n 3) 49 := im_D.of (by decide +kernel)
theorem D287_49 {g : im_g} : im_D g 287 49 (.iload_n 1) 50 := im_D.of (by decide +kernel)
theorem D287_50 {g : im_g} : im_D g 287 50 (.iastore) 51 := im_D.of (by decide +kernel)
theorem D287_51 {g : im_g} : im_D g 287 51 (.aload_n 0) 52 := im_D.of (by decide +kernel)
theorem D287_52 {g : im_g} : im_D g 287 52 (.getfield 36) 55 := im_D.of (by decide +kernel)
theorem D287_55 {g : im_g} : im_D g 287 55 (.iload_n 3) 56 := im_D.of (by decide +kernel)
theorem D287_56 {g : im_g} : im_D g 287 56 (.lconst 0) 57 := im_D.of (by decide +kernel)
theorem D287_57 {g : im_g} : im_D g 287 57 (.lastore) 58 := im_D.of (by decide +kernel)
theorem D287_58 {g : im_g} : im_D g 287 58 (.aload_n 0) 59 := im_D.of (by decide +kernel)
theorem D287_59 {g : im_g} : im_D g 287 59 (.getfield 39) 62 := im_D.of (by decide +kernel)
theorem D287_62 {g : im_g} : im_D g 287 62 (.iload_n 3) 63 := im_D.of (by decide +kernel)
theorem D287_63 {g : im_g} : im_D g 287 63 (.lconst 0) 64 := im_D.of (by decide +kernel)
theorem D287_64 {g : im_g} : im_D g 287 64 (.lastore) 65 := im_D.of (by decide +kernel)
theorem D287_65 {g : im_g} : im_D g 287 65 (.aload_n 0) 66 := im_D.of (by decide +kernel)
theorem D287_66 {g : im_g} : im_D g 287 66 (.getfield 42) 69 := im_D.of (by decide +kernel)
theorem D287_69 {g : im_g} : im_D g 287 69 (.iload_n 3) 70 := im_D.of (by decide +kernel)
theorem D287_70 {g : im_g} : im_D g 287 70 (.lconst 0) 71 := im_D.of (by decide +kernel)
theorem D287_71 {g : im_g} : im_D g 287 71 (.lastore) 72 := im_D.of (by decide +kernel)
theorem D287_72 {g : im_g} : im_D g 287 72 (.aload_n 0) 73 := im_D.of (by decide +kernel)
theorem D287_73 {g : im_g} : im_D g 287 73 (.getfield 45) 76 := im_D.of (by decide +kernel)
theorem D287_76 {g : im_g} : im_D g 287 76 (.iload_n 3) 77 := im_D.of (by decide +kernel)
theorem D287_77 {g : im_g} : im_D g 287 77 (.iconst (-1)) 78 := im_D.of (by decide +kernel)
theorem D287_78 {g : im_g} : im_D g 287 78 (.iastore) 79 := im_D.of (by decide +kernel)
theorem D287_79 {g : im_g} : im_D g 287 79 (.aload_n 0) 80 := im_D.of (by decide +kernel)
theorem D287_80 {g : im_g} : im_D g 287 80 (.getfield 48) 83 := im_D.of (by decide +kernel)
theorem D287_83 {g : im_g} : im_D g 287 83 (.iload_n 3) 84 := im_D.of (by decide +kernel)
theorem D287_84 {g : im_g} : im_D g 287 84 (.iconst (-1)) 85 := im_D.of (by decide +kernel)
theorem D287_85 {g : im_g} : im_D g 287 85 (.iastore) 86 := im_D.of (by decide +kernel)
theorem D287_86 {g : im_g} : im_D g 287 86 (.aload_n 0) 87 := im_D.of (by decide +kernel)
theorem D287_87 {g : im_g} : im_D g 287 87 (.getfield 51) 90 := im_D.of (by decide +kernel)
theorem D287_90 {g : im_g} : im_D g 287 90 (.iload_n 3) 91 := im_D.of (by decide +kernel)
theorem D287_91 {g : im_g} : im_D g 287 91 (.iconst (-1)) 92 := im_D.of (by decide +kernel)
theorem D287_92 {g : im_g} : im_D g 287 92 (.iastore) 93 := im_D.of (by decide +kernel)
theorem D287_93 {g : im_g} : im_D g 287 93 (.aload_n 0) 94 := im_D.of (by decide +kernel)
theorem D287_94 {g : im_g} : im_D g 287 94 (.getfield 54) 97 := im_D.of (by decide +kernel)
theorem D287_97 {g : im_g} : im_D g 287 97 (.iload_n 3) 98 := im_D.of (by decide +kernel)
theorem D287_98 {g : im_g} : im_D g 287 98 (.iconst (-1)) 99 := im_D.of (by decide +kernel)
theorem D287_99 {g : im_g} : im_D g 287 99 (.iastore) 100 := im_D.of (by decide +kernel)
theorem D287_100 {g : im_g} : im_D g 287 100 (.aload_n 0) 101 := im_D.of (by decide +kernel)
theorem D287_101 {g : im_g} : im_D g 287 101 (.getfield 63) 104 := im_D.of (by decide +kernel)
theorem D287_104 {g : im_g} : im_D g 287 104 (.iload_n 3) 105 := im_D.of (by decide +kernel)
theorem D287_105 {g : im_g} : im_D g 287 105 (.iconst 0) 106 := im_D.of (by decide +kernel)
theorem D287_106 {g : im_g} : im_D g 287 106 (.bastore) 107 := im_D.of (by decide +kernel)
theorem D287_107 {g : im_g} : im_D g 287 107 (.aload_n 0) 108 := im_D.of (by decide +kernel)
theorem D287_108 {g : im_g} : im_D g 287 108 (.getfield 70) 111 := im_D.of (by decide +kernel)
theorem D287_111 {g : im_g} : im_D g 287 111 (.iload_n 3) 112 := im_D.of (by decide +kernel)
theorem D287_112 {g : im_g} : im_D g 287 112 (.iconst 0) 113 := im_D.of (by decide +kernel)
theorem D287_113 {g : im_g} : im_D g 287 113 (.iastore) 114 := im_D.of (by decide +kernel)
theorem D287_114 {g : im_g} : im_D g 287 114 (.iload_n 3) 115 := im_D.of (by decide +kernel)
theorem D287_115 {g : im_g} : im_D g 287 115 (.ireturn) 116 := im_D.of (by decide +kernel)
theorem D288_0 {g : im_g} : im_D g 288 0 (.iload_n 1) 1 := im_D.of (by decide +kernel)
theorem D288_1 {g : im_g} : im_D g 288 1 (.iconst (-1)) 2 := im_D.of (by decide +kernel)
theorem D288_2 {g : im_g} : im_D g 288 2 (.if_icmp .ne 11) 5 := im_D.of (by decide +kernel)
theorem D288_5 {g : im_g} : im_D g 288 5 (.aload_n 0) 6 := im_D.of (by decide +kernel)
theorem D288_6 {g : im_g} : im_D g 288 6 (.iload_n 3) 7 := im_D.of (by decide +kernel)
theorem D288_7 {g : im_g} : im_D g 288 7 (.putfield 626) 10 := im_D.of (by decide +kernel)
theorem D288_10 {g : im_g} : im_D g 288 10 (.goto 40) 13 := im_D.of (by decide +kernel)
theorem D288_13 {g : im_g} : im_D g 288 13 (.iload_n 2) 14 := im_D.of (by decide +kernel)
theorem D288_14 {g : im_g} : im_D g 288 14 (.iconst 1) 15 := im_D.of (by decide +kernel)
theorem D288_15 {g : im_g} : im_D g 288 15 (.if_icmp .ne 13) 18 := im_D.of (by decide +kernel)
theorem D288_18 {g : im_g} : im_D g 288 18 (.aload_n 0) 19 := im_D.of (by decide +kernel)
theorem D288_19 {g : im_g} : im_D g 288 19 (.getfield 45) 22 := im_D.of (by decide +kernel)
theorem D288_22 {g : im_g} : im_D g 288 22 (.iload_n 1) 23 := im_D.of (by decide +kernel)
theorem D288_23 {g : im_g} : im_D g 288 23 (.iload_n 3) 24 := im_D.of (by decide +kernel)
theorem D288_24 {g : im_g} : im_D g 288 24 (.iastore) 25 := im_D.of (by decide +kernel)
theorem D288_25 {g : im_g} : im_D g 288 25 (.goto 25) 28 := im_D.of (by decide +kernel)
theorem D288_28 {g : im_g} : im_D g 288 28 (.iload_n 2) 29 := im_D.of (by decide +kernel)
theorem D288_29 {g : im_g} : im_D g 288 29 (.iconst 2) 30 := im_D.of (by decide +kernel)
theorem D288_30 {g : im_g} : im_D g 288 30 (.if_icmp .ne 13) 33 := im_D.of (by decide +kernel)
theorem D288_33 {g : im_g} : im_D g 288 33 (.aload_n 0) 34 := im_D.of (by decide +kernel)
theorem D288_34 {g : im_g} : im_D g 288 34 (.getfield 48) 37 := im_D.of (by decide +kernel)
theorem D288_37 {g : im_g} : im_D g 288 37 (.iload_n 1) 38 := im_D.of (by decide +kernel)
theorem D288_38 {g : im_g} : im_D g 288 38 (.iload_n 3) 39 := im_D.of (by decide +kernel)
theorem D288_39 {g : im_g} : im_D g 288 39 (.iastore) 40 := im_D.of (by decide +kernel)
theorem D288_40 {g : im_g} : im_D g 288 40 (.goto 10) 43 := im_D.of (by decide +kernel)
theorem D288_43 {g : im_g} : im_D g 288 43 (.aload_n 0) 44 := im_D.of (by decide +kernel)
theorem D288_44 {g : im_g} : im_D g 288 44 (.getfield 51) 47 := im_D.of (by decide +kernel)
theorem D288_47 {g : im_g} : im_D g 288 47 (.iload_n 1) 48 := im_D.of (by decide +kernel)
theorem D288_48 {g : im_g} : im_D g 288 48 (.iload_n 3) 49 := im_D.of (by decide +kernel)
theorem D288_49 {g : im_g} : im_D g 288 49 (.iastore) 50 := im_D.of (by decide +kernel)
theorem D288_50 {g : im_g} : im_D g 288 50 (.return_) 51 := im_D.of (by decide +kernel)
set_option maxRecDepth 20000 in
set_option maxHeartbeats 4000000 in
theorem b_classify_0 {g : im_g} {d : Nat} {e : im_E} {M : im_M} {K : im_K} (hP : (0 ≤ (M 6952 16) ∧ (M 6952 16) < 16384) ∧ ((∀ x7 : Int, (((¬ (M 6959 (M 6952 16)) = 45) ∧ x7 = (M 6952 16)) ∨ (((M 6959 (M 6952 16)) = 45) ∧ x7 = ((M 6952 16) + 1))) → (im_i32 x7) ∧ ((∀ x14 : Int, ((((M 6952 17) ≤ x7) ∧ x14 = 0) ∨ ((x7 < (M 6952 17)) ∧ x14 = 1)) → im_T g d 279 44 [some (.ref 6952), some (vI x7), some (vI x14), some (vI x7), none] [] e M K))))) : im_T g d 279 0 [some (.ref 6952), none, none, none, none] [] e M K := by
  refine im_ld (q := 1) (i := 0) D279_0 rfl rfl rfl ?_
  refine im_gfR (q := 4) (b := 6959) D279_1 (im_fl cn_279 fl_12_30) sf_6952 rfl rfl tR_12_12 rf_6952_12 ?_
  refine im_ld (q := 5) (i := 0) D279_4 rfl rfl rfl ?_
  refine im_rng (j := 16) sf_6952 (by decide) (by decide) (fun hr1 => ?_)
  refine im_gfI (q := 8) D279_5 (im_fl cn_279 fl_12_585) sf_6952 rfl rfl tI_12_16 rfl ?_
  obtain ⟨hg2, hP⟩ := hP
  refine im_rng (j := (M 6952 16)) sf_6959 hg2.1 hg2.2 (fun hr3 => ?_)
  refine im_iald (q := 9) D279_8 sf_6959 hg2.1 hg2.2 (by decide) rfl ?_
  refine im_bipush (q := 11) D279_9 rfl ?_
  have hJ8 := hP
  have kJ9 : ∀ x7 : Int, (((¬ (M 6959 (M 6952 16)) = 45) ∧ x7 = (M 6952 16)) ∨ (((M 6959 (M 6952 16)) = 45) ∧ x7 = ((M 6952 16) + 1))) → im_T g d 279 27 [some (.ref 6952), none, none, none, none] [vI x7] e M K := by
    intro x7 hx10
    have hP := hJ8 x7 hx10
    refine im_st1 (q := 28) (i := 1) (L' := [some (.ref 6952), some (vI x7), none, none, none]) D279_27 (Or.inl ⟨_, rfl, rfl⟩) (Nat.le_of_ble_eq_true rfl) rfl ?_
    refine im_ld (q := 29) (i := 1) D279_28 rfl rfl rfl ?_
    refine im_ld (q := 30) (i := 0) D279_29 rfl rfl rfl ?_
    refine im_rng (j := 17) sf_6952 (by decide) (by decide) (fun hr11 => ?_)
    refine im_gfI (q := 33) D279_30 (im_fl cn_279 fl_12_588) sf_6952 rfl rfl tI_12_17 rfl ?_
    obtain ⟨hg12, hP⟩ := hP
    have hJ15 := hP
    have kJ16 : ∀ x14 : Int, ((((M 6952 17) ≤ x7) ∧ x14 = 0) ∨ ((x7 < (M 6952 17)) ∧ x14 = 1)) → im_T g d 279 41 [some (.ref 6952), some (vI x7), none, none, none] [vI x14] e M K := by
      intro x14 hx17
      have hP := hJ15 x14 hx17
      refine im_st1 (q := 42) (i := 2) (L' := [some (.ref 6952), some (vI x7), some (vI x14), none, none]) D279_41 (Or.inl ⟨_, rfl, rfl⟩) (Nat.le_of_ble_eq_true rfl) rfl ?_
      refine im_ld (q := 43) (i := 1) D279_42 rfl rfl rfl ?_
      refine im_st1 (q := 44) (i := 3) (L' := [some (.ref 6952), some (vI x7), some (vI x14), some (vI x7), none]) D279_43 (Or.inl ⟨_, rfl, rfl⟩) (Nat.le_of_ble_eq_true rfl) rfl ?_
      exact hP.wk ⟨rfl, rfl, rfl, rfl, trivial⟩
    refine im_icmp (q := 36) (t := 40) D279_33 rfl hg12 hr11 (fun hc13 => ?_) (fun hc13 => ?_)
    · refine im_iconst (q := 41) D279_40 ?_
      exact (kJ16 (0) (Or.inl ⟨hc13, rfl⟩)).wk ⟨rfl, rfl, trivial⟩
    · refine im_iconst (q := 37) D279_36 ?_
      refine im_goto (q := 40) (t := 41) D279_37 rfl ?_
      exact (kJ16 (1) (Or.inr ⟨(Int.not_le.mp hc13), rfl⟩)).wk ⟨rfl, rfl, trivial⟩
  refine im_icmp (q := 14) (t := 23) D279_11 rfl hr3 (by decide) (fun hc4 => ?_) (fun hc4 => ?_)
  · refine im_ld (q := 24) (i := 0) D279_23 rfl rfl rfl ?_
    refine im_gfI (q := 27) D279_24 (im_fl cn_279 fl_12_585) sf_6952 rfl rfl tI_12_16 rfl ?_
    exact (kJ9 ((M 6952 16)) (Or.inl ⟨hc4, rfl⟩)).wk ⟨rfl, trivial⟩
  · refine im_ld (q := 15) (i := 0) D279_14 rfl rfl rfl ?_
    refine im_gfI (q := 18) D279_15 (im_fl cn_279 fl_12_585) sf_6952 rfl rfl tI_12_16 rfl ?_
    refine im_iconst (q := 19) D279_18 ?_
    refine im_iadd (q := 20) D279_19 ?_
    refine im_goto (q := 23) (t := 27) D279_20 rfl ?_
    exact (kJ9 (((M 6952 16) + 1)) (Or.inr ⟨(Decidable.not_not.mp hc4), rfl⟩)).wk ⟨rfl, trivial⟩
set_option maxRecDepth 20000 in
set_option maxHeartbeats 4000000 in
theorem b_classify_44 {g : im_g} {d : Nat} {e : im_E} {M : im_M} {K : im_K} {p1 p2 p3 : Int} (hd : 1 ≤ d) (hP : (im_i32 p3) ∧ (((((M 6952 17) ≤ p3 → (im_i32 p2) ∧ ((p2 = 0 → (0 ≤ (M 6952 16) ∧ (M 6952 16) < 16384)) ∧ (¬ p2 = 0 → im_T g d 279 93 [some (.ref 6952), none, none, some (vI p1), none] [] e M K))) ∧ (p3 < (M 6952 17) → (im_i32 p2) ∧ ((p2 = 0 → im_T g d 279 44 [some (.ref 6952), some (vI p1), some (vI 0), some (vI (p3 + 1)), none] [] e M K) ∧ (¬ p2 = 0 → (0 ≤ p3 ∧ p3 < 16384) ∧ im_T g (d - 1) 268 0 [some (vL (M 6959 p3)), none, some (vL 48), none, some (vL 57), none] [] e M (im_ri (fun x53 e_ M52 => e = e_ ∧ (im_i32 x53) ∧ ((x53 = 0 → im_T g d 279 44 [some (.ref 6952), some (vI p1), some (vI 0), some (vI (p3 + 1)), none] [] e M52 K) ∧ (¬ x53 = 0 → im_T g d 279 44 [some (.ref 6952), some (vI p1), some (vI 1), some (vI (p3 + 1)), none] [] e M52 K))))))))) ∧ (∀ x14 : Int, ((((M 6952 17) ≤ p3) ∧ (p2 = 0) ∧ (¬ (M 6959 (M 6952 16)) = 63) ∧ x14 = 0) ∨ (((M 6952 17) ≤ p3) ∧ (p2 = 0) ∧ ((M 6959 (M 6952 16)) = 63) ∧ x14 = 1)) → ((∀ x21 : Int, (((x14 = 0) ∧ x21 = (M 6952 16)) ∨ ((¬ x14 = 0) ∧ x21 = ((M 6952 16) + 1))) → im_T g (d - 1) 280 0 [some (.ref 6952), some (vI x21), some (vI (M 6952 17)), none, none, none] [] e M (im_rl (fun x27 e_ M26 => e = e_ ∧ (im_i64 x27) ∧ im_T g (d - 1) 281 0 [some (vL x27), none, none, none] [] e (im_u M26 6952 18 x27) (im_ri (fun x31 e_ M30 => e = e_ ∧ ((((¬ (M30 6952 18) = 0 → ((¬ x14 = 0 → (im_i32 x31)))))) ∧ (((((M30 6952 18) = 0)) ∨ ((¬ (M30 6952 18) = 0) ∧ (¬ x14 = 0) ∧ (¬ x31 = 0))) → K (.inl none) e (im_u M30 6952 15 9)) ∧ ((((¬ (M30 6952 18) = 0) ∧ (x14 = 0)) ∨ ((¬ (M30 6952 18) = 0) ∧ (¬ x14 = 0) ∧ (x31 = 0))) → ((((x14 = 0 → (im_i32 x31)))) ∧ (∀ x46 : Int, (((x14 = 0) ∧ (x31 = 0) ∧ x46 = 3) ∨ ((x14 = 0) ∧ (¬ x31 = 0) ∧ x46 = 2) ∨ ((¬ x14 = 0) ∧ x46 = 4)) → K (.inl none) e (im_u M30 6952 15 x46)))))))))))))) : im_T g d 279 44 [some (.ref 6952), some (vI p1), some (vI p2), some (vI p3), none] [] e M K := by
  refine im_ld (q := 45) (i := 3) D279_44 rfl rfl rfl ?_
  refine im_ld (q := 46) (i := 0) D279_45 rfl rfl rfl ?_
  refine im_rng (j := 17) sf_6952 (by decide) (by decide) (fun hr1 => ?_)
  refine im_gfI (q := 49) D279_46 (im_fl cn_279 fl_12_588) sf_6952 rfl rfl tI_12_17 rfl ?_
  obtain ⟨hg2, hP⟩ := hP
  obtain ⟨hP, hJ15⟩ := hP
  have kJ16 : ∀ x14 : Int, ((((M 6952 17) ≤ p3) ∧ (p2 = 0) ∧ (¬ (M 6959 (M 6952 16)) = 63) ∧ x14 = 0) ∨ (((M 6952 17) ≤ p3) ∧ (p2 = 0) ∧ ((M 6959 (M 6952 16)) = 63) ∧ x14 = 1)) → im_T g d 279 160 [some (.ref 6952), none, none, none, none] [vI x14] e M K := by
    intro x14 hx17
    have hP := hJ15 x14 hx17
    refine im_st1 (q := 161) (i := 3) (L' := [some (.ref 6952), none, none, some (vI x14), none]) D279_160 (Or.inl ⟨_, rfl, rfl⟩) (Nat.le_of_ble_eq_true rfl) rfl ?_
    refine im_ld (q := 162) (i := 0) D279_161 rfl rfl rfl ?_
    refine im_ld (q := 163) (i := 0) D279_162 rfl rfl rfl ?_
    refine im_ld (q := 164) (i := 3) D279_163 rfl rfl rfl ?_
    have hJ22 := hP
    have kJ23 : ∀ x21 : Int, (((x14 = 0) ∧ x21 = (M 6952 16)) ∨ ((¬ x14 = 0) ∧ x21 = ((M 6952 16) + 1))) → im_T g d 279 180 [some (.ref 6952), none, none, some (vI x14), none] [vI x21, .ref 6952, .ref 6952] e M K := by
      intro x21 hx24
      have hP := hJ22 x21 hx24
      refine im_ld (q := 181) (i := 0) D279_180 rfl rfl rfl ?_
      refine im_gfI (q := 184) D279_181 (im_fl cn_279 fl_12_588) sf_6952 rfl rfl tI_12_17 rfl ?_
      refine im_callV (q := 187) (kd := 1) (y := 280) (n := 2) (ci := 12) (a := 6952) (vs := [.ref 6952, vI x21, vI (M 6952 17)]) (r := [.ref 6952]) (L2 := [some (.ref 6952), some (vI x21), some (vI (M 6952 17)), none, none, none]) D279_184 (im_cal cn_279 cl_12_594) (Or.inl rfl) rfl sf_6952 rfl rfl rfl rfl hd ⟨rfl, rfl, rfl, trivial⟩ ?_
      refine hP.mono ?_
      rintro _ e51 M26 ⟨x27, rfl, rfl, hP⟩
      refine im_bkS ?_
      obtain ⟨hg28, hP⟩ := hP
      refine im_pfL (q := 190) D279_187 (im_fl cn_279 fl_12_597) sf_6952 rfl rfl tl_12_18 hg28 ?_
      refine im_ld (q := 191) (i := 0) D279_190 rfl rfl rfl ?_
      refine im_gfL (q := 194) D279_191 (im_fl cn_279 fl_12_597) sf_6952 rfl rfl tL_12_18 (im_rds _ _ _ _) ?_
      refine im_callS (q := 197) (kd := 0) (y := 281) (n := 1) (z := 12) (vs := [vL x27]) (r := []) (L2 := [some (vL x27), none, none, none]) D279_194 rfl (im_cal cn_279 cl_12_573) (Or.inl rfl) rfl rfl rfl rfl rfl hd ⟨rfl, trivial⟩ ?_
      refine hP.mono ?_
      rintro _ e50 M30 ⟨x31, rfl, rfl, hP⟩
      refine im_bkS ?_
      refine im_st1 (q := 199) (i := 4) (L' := [some (.ref 6952), none, none, some (vI x14), some (vI x31)]) D279_197 (Or.inr rfl) (Nat.le_of_ble_eq_true rfl) rfl ?_
      refine im_ld (q := 200) (i := 0) D279_199 rfl rfl rfl ?_
      refine im_ld (q := 201) (i := 0) D279_200 rfl rfl rfl ?_
      refine im_rng (j := 18) sf_6952 (by decide) (by decide) (fun hr32 => ?_)
      refine im_gfL (q := 204) D279_201 (im_fl cn_279 fl_12_597) sf_6952 rfl rfl tL_12_18 rfl ?_
      refine im_lconst (q := 205) (z := 0) D279_204 rfl ?_
      obtain ⟨hP, hJ37, hJ40⟩ := hP
      have kJ38 : ((((M30 6952 18) = 0)) ∨ ((¬ (M30 6952 18) = 0) ∧ (¬ x14 = 0) ∧ (¬ x31 = 0))) → im_T g d 279 218 [none, none, none, none, none] [.ref 6952] e M30 K := by
        intro  hx39
        have hP := hJ37  hx39
        refine im_bipush (q := 220) D279_218 rfl ?_
        refine im_goto (q := 223) (t := 241) D279_220 rfl ?_
        refine im_pfI (q := 244) D279_241 (im_fl cn_279 fl_12_591) sf_6952 rfl rfl ti_12_15 (by decide) ?_
        exact im_vret (q := 245) D279_244 rfl hP
      have kJ41 : (((¬ (M30 6952 18) = 0) ∧ (x14 = 0)) ∨ ((¬ (M30 6952 18) = 0) ∧ (¬ x14 = 0) ∧ (x31 = 0))) → im_T g d 279 223 [none, none, none, some (vI x14), some (vI x31)] [.ref 6952] e M30 K := by
        intro  hx42
        have hP := hJ40  hx42
        refine im_ld (q := 224) (i := 3) D279_223 rfl rfl rfl ?_
        obtain ⟨hP, hJ47⟩ := hP
        have kJ48 : ∀ x46 : Int, (((x14 = 0) ∧ (x31 = 0) ∧ x46 = 3) ∨ ((x14 = 0) ∧ (¬ x31 = 0) ∧ x46 = 2) ∨ ((¬ x14 = 0) ∧ x46 = 4)) → im_T g d 279 241 [none, none, none, none, none] [vI x46, .ref 6952] e M30 K := by
          intro x46 hx49
          have hP := hJ47 x46 hx49
          refine im_pfI (q := 244) D279_241 (im_fl cn_279 fl_12_591) sf_6952 rfl rfl ti_12_15 (by omega) ?_
          exact im_vret (q := 245) D279_244 rfl hP
        refine im_ifc (q := 227) (t := 231) D279_224 rfl (by omega) (fun hc43 => ?_) (fun hc43 => ?_)
        · replace hP := hP hc43
          refine im_ld (q := 233) (i := 4) D279_231 rfl rfl rfl ?_
          have hg44 := hP
          refine im_ifc (q := 236) (t := 240) D279_233 rfl hg44 (fun hc45 => ?_) (fun hc45 => ?_)
          · refine im_iconst (q := 241) D279_240 ?_
            exact (kJ48 (3) (Or.inl ⟨hc43, hc45, rfl⟩)).wk trivial
          · refine im_iconst (q := 237) D279_236 ?_
            refine im_goto (q := 240) (t := 241) D279_237 rfl ?_
            exact (kJ48 (2) (Or.inr (Or.inl ⟨hc43, hc45, rfl⟩))).wk trivial
        · refine im_iconst (q := 228) D279_227 ?_
          refine im_goto (q := 231) (t := 241) D279_228 rfl ?_
          exact (kJ48 (4) (Or.inr (Or.inr ⟨hc43, rfl⟩))).wk trivial
      refine im_lif (q := 206) (q2 := 209) (t := 218) D279_205 D279_206 rfl hr32 (by decide) (fun hc33 => ?_) (fun hc33 => ?_)
      · exact (kJ38  (Or.inl hc33)).wk trivial
      · replace hP := hP hc33
        refine im_ld (q := 210) (i := 3) D279_209 rfl rfl rfl ?_
        refine im_ifc (q := 213) (t := 223) D279_210 rfl (by omega) (fun hc34 => ?_) (fun hc34 => ?_)
        · exact (kJ41  (Or.inl ⟨hc33, hc34⟩)).wk ⟨rfl, rfl, trivial⟩
        · replace hP := hP hc34
          refine im_ld (q := 215) (i := 4) D279_213 rfl rfl rfl ?_
          have hg35 := hP
          refine im_ifc (q := 218) (t := 223) D279_215 rfl hg35 (fun hc36 => ?_) (fun hc36 => ?_)
          · exact (kJ41  (Or.inr ⟨hc33, hc34, hc36⟩)).wk ⟨rfl, rfl, trivial⟩
          · exact (kJ38  (Or.inr ⟨hc33, hc34, hc36⟩)).wk trivial
    refine im_ifc (q := 167) (t := 176) D279_164 rfl (by omega) (fun hc18 => ?_) (fun hc18 => ?_)
    · refine im_ld (q := 177) (i := 0) D279_176 rfl rfl rfl ?_
      refine im_rng (j := 16) sf_6952 (by decide) (by decide) (fun hr19 => ?_)
      refine im_gfI (q := 180) D279_177 (im_fl cn_279 fl_12_585) sf_6952 rfl rfl tI_12_16 rfl ?_
      exact (kJ23 ((M 6952 16)) (Or.inl ⟨hc18, rfl⟩)).wk ⟨rfl, rfl, trivial⟩
    · refine im_ld (q := 168) (i := 0) D279_167 rfl rfl rfl ?_
      refine im_rng (j := 16) sf_6952 (by decide) (by decide) (fun hr20 => ?_)
      refine im_gfI (q := 171) D279_168 (im_fl cn_279 fl_12_585) sf_6952 rfl rfl tI_12_16 rfl ?_
      refine im_iconst (q := 172) D279_171 ?_
      refine im_iadd (q := 173) D279_172 ?_
      refine im_goto (q := 176) (t := 180) D279_173 rfl ?_
      exact (kJ23 (((M 6952 16) + 1)) (Or.inr ⟨hc18, rfl⟩)).wk ⟨rfl, rfl, trivial⟩
  refine im_icmp (q := 52) (t := 87) D279_49 rfl hg2 hr1 (fun hc3 => ?_) (fun hc3 => ?_)
  · replace hP := hP.1 hc3
    refine im_ld (q := 88) (i := 2) D279_87 rfl rfl rfl ?_
    obtain ⟨hg4, hP⟩ := hP
    refine im_ifc (q := 91) (t := 141) D279_88 rfl hg4 (fun hc5 => ?_) (fun hc5 => ?_)
    · replace hP := hP.1 hc5
      refine im_ld (q := 142) (i := 0) D279_141 rfl rfl rfl ?_
      refine im_gfR (q := 145) (b := 6959) D279_142 (im_fl cn_279 fl_12_30) sf_6952 rfl rfl tR_12_12 rf_6952_12 ?_
      refine im_ld (q := 146) (i := 0) D279_145 rfl rfl rfl ?_
      refine im_rng (j := 16) sf_6952 (by decide) (by decide) (fun hr6 => ?_)
      refine im_gfI (q := 149) D279_146 (im_fl cn_279 fl_12_585) sf_6952 rfl rfl tI_12_16 rfl ?_
      have hg7 := hP
      refine im_rng (j := (M 6952 16)) sf_6959 hg7.1 hg7.2 (fun hr8 => ?_)
      refine im_iald (q := 150) D279_149 sf_6959 hg7.1 hg7.2 (by decide) rfl ?_
      refine im_bipush (q := 152) D279_150 rfl ?_
      refine im_icmp (q := 155) (t := 159) D279_152 rfl hr8 (by decide) (fun hc9 => ?_) (fun hc9 => ?_)
      · refine im_iconst (q := 160) D279_159 ?_
        exact (kJ16 (0) (Or.inl ⟨hc3, hc5, hc9, rfl⟩)).wk ⟨rfl, trivial⟩
      · refine im_iconst (q := 156) D279_155 ?_
        refine im_goto (q := 159) (t := 160) D279_156 rfl ?_
        exact (kJ16 (1) (Or.inr ⟨hc3, hc5, (Decidable.not_not.mp hc9), rfl⟩)).wk ⟨rfl, trivial⟩
    · replace hP := hP.2 hc5
      refine im_ld (q := 92) (i := 1) D279_91 rfl rfl rfl ?_
      refine im_st1 (q := 93) (i := 3) (L' := [some (.ref 6952), some (vI p1), some (vI p2), some (vI p1), none]) D279_92 (Or.inl ⟨_, rfl, rfl⟩) (Nat.le_of_ble_eq_true rfl) rfl ?_
      exact hP.wk ⟨rfl, rfl, trivial⟩
  · replace hP := hP.2 (Int.not_le.mp hc3)
    refine im_ld (q := 53) (i := 2) D279_52 rfl rfl rfl ?_
    obtain ⟨hg10, hP⟩ := hP
    refine im_ifc (q := 56) (t := 79) D279_53 rfl hg10 (fun hc11 => ?_) (fun hc11 => ?_)
    · replace hP := hP.1 hc11
      refine im_iconst (q := 80) D279_79 ?_
      refine im_st1 (q := 81) (i := 2) (L' := [some (.ref 6952), some (vI p1), some (vI 0), some (vI p3), none]) D279_80 (Or.inl ⟨_, rfl, rfl⟩) (Nat.le_of_ble_eq_true rfl) rfl ?_
      refine im_iinc (q := 84) (i := 3) (L' := [some (.ref 6952), some (vI p1), some (vI 0), some (vI (p3 + 1)), none]) D279_81 rfl (Nat.le_of_ble_eq_true rfl) rfl ?_
      refine im_goto (q := 87) (t := 44) D279_84 rfl ?_
      exact hP.wk ⟨rfl, rfl, rfl, rfl, trivial⟩
    · replace hP := hP.2 hc11
      refine im_ld (q := 57) (i := 0) D279_56 rfl rfl rfl ?_
      refine im_gfR (q := 60) (b := 6959) D279_57 (im_fl cn_279 fl_12_30) sf_6952 rfl rfl tR_12_12 rf_6952_12 ?_
      refine im_ld (q := 61) (i := 3) D279_60 rfl rfl rfl ?_
      obtain ⟨hg12, hP⟩ := hP
      refine im_rng (j := p3) sf_6959 hg12.1 hg12.2 (fun hr13 => ?_)
      refine im_iald (q := 62) D279_61 sf_6959 hg12.1 hg12.2 (by decide) rfl ?_
      refine im_i2l (q := 63) D279_62 hr13 ?_
      refine im_ldc2 (q := 66) (n := 48) D279_63 rfl ?_
      refine im_ldc2 (q := 69) (n := 57) D279_66 rfl ?_
      refine im_callS (q := 72) (kd := 0) (y := 268) (n := 3) (z := 12) (vs := [vL (M 6959 p3), vL 48, vL 57]) (r := []) (L2 := [some (vL (M 6959 p3)), none, some (vL 48), none, some (vL 57), none]) D279_69 rfl (im_cal cn_279 cl_12_428) (Or.inl rfl) rfl rfl rfl rfl rfl hd ⟨rfl, rfl, rfl, trivial⟩ ?_
      refine hP.mono ?_
      rintro _ e56 M52 ⟨x53, rfl, rfl, hP⟩
      refine im_bkS ?_
      obtain ⟨hg54, hP⟩ := hP
      refine im_ifc (q := 75) (t := 79) D279_72 rfl hg54 (fun hc55 => ?_) (fun hc55 => ?_)
      · replace hP := hP.1 hc55
        refine im_iconst (q := 80) D279_79 ?_
        refine im_st1 (q := 81) (i := 2) (L' := [some (.ref 6952), some (vI p1), some (vI 0), some (vI p3), none]) D279_80 (Or.inl ⟨_, rfl, rfl⟩) (Nat.le_of_ble_eq_true rfl) rfl ?_
        refine im_iinc (q := 84) (i := 3) (L' := [some (.ref 6952), some (vI p1), some (vI 0), some (vI (p3 + 1)), none]) D279_81 rfl (Nat.le_of_ble_eq_true rfl) rfl ?_
        refine im_goto (q := 87) (t := 44) D279_84 rfl ?_
        exact hP.wk ⟨rfl, rfl, rfl, rfl, trivial⟩
      · replace hP := hP.2 hc55
        refine im_iconst (q := 76) D279_75 ?_
        refine im_goto (q := 79) (t := 80) D279_76 rfl ?_
        refine im_st1 (q := 81) (i := 2) (L' := [some (.ref 6952), some (vI p1), some (vI 1), some (vI p3), none]) D279_80 (Or.inl ⟨_, rfl, rfl⟩) (Nat.le_of_ble_eq_true rfl) rfl ?_
        refine im_iinc (q := 84) (i := 3) (L' := [some (.ref 6952), some (vI p1), some (vI 1), some (vI (p3 + 1)), none]) D279_81 rfl (Nat.le_of_ble_eq_true rfl) rfl ?_
        refine im_goto (q := 87) (t := 44) D279_84 rfl ?_
        exact hP.wk ⟨rfl, rfl, rfl, rfl, trivial⟩
set_option maxRecDepth 20000 in
set_option maxHeartbeats 4000000 in
theorem b_classify_93 {g : im_g} {d : Nat} {e : im_E} {M : im_M} {K : im_K} {p3 : Int} (hP : (im_i32 p3) ∧ ((((p3 < (M 6952 17) → (0 ≤ p3 ∧ p3 < 16384) ∧ (((M 6959 p3) = 48 → im_T g d 279 93 [some (.ref 6952), none, none, some (vI (p3 + 1)), none] [] e M K))))) ∧ (((((M 6952 17) ≤ p3)) ∨ ((p3 < (M 6952 17)) ∧ (¬ (M 6959 p3) = 48))) → (im_i32 ((M 6952 17) - p3)) ∧ ((∀ x13 : Int, (((((M 6952 17) - p3) ≤ 300) ∧ x13 = 1) ∨ ((300 < ((M 6952 17) - p3)) ∧ x13 = 10)) → K (.inl none) e (im_u M 6952 15 x13)))))) : im_T g d 279 93 [some (.ref 6952), none, none, some (vI p3), none] [] e M K := by
  refine im_ld (q := 94) (i := 3) D279_93 rfl rfl rfl ?_
  refine im_ld (q := 95) (i := 0) D279_94 rfl rfl rfl ?_
  refine im_rng (j := 17) sf_6952 (by decide) (by decide) (fun hr1 => ?_)
  refine im_gfI (q := 98) D279_95 (im_fl cn_279 fl_12_588) sf_6952 rfl rfl tI_12_17 rfl ?_
  obtain ⟨hg2, hP⟩ := hP
  obtain ⟨hP, hJ7⟩ := hP
  have kJ8 : ((((M 6952 17) ≤ p3)) ∨ ((p3 < (M 6952 17)) ∧ (¬ (M 6959 p3) = 48))) → im_T g d 279 118 [some (.ref 6952), none, none, some (vI p3), none] [] e M K := by
    intro  hx9
    have hP := hJ7  hx9
    refine im_ld (q := 119) (i := 0) D279_118 rfl rfl rfl ?_
    refine im_ld (q := 120) (i := 0) D279_119 rfl rfl rfl ?_
    refine im_gfI (q := 123) D279_120 (im_fl cn_279 fl_12_588) sf_6952 rfl rfl tI_12_17 rfl ?_
    refine im_ld (q := 124) (i := 3) D279_123 rfl rfl rfl ?_
    refine im_isub (q := 125) D279_124 ?_
    refine im_sipush (q := 128) D279_125 rfl ?_
    obtain ⟨hg11, hP⟩ := hP
    have hJ14 := hP
    have kJ15 : ∀ x13 : Int, (((((M 6952 17) - p3) ≤ 300) ∧ x13 = 1) ∨ ((300 < ((M 6952 17) - p3)) ∧ x13 = 10)) → im_T g d 279 137 [none, none, none, none, none] [vI x13, .ref 6952] e M K := by
      intro x13 hx16
      have hP := hJ14 x13 hx16
      refine im_pfI (q := 140) D279_137 (im_fl cn_279 fl_12_591) sf_6952 rfl rfl ti_12_15 (by omega) ?_
      exact im_vret (q := 141) D279_140 rfl hP
    refine im_icmp (q := 131) (t := 136) D279_128 rfl hg11 (by decide) (fun hc12 => ?_) (fun hc12 => ?_)
    · refine im_iconst (q := 137) D279_136 ?_
      exact (kJ15 (1) (Or.inl ⟨hc12, rfl⟩)).wk trivial
    · refine im_bipush (q := 133) D279_131 rfl ?_
      refine im_goto (q := 136) (t := 137) D279_133 rfl ?_
      exact (kJ15 (10) (Or.inr ⟨(Int.not_le.mp hc12), rfl⟩)).wk trivial
  refine im_icmp (q := 101) (t := 118) D279_98 rfl hg2 hr1 (fun hc3 => ?_) (fun hc3 => ?_)
  · exact (kJ8  (Or.inl hc3)).wk ⟨rfl, rfl, trivial⟩
  · replace hP := hP (Int.not_le.mp hc3)
    refine im_ld (q := 102) (i := 0) D279_101 rfl rfl rfl ?_
    refine im_gfR (q := 105) (b := 6959) D279_102 (im_fl cn_279 fl_12_30) sf_6952 rfl rfl tR_12_12 rf_6952_12 ?_
    refine im_ld (q := 106) (i := 3) D279_105 rfl rfl rfl ?_
    obtain ⟨hg4, hP⟩ := hP
    refine im_rng (j := p3) sf_6959 hg4.1 hg4.2 (fun hr5 => ?_)
    refine im_iald (q := 107) D279_106 sf_6959 hg4.1 hg4.2 (by decide) rfl ?_
    refine im_bipush (q := 109) D279_107 rfl ?_
    refine im_icmp (q := 112) (t := 118) D279_109 rfl hr5 (by decide) (fun hc6 => ?_) (fun hc6 => ?_)
    · exact (kJ8  (Or.inr ⟨(Int.not_le.mp hc3), hc6⟩)).wk ⟨rfl, rfl, trivial⟩
    · replace hP := hP (Decidable.not_not.mp hc6)
      refine im_iinc (q := 115) (i := 3) (L' := [some (.ref 6952), none, none, some (vI (p3 + 1)), none]) D279_112 rfl (Nat.le_of_ble_eq_true rfl) rfl ?_
      refine im_goto (q := 118) (t := 93) D279_115 rfl ?_
      exact hP.wk ⟨rfl, rfl, trivial⟩
set_option maxRecDepth 20000 in
set_option maxHeartbeats 4000000 in
theorem b_nameOf_0 {g : im_g} {d : Nat} {e : im_E} {M : im_M} {K : im_K} {p1 p2 : Int} (hd : 1 ≤ d) (hP : (im_i32 (p2 - p1)) ∧ ((((1 ≤ (p2 - p1) → (((p2 - p1) ≤ 8 → (0 ≤ p1 ∧ p1 < 16384) ∧ im_T g (d - 1) 268 0 [some (vL (M 6959 p1)), none, some (vL 97), none, some (vL 122), none] [] e M (im_ri (fun x10 e_ M9 => e = e_ ∧ (im_i32 x10) ∧ ((¬ x10 = 0 → im_T g d 280 41 [some (.ref 6952), none, some (vI p2), some (vL 0), none, some (vI p1)] [] e M9 K) ∧ (x10 = 0 → K (.inl (some (vL 0))) e M9))))))))) ∧ (((((p2 - p1) < 1)) ∨ ((1 ≤ (p2 - p1)) ∧ (8 < (p2 - p1)))) → K (.inl (some (vL 0))) e M))) : im_T g d 280 0 [some (.ref 6952), some (vI p1), some (vI p2), none, none, none] [] e M K := by
  refine im_ld (q := 1) (i := 2) D280_0 rfl rfl rfl ?_
  refine im_ld (q := 2) (i := 1) D280_1 rfl rfl rfl ?_
  refine im_isub (q := 3) D280_2 ?_
  refine im_iconst (q := 4) D280_3 ?_
  obtain ⟨hg1, hP⟩ := hP
  obtain ⟨hP, hJ6⟩ := hP
  have kJ7 : ((((p2 - p1) < 1)) ∨ ((1 ≤ (p2 - p1)) ∧ (8 < (p2 - p1)))) → im_T g d 280 34 [none, none, none, none, none, none] [] e M K := by
    intro  hx8
    have hP := hJ6  hx8
    refine im_lconst (q := 35) (z := 0) D280_34 rfl ?_
    exact im_lret (q := 36) D280_35 rfl hP
  refine im_icmp (q := 7) (t := 34) D280_4 rfl hg1 (by decide) (fun hc2 => ?_) (fun hc2 => ?_)
  · exact (kJ7  (Or.inl hc2)).wk trivial
  · replace hP := hP (Int.not_lt.mp hc2)
    refine im_ld (q := 8) (i := 2) D280_7 rfl rfl rfl ?_
    refine im_ld (q := 9) (i := 1) D280_8 rfl rfl rfl ?_
    refine im_isub (q := 10) D280_9 ?_
    refine im_bipush (q := 12) D280_10 rfl ?_
    refine im_icmp (q := 15) (t := 34) D280_12 rfl hg1 (by decide) (fun hc3 => ?_) (fun hc3 => ?_)
    · exact (kJ7  (Or.inr ⟨(Int.not_lt.mp hc2), hc3⟩)).wk trivial
    · replace hP := hP (Int.not_lt.mp hc3)
      refine im_ld (q := 16) (i := 0) D280_15 rfl rfl rfl ?_
      refine im_gfR (q := 19) (b := 6959) D280_16 (im_fl cn_280 fl_12_30) sf_6952 rfl rfl tR_12_12 rf_6952_12 ?_
      refine im_ld (q := 20) (i := 1) D280_19 rfl rfl rfl ?_
      obtain ⟨hg4, hP⟩ := hP
      refine im_rng (j := p1) sf_6959 hg4.1 hg4.2 (fun hr5 => ?_)
      refine im_iald (q := 21) D280_20 sf_6959 hg4.1 hg4.2 (by decide) rfl ?_
      refine im_i2l (q := 22) D280_21 hr5 ?_
      refine im_ldc2 (q := 25) (n := 97) D280_22 rfl ?_
      refine im_ldc2 (q := 28) (n := 122) D280_25 rfl ?_
      refine im_callS (q := 31) (kd := 0) (y := 268) (n := 3) (z := 12) (vs := [vL (M 6959 p1), vL 97, vL 122]) (r := []) (L2 := [some (vL (M 6959 p1)), none, some (vL 97), none, some (vL 122), none]) D280_28 rfl (im_cal cn_280 cl_12_428) (Or.inl rfl) rfl rfl rfl rfl rfl hd ⟨rfl, rfl, rfl, trivial⟩ ?_
      refine hP.mono ?_
      rintro _ e13 M9 ⟨x10, rfl, rfl, hP⟩
      refine im_bkS ?_
      obtain ⟨hg11, hP⟩ := hP
      refine im_ifc (q := 34) (t := 36) D280_31 rfl hg11 (fun hc12 => ?_) (fun hc12 => ?_)
      · replace hP := hP.1 hc12
        refine im_lconst (q := 37) (z := 0) D280_36 rfl ?_
        refine im_st2 (q := 38) (i := 3) (L' := [some (.ref 6952), some (vI p1), some (vI p2), some (vL 0), none, none]) D280_37 (Or.inl ⟨_, rfl, rfl⟩) (Nat.le_of_ble_eq_true rfl) rfl ?_
        refine im_ld (q := 39) (i := 1) D280_38 rfl rfl rfl ?_
        refine im_st1 (q := 41) (i := 5) (L' := [some (.ref 6952), some (vI p1), some (vI p2), some (vL 0), none, some (vI p1)]) D280_39 (Or.inr rfl) (Nat.le_of_ble_eq_true rfl) rfl ?_
        exact hP.wk ⟨rfl, rfl, rfl, rfl, trivial⟩
      · replace hP := hP.2 (Decidable.not_not.mp hc12)
        refine im_lconst (q := 35) (z := 0) D280_34 rfl ?_
        exact im_lret (q := 36) D280_35 rfl hP
set_option maxRecDepth 20000 in
set_option maxHeartbeats 4000000 in
theorem b_nameOf_41 {g : im_g} {d : Nat} {e : im_E} {M : im_M} {K : im_K} {p2 p3 p5 : Int} (hd : 1 ≤ d) (hP : (im_i32 p5) ∧ (im_i32 p2) ∧ ((p2 ≤ p5 → K (.inl (some (vL p3))) e M) ∧ (p5 < p2 → (0 ≤ p5 ∧ p5 < 16384) ∧ im_T g (d - 1) 268 0 [some (vL (M 6959 p5)), none, some (vL 97), none, some (vL 122), none] [] e M (im_ri (fun x7 e_ M6 => e = e_ ∧ (im_i32 x7) ∧ ((¬ x7 = 0 → im_T g d 280 41 [some (.ref 6952), none, some (vI p2), some (vL (xlor (xlshl p3 8) (M6 6959 p5))), none, some (vI (p5 + 1))] [] e M6 K) ∧ (x7 = 0 → im_T g (d - 1) 268 0 [some (vL (M6 6959 p5)), none, some (vL 48), none, some (vL 57), none] [] e M6 (im_ri (fun x13 e_ M12 => e = e_ ∧ (im_i32 x13) ∧ ((¬ x13 = 0 → im_T g d 280 41 [some (.ref 6952), none, some (vI p2), some (vL (xlor (xlshl p3 8) (M12 6959 p5))), none, some (vI (p5 + 1))] [] e M12 K) ∧ (x13 = 0 → K (.inl (some (vL 0))) e M12))))))))))) : im_T g d 280 41 [some (.ref 6952), none, some (vI p2), some (vL p3), none, some (vI p5)] [] e M K := by
  refine im_ld (q := 43) (i := 5) D280_41 rfl rfl rfl ?_
  refine im_ld (q := 44) (i := 2) D280_43 rfl rfl rfl ?_
  obtain ⟨hg1, hP⟩ := hP
  obtain ⟨hg2, hP⟩ := hP
  refine im_icmp (q := 47) (t := 109) D280_44 rfl hg1 hg2 (fun hc3 => ?_) (fun hc3 => ?_)
  · replace hP := hP.1 hc3
    refine im_ld (q := 110) (i := 3) D280_109 rfl rfl rfl ?_
    exact im_lret (q := 111) D280_110 rfl hP
  · replace hP := hP.2 (Int.not_le.mp hc3)
    refine im_ld (q := 48) (i := 0) D280_47 rfl rfl rfl ?_
    refine im_gfR (q := 51) (b := 6959) D280_48 (im_fl cn_280 fl_12_30) sf_6952 rfl rfl tR_12_12 rf_6952_12 ?_
    refine im_ld (q := 53) (i := 5) D280_51 rfl rfl rfl ?_
    obtain ⟨hg4, hP⟩ := hP
    refine im_rng (j := p5) sf_6959 hg4.1 hg4.2 (fun hr5 => ?_)
    refine im_iald (q := 54) D280_53 sf_6959 hg4.1 hg4.2 (by decide) rfl ?_
    refine im_i2l (q := 55) D280_54 hr5 ?_
    refine im_ldc2 (q := 58) (n := 97) D280_55 rfl ?_
    refine im_ldc2 (q := 61) (n := 122) D280_58 rfl ?_
    refine im_callS (q := 64) (kd := 0) (y := 268) (n := 3) (z := 12) (vs := [vL (M 6959 p5), vL 97, vL 122]) (r := []) (L2 := [some (vL (M 6959 p5)), none, some (vL 97), none, some (vL 122), none]) D280_61 rfl (im_cal cn_280 cl_12_428) (Or.inl rfl) rfl rfl rfl rfl rfl hd ⟨rfl, rfl, rfl, trivial⟩ ?_
    refine hP.mono ?_
    rintro _ e18 M6 ⟨x7, rfl, rfl, hP⟩
    refine im_bkS ?_
    obtain ⟨hg8, hP⟩ := hP
    refine im_ifc (q := 67) (t := 89) D280_64 rfl hg8 (fun hc9 => ?_) (fun hc9 => ?_)
    · replace hP := hP.1 hc9
      refine im_ld (q := 90) (i := 3) D280_89 rfl rfl rfl ?_
      refine im_bipush (q := 92) D280_90 rfl ?_
      refine im_lshl (q := 93) D280_92 ?_
      refine im_ld (q := 94) (i := 0) D280_93 rfl rfl rfl ?_
      refine im_gfR (q := 97) (b := 6959) D280_94 (im_fl cn_280 fl_12_30) sf_6952 rfl rfl tR_12_12 rf_6952_12 ?_
      refine im_ld (q := 99) (i := 5) D280_97 rfl rfl rfl ?_
      refine im_rng (j := p5) sf_6959 hg4.1 hg4.2 (fun hr11 => ?_)
      refine im_iald (q := 100) D280_99 sf_6959 hg4.1 hg4.2 (by decide) rfl ?_
      refine im_i2l (q := 101) D280_100 hr11 ?_
      refine im_lor (q := 102) D280_101 ?_
      refine im_st2 (q := 103) (i := 3) (L' := [some (.ref 6952), none, some (vI p2), some (vL (xlor (xlshl p3 8) (M6 6959 p5))), none, some (vI p5)]) D280_102 (Or.inl ⟨_, rfl, rfl⟩) (Nat.le_of_ble_eq_true rfl) rfl ?_
      refine im_iinc (q := 106) (i := 5) (L' := [some (.ref 6952), none, some (vI p2), some (vL (xlor (xlshl p3 8) (M6 6959 p5))), none, some (vI (p5 + 1))]) D280_103 rfl (Nat.le_of_ble_eq_true rfl) rfl ?_
      refine im_goto (q := 109) (t := 41) D280_106 rfl ?_
      exact hP.wk ⟨rfl, rfl, rfl, rfl, trivial⟩
    · replace hP := hP.2 (Decidable.not_not.mp hc9)
      refine im_ld (q := 68) (i := 0) D280_67 rfl rfl rfl ?_
      refine im_gfR (q := 71) (b := 6959) D280_68 (im_fl cn_280 fl_12_30) sf_6952 rfl rfl tR_12_12 rf_6952_12 ?_
      refine im_ld (q := 73) (i := 5) D280_71 rfl rfl rfl ?_
      refine im_rng (j := p5) sf_6959 hg4.1 hg4.2 (fun hr10 => ?_)
      refine im_iald (q := 74) D280_73 sf_6959 hg4.1 hg4.2 (by decide) rfl ?_
      refine im_i2l (q := 75) D280_74 hr10 ?_
      refine im_ldc2 (q := 78) (n := 48) D280_75 rfl ?_
      refine im_ldc2 (q := 81) (n := 57) D280_78 rfl ?_
      refine im_callS (q := 84) (kd := 0) (y := 268) (n := 3) (z := 12) (vs := [vL (M6 6959 p5), vL 48, vL 57]) (r := []) (L2 := [some (vL (M6 6959 p5)), none, some (vL 48), none, some (vL 57), none]) D280_81 rfl (im_cal cn_280 cl_12_428) (Or.inl rfl) rfl rfl rfl rfl rfl hd ⟨rfl, rfl, rfl, trivial⟩ ?_
      refine hP.mono ?_
      rintro _ e17 M12 ⟨x13, rfl, rfl, hP⟩
      refine im_bkS ?_
      obtain ⟨hg14, hP⟩ := hP
      refine im_ifc (q := 87) (t := 89) D280_84 rfl hg14 (fun hc15 => ?_) (fun hc15 => ?_)
      · replace hP := hP.1 hc15
        refine im_ld (q := 90) (i := 3) D280_89 rfl rfl rfl ?_
        refine im_bipush (q := 92) D280_90 rfl ?_
        refine im_lshl (q := 93) D280_92 ?_
        refine im_ld (q := 94) (i := 0) D280_93 rfl rfl rfl ?_
        refine im_gfR (q := 97) (b := 6959) D280_94 (im_fl cn_280 fl_12_30) sf_6952 rfl rfl tR_12_12 rf_6952_12 ?_
        refine im_ld (q := 99) (i := 5) D280_97 rfl rfl rfl ?_
        refine im_rng (j := p5) sf_6959 hg4.1 hg4.2 (fun hr16 => ?_)
        refine im_iald (q := 100) D280_99 sf_6959 hg4.1 hg4.2 (by decide) rfl ?_
        refine im_i2l (q := 101) D280_100 hr16 ?_
        refine im_lor (q := 102) D280_101 ?_
        refine im_st2 (q := 103) (i := 3) (L' := [some (.ref 6952), none, some (vI p2), some (vL (xlor (xlshl p3 8) (M12 6959 p5))), none, some (vI p5)]) D280_102 (Or.inl ⟨_, rfl, rfl⟩) (Nat.le_of_ble_eq_true rfl) rfl ?_
        refine im_iinc (q := 106) (i := 5) (L' := [some (.ref 6952), none, some (vI p2), some (vL (xlor (xlshl p3 8) (M12 6959 p5))), none, some (vI (p5 + 1))]) D280_103 rfl (Nat.le_of_ble_eq_true rfl) rfl ?_
        refine im_goto (q := 109) (t := 41) D280_106 rfl ?_
        exact hP.wk ⟨rfl, rfl, rfl, rfl, trivial⟩
      · replace hP := hP.2 (Decidable.not_not.mp hc15)
        refine im_lconst (q := 88) (z := 0) D280_87 rfl ?_
        exact im_lret (q := 89) D280_88 rfl hP
set_option maxRecDepth 20000 in
set_option maxHeartbeats 4000000 in
theorem b_isKeyword_0 {g : im_g} {d : Nat} {e : im_E} {M : im_M} {K : im_K} {p0 : Int} (hP : (im_i64 p0) ∧ ((((¬ p0 = 427021005669 → ((¬ p0 = 7364985 → ((¬ p0 = 29807 → ((¬ p0 = 1768846447 → ((¬ p0 = 26982 → ((¬ p0 = 2003330414 → ((¬ p0 = 1667330917 → ((¬ p0 = 28259031251642740 → ((¬ p0 = 109300196926309 → ((¬ p0 = 121424973489785 → ((¬ p0 = 7103860 → ((¬ p0 = 107148485161588 → ((((¬ p0 = 1751477348 → ((¬ p0 = 7234919 → ((¬ p0 = 6382692 → ((¬ p0 = 7566690 → ((¬ p0 = 7173484 → ((¬ p0 = 6580598 → ((¬ p0 = 109300197582190 → ((¬ p0 = 495873782388 → ((¬ p0 = 6647396 → ((¬ p0 = 7697253 → ((¬ p0 = 1668247140 → ((((¬ p0 = 6385252 → ((¬ p0 = 28530 → ((¬ p0 = 7237492 → ((¬ p0 = 426953896805 → ((¬ p0 = 26469 → ((¬ p0 = 26484 → ((¬ p0 = 27749 → ((¬ p0 = 27764 → ((¬ p0 = 25969 → ((¬ p0 = 1953658213 → ((¬ p0 = 439721161573 → K (.inl (some (vI 0))) e M))))))))))))))))))))))) ∧ ((((p0 = 6385252)) ∨ ((¬ p0 = 6385252) ∧ (p0 = 28530)) ∨ ((¬ p0 = 6385252) ∧ (¬ p0 = 28530) ∧ (p0 = 7237492)) ∨ ((¬ p0 = 6385252) ∧ (¬ p0 = 28530) ∧ (¬ p0 = 7237492) ∧ (p0 = 426953896805)) ∨ ((¬ p0 = 6385252) ∧ (¬ p0 = 28530) ∧ (¬ p0 = 7237492) ∧ (¬ p0 = 426953896805) ∧ (p0 = 26469)) ∨ ((¬ p0 = 6385252) ∧ (¬ p0 = 28530) ∧ (¬ p0 = 7237492) ∧ (¬ p0 = 426953896805) ∧ (¬ p0 = 26469) ∧ (p0 = 26484)) ∨ ((¬ p0 = 6385252) ∧ (¬ p0 = 28530) ∧ (¬ p0 = 7237492) ∧ (¬ p0 = 426953896805) ∧ (¬ p0 = 26469) ∧ (¬ p0 = 26484) ∧ (p0 = 27749)) ∨ ((¬ p0 = 6385252) ∧ (¬ p0 = 28530) ∧ (¬ p0 = 7237492) ∧ (¬ p0 = 426953896805) ∧ (¬ p0 = 26469) ∧ (¬ p0 = 26484) ∧ (¬ p0 = 27749) ∧ (p0 = 27764)) ∨ ((¬ p0 = 6385252) ∧ (¬ p0 = 28530) ∧ (¬ p0 = 7237492) ∧ (¬ p0 = 426953896805) ∧ (¬ p0 = 26469) ∧ (¬ p0 = 26484) ∧ (¬ p0 = 27749) ∧ (¬ p0 = 27764) ∧ (p0 = 25969)) ∨ ((¬ p0 = 6385252) ∧ (¬ p0 = 28530) ∧ (¬ p0 = 7237492) ∧ (¬ p0 = 426953896805) ∧ (¬ p0 = 26469) ∧ (¬ p0 = 26484) ∧ (¬ p0 = 27749) ∧ (¬ p0 = 27764) ∧ (¬ p0 = 25969) ∧ (p0 = 1953658213)) ∨ ((¬ p0 = 6385252) ∧ (¬ p0 = 28530) ∧ (¬ p0 = 7237492) ∧ (¬ p0 = 426953896805) ∧ (¬ p0 = 26469) ∧ (¬ p0 = 26484) ∧ (¬ p0 = 27749) ∧ (¬ p0 = 27764) ∧ (¬ p0 = 25969) ∧ (¬ p0 = 1953658213) ∧ (p0 = 439721161573))) → K (.inl (some (vI 1))) e M))))))))))))))))))))))))) ∧ ((((p0 = 1751477348)) ∨ ((¬ p0 = 1751477348) ∧ (p0 = 7234919)) ∨ ((¬ p0 = 1751477348) ∧ (¬ p0 = 7234919) ∧ (p0 = 6382692)) ∨ ((¬ p0 = 1751477348) ∧ (¬ p0 = 7234919) ∧ (¬ p0 = 6382692) ∧ (p0 = 7566690)) ∨ ((¬ p0 = 1751477348) ∧ (¬ p0 = 7234919) ∧ (¬ p0 = 6382692) ∧ (¬ p0 = 7566690) ∧ (p0 = 7173484)) ∨ ((¬ p0 = 1751477348) ∧ (¬ p0 = 7234919) ∧ (¬ p0 = 6382692) ∧ (¬ p0 = 7566690) ∧ (¬ p0 = 7173484) ∧ (p0 = 6580598)) ∨ ((¬ p0 = 1751477348) ∧ (¬ p0 = 7234919) ∧ (¬ p0 = 6382692) ∧ (¬ p0 = 7566690) ∧ (¬ p0 = 7173484) ∧ (¬ p0 = 6580598) ∧ (p0 = 109300197582190)) ∨ ((¬ p0 = 1751477348) ∧ (¬ p0 = 7234919) ∧ (¬ p0 = 6382692) ∧ (¬ p0 = 7566690) ∧ (¬ p0 = 7173484) ∧ (¬ p0 = 6580598) ∧ (¬ p0 = 109300197582190) ∧ (p0 = 495873782388)) ∨ ((¬ p0 = 1751477348) ∧ (¬ p0 = 7234919) ∧ (¬ p0 = 6382692) ∧ (¬ p0 = 7566690) ∧ (¬ p0 = 7173484) ∧ (¬ p0 = 6580598) ∧ (¬ p0 = 109300197582190) ∧ (¬ p0 = 495873782388) ∧ (p0 = 6647396)) ∨ ((¬ p0 = 1751477348) ∧ (¬ p0 = 7234919) ∧ (¬ p0 = 6382692) ∧ (¬ p0 = 7566690) ∧ (¬ p0 = 7173484) ∧ (¬ p0 = 6580598) ∧ (¬ p0 = 109300197582190) ∧ (¬ p0 = 495873782388) ∧ (¬ p0 = 6647396) ∧ (p0 = 7697253)) ∨ ((¬ p0 = 1751477348) ∧ (¬ p0 = 7234919) ∧ (¬ p0 = 6382692) ∧ (¬ p0 = 7566690) ∧ (¬ p0 = 7173484) ∧ (¬ p0 = 6580598) ∧ (¬ p0 = 109300197582190) ∧ (¬ p0 = 495873782388) ∧ (¬ p0 = 6647396) ∧ (¬ p0 = 7697253) ∧ (p0 = 1668247140))) → K (.inl (some (vI 1))) e M))))))))))))))))))))))))))) ∧ ((((p0 = 427021005669)) ∨ ((¬ p0 = 427021005669) ∧ (p0 = 7364985)) ∨ ((¬ p0 = 427021005669) ∧ (¬ p0 = 7364985) ∧ (p0 = 29807)) ∨ ((¬ p0 = 427021005669) ∧ (¬ p0 = 7364985) ∧ (¬ p0 = 29807) ∧ (p0 = 1768846447)) ∨ ((¬ p0 = 427021005669) ∧ (¬ p0 = 7364985) ∧ (¬ p0 = 29807) ∧ (¬ p0 = 1768846447) ∧ (p0 = 26982)) ∨ ((¬ p0 = 427021005669) ∧ (¬ p0 = 7364985) ∧ (¬ p0 = 29807) ∧ (¬ p0 = 1768846447) ∧ (¬ p0 = 26982) ∧ (p0 = 2003330414)) ∨ ((¬ p0 = 427021005669) ∧ (¬ p0 = 7364985) ∧ (¬ p0 = 29807) ∧ (¬ p0 = 1768846447) ∧ (¬ p0 = 26982) ∧ (¬ p0 = 2003330414) ∧ (p0 = 1667330917)) ∨ ((¬ p0 = 427021005669) ∧ (¬ p0 = 7364985) ∧ (¬ p0 = 29807) ∧ (¬ p0 = 1768846447) ∧ (¬ p0 = 26982) ∧ (¬ p0 = 2003330414) ∧ (¬ p0 = 1667330917) ∧ (p0 = 28259031251642740)) ∨ ((¬ p0 = 427021005669) ∧ (¬ p0 = 7364985) ∧ (¬ p0 = 29807) ∧ (¬ p0 = 1768846447) ∧ (¬ p0 = 26982) ∧ (¬ p0 = 2003330414) ∧ (¬ p0 = 1667330917) ∧ (¬ p0 = 28259031251642740) ∧ (p0 = 109300196926309)) ∨ ((¬ p0 = 427021005669) ∧ (¬ p0 = 7364985) ∧ (¬ p0 = 29807) ∧ (¬ p0 = 1768846447) ∧ (¬ p0 = 26982) ∧ (¬ p0 = 2003330414) ∧ (¬ p0 = 1667330917) ∧ (¬ p0 = 28259031251642740) ∧ (¬ p0 = 109300196926309) ∧ (p0 = 121424973489785)) ∨ ((¬ p0 = 427021005669) ∧ (¬ p0 = 7364985) ∧ (¬ p0 = 29807) ∧ (¬ p0 = 1768846447) ∧ (¬ p0 = 26982) ∧ (¬ p0 = 2003330414) ∧ (¬ p0 = 1667330917) ∧ (¬ p0 = 28259031251642740) ∧ (¬ p0 = 109300196926309) ∧ (¬ p0 = 121424973489785) ∧ (p0 = 7103860)) ∨ ((¬ p0 = 427021005669) ∧ (¬ p0 = 7364985) ∧ (¬ p0 = 29807) ∧ (¬ p0 = 1768846447) ∧ (¬ p0 = 26982) ∧ (¬ p0 = 2003330414) ∧ (¬ p0 = 1667330917) ∧ (¬ p0 = 28259031251642740) ∧ (¬ p0 = 109300196926309) ∧ (¬ p0 = 121424973489785) ∧ (¬ p0 = 7103860) ∧ (p0 = 107148485161588))) → ((((¬ p0 = 1751477348 → ((¬ p0 = 7234919 → ((¬ p0 = 6382692 → ((¬ p0 = 7566690 → ((¬ p0 = 7173484 → ((¬ p0 = 6580598 → ((¬ p0 = 109300197582190 → ((¬ p0 = 495873782388 → ((¬ p0 = 6647396 → ((¬ p0 = 7697253 → ((¬ p0 = 1668247140 → K (.inl (some (vI 1))) e M))))))))))))))))))))))) ∧ ((((p0 = 1751477348)) ∨ ((¬ p0 = 1751477348) ∧ (p0 = 7234919)) ∨ ((¬ p0 = 1751477348) ∧ (¬ p0 = 7234919) ∧ (p0 = 6382692)) ∨ ((¬ p0 = 1751477348) ∧ (¬ p0 = 7234919) ∧ (¬ p0 = 6382692) ∧ (p0 = 7566690)) ∨ ((¬ p0 = 1751477348) ∧ (¬ p0 = 7234919) ∧ (¬ p0 = 6382692) ∧ (¬ p0 = 7566690) ∧ (p0 = 7173484)) ∨ ((¬ p0 = 1751477348) ∧ (¬ p0 = 7234919) ∧ (¬ p0 = 6382692) ∧ (¬ p0 = 7566690) ∧ (¬ p0 = 7173484) ∧ (p0 = 6580598)) ∨ ((¬ p0 = 1751477348) ∧ (¬ p0 = 7234919) ∧ (¬ p0 = 6382692) ∧ (¬ p0 = 7566690) ∧ (¬ p0 = 7173484) ∧ (¬ p0 = 6580598) ∧ (p0 = 109300197582190)) ∨ ((¬ p0 = 1751477348) ∧ (¬ p0 = 7234919) ∧ (¬ p0 = 6382692) ∧ (¬ p0 = 7566690) ∧ (¬ p0 = 7173484) ∧ (¬ p0 = 6580598) ∧ (¬ p0 = 109300197582190) ∧ (p0 = 495873782388)) ∨ ((¬ p0 = 1751477348) ∧ (¬ p0 = 7234919) ∧ (¬ p0 = 6382692) ∧ (¬ p0 = 7566690) ∧ (¬ p0 = 7173484) ∧ (¬ p0 = 6580598) ∧ (¬ p0 = 109300197582190) ∧ (¬ p0 = 495873782388) ∧ (p0 = 6647396)) ∨ ((¬ p0 = 1751477348) ∧ (¬ p0 = 7234919) ∧ (¬ p0 = 6382692) ∧ (¬ p0 = 7566690) ∧ (¬ p0 = 7173484) ∧ (¬ p0 = 6580598) ∧ (¬ p0 = 109300197582190) ∧ (¬ p0 = 495873782388) ∧ (¬ p0 = 6647396) ∧ (p0 = 7697253)) ∨ ((¬ p0 = 1751477348) ∧ (¬ p0 = 7234919) ∧ (¬ p0 = 6382692) ∧ (¬ p0 = 7566690) ∧ (¬ p0 = 7173484) ∧ (¬ p0 = 6580598) ∧ (¬ p0 = 109300197582190) ∧ (¬ p0 = 495873782388) ∧ (¬ p0 = 6647396) ∧ (¬ p0 = 7697253) ∧ (p0 = 1668247140))) → K (.inl (some (vI 1))) e M))))) : im_T g d 281 0 [some (vL p0), none, none, none] [] e M K := by
  refine im_ld (q := 1) (i := 0) D281_0 rfl rfl rfl ?_
  refine im_ldc2 (q := 4) (n := 427021005669) D281_1 rfl ?_
  obtain ⟨hg1, hP⟩ := hP
  obtain ⟨hP, hJ14⟩ := hP
  have kJ15 : (((p0 = 427021005669)) ∨ ((¬ p0 = 427021005669) ∧ (p0 = 7364985)) ∨ ((¬ p0 = 427021005669) ∧ (¬ p0 = 7364985) ∧ (p0 = 29807)) ∨ ((¬ p0 = 427021005669) ∧ (¬ p0 = 7364985) ∧ (¬ p0 = 29807) ∧ (p0 = 1768846447)) ∨ ((¬ p0 = 427021005669) ∧ (¬ p0 = 7364985) ∧ (¬ p0 = 29807) ∧ (¬ p0 = 1768846447) ∧ (p0 = 26982)) ∨ ((¬ p0 = 427021005669) ∧ (¬ p0 = 7364985) ∧ (¬ p0 = 29807) ∧ (¬ p0 = 1768846447) ∧ (¬ p0 = 26982) ∧ (p0 = 2003330414)) ∨ ((¬ p0 = 427021005669) ∧ (¬ p0 = 7364985) ∧ (¬ p0 = 29807) ∧ (¬ p0 = 1768846447) ∧ (¬ p0 = 26982) ∧ (¬ p0 = 2003330414) ∧ (p0 = 1667330917)) ∨ ((¬ p0 = 427021005669) ∧ (¬ p0 = 7364985) ∧ (¬ p0 = 29807) ∧ (¬ p0 = 1768846447) ∧ (¬ p0 = 26982) ∧ (¬ p0 = 2003330414) ∧ (¬ p0 = 1667330917) ∧ (p0 = 28259031251642740)) ∨ ((¬ p0 = 427021005669) ∧ (¬ p0 = 7364985) ∧ (¬ p0 = 29807) ∧ (¬ p0 = 1768846447) ∧ (¬ p0 = 26982) ∧ (¬ p0 = 2003330414) ∧ (¬ p0 = 1667330917) ∧ (¬ p0 = 28259031251642740) ∧ (p0 = 109300196926309)) ∨ ((¬ p0 = 427021005669) ∧ (¬ p0 = 7364985) ∧ (¬ p0 = 29807) ∧ (¬ p0 = 1768846447) ∧ (¬ p0 = 26982) ∧ (¬ p0 = 2003330414) ∧ (¬ p0 = 1667330917) ∧ (¬ p0 = 28259031251642740) ∧ (¬ p0 = 109300196926309) ∧ (p0 = 121424973489785)) ∨ ((¬ p0 = 427021005669) ∧ (¬ p0 = 7364985) ∧ (¬ p0 = 29807) ∧ (¬ p0 = 1768846447) ∧ (¬ p0 = 26982) ∧ (¬ p0 = 2003330414) ∧ (¬ p0 = 1667330917) ∧ (¬ p0 = 28259031251642740) ∧ (¬ p0 = 109300196926309) ∧ (¬ p0 = 121424973489785) ∧ (p0 = 7103860)) ∨ ((¬ p0 = 427021005669) ∧ (¬ p0 = 7364985) ∧ (¬ p0 = 29807) ∧ (¬ p0 = 1768846447) ∧ (¬ p0 = 26982) ∧ (¬ p0 = 2003330414) ∧ (¬ p0 = 1667330917) ∧ (¬ p0 = 28259031251642740) ∧ (¬ p0 = 109300196926309) ∧ (¬ p0 = 121424973489785) ∧ (¬ p0 = 7103860) ∧ (p0 = 107148485161588))) → im_T g d 281 96 [some (vL p0), none, none, none] [] e M K := by
    intro  hx16
    have hP := hJ14  hx16
    refine im_iconst (q := 97) D281_96 ?_
    refine im_goto (q := 100) (t := 101) D281_97 rfl ?_
    refine im_st1 (q := 102) (i := 2) (L' := [some (vL p0), none, some (vI 1), none]) D281_101 (Or.inl ⟨_, rfl, rfl⟩) (Nat.le_of_ble_eq_true rfl) rfl ?_
    refine im_ld (q := 103) (i := 0) D281_102 rfl rfl rfl ?_
    refine im_ldc2 (q := 106) (n := 1751477348) D281_103 rfl ?_
    obtain ⟨hP, hJ28⟩ := hP
    have kJ29 : (((p0 = 1751477348)) ∨ ((¬ p0 = 1751477348) ∧ (p0 = 7234919)) ∨ ((¬ p0 = 1751477348) ∧ (¬ p0 = 7234919) ∧ (p0 = 6382692)) ∨ ((¬ p0 = 1751477348) ∧ (¬ p0 = 7234919) ∧ (¬ p0 = 6382692) ∧ (p0 = 7566690)) ∨ ((¬ p0 = 1751477348) ∧ (¬ p0 = 7234919) ∧ (¬ p0 = 6382692) ∧ (¬ p0 = 7566690) ∧ (p0 = 7173484)) ∨ ((¬ p0 = 1751477348) ∧ (¬ p0 = 7234919) ∧ (¬ p0 = 6382692) ∧ (¬ p0 = 7566690) ∧ (¬ p0 = 7173484) ∧ (p0 = 6580598)) ∨ ((¬ p0 = 1751477348) ∧ (¬ p0 = 7234919) ∧ (¬ p0 = 6382692) ∧ (¬ p0 = 7566690) ∧ (¬ p0 = 7173484) ∧ (¬ p0 = 6580598) ∧ (p0 = 109300197582190)) ∨ ((¬ p0 = 1751477348) ∧ (¬ p0 = 7234919) ∧ (¬ p0 = 6382692) ∧ (¬ p0 = 7566690) ∧ (¬ p0 = 7173484) ∧ (¬ p0 = 6580598) ∧ (¬ p0 = 109300197582190) ∧ (p0 = 495873782388)) ∨ ((¬ p0 = 1751477348) ∧ (¬ p0 = 7234919) ∧ (¬ p0 = 6382692) ∧ (¬ p0 = 7566690) ∧ (¬ p0 = 7173484) ∧ (¬ p0 = 6580598) ∧ (¬ p0 = 109300197582190) ∧ (¬ p0 = 495873782388) ∧ (p0 = 6647396)) ∨ ((¬ p0 = 1751477348) ∧ (¬ p0 = 7234919) ∧ (¬ p0 = 6382692) ∧ (¬ p0 = 7566690) ∧ (¬ p0 = 7173484) ∧ (¬ p0 = 6580598) ∧ (¬ p0 = 109300197582190) ∧ (¬ p0 = 495873782388) ∧ (¬ p0 = 6647396) ∧ (p0 = 7697253)) ∨ ((¬ p0 = 1751477348) ∧ (¬ p0 = 7234919) ∧ (¬ p0 = 6382692) ∧ (¬ p0 = 7566690) ∧ (¬ p0 = 7173484) ∧ (¬ p0 = 6580598) ∧ (¬ p0 = 109300197582190) ∧ (¬ p0 = 495873782388) ∧ (¬ p0 = 6647396) ∧ (¬ p0 = 7697253) ∧ (p0 = 1668247140))) → im_T g d 281 190 [some (vL p0), none, some (vI 1), none] [] e M K := by
      intro  hx30
      have hP := hJ28  hx30
      refine im_iconst (q := 191) D281_190 ?_
      refine im_goto (q := 194) (t := 195) D281_191 rfl ?_
      refine im_st1 (q := 196) (i := 3) (L' := [some (vL p0), none, some (vI 1), some (vI 1)]) D281_195 (Or.inl ⟨_, rfl, rfl⟩) (Nat.le_of_ble_eq_true rfl) rfl ?_
      refine im_ld (q := 197) (i := 2) D281_196 rfl rfl rfl ?_
      refine im_ifc (q := 200) (t := 292) D281_197 rfl (by decide) (fun _ => ?_) (fun hc => absurd (show ¬ (1 : Int) = 0 by decide) hc)
      refine im_iconst (q := 293) D281_292 ?_
      refine im_goto (q := 296) (t := 297) D281_293 rfl ?_
      exact im_zret (q := 298) D281_297 rfl (by decide) hP
    refine im_lif (q := 107) (q2 := 110) (t := 190) D281_106 D281_107 rfl hg1 (by decide) (fun hc17 => ?_) (fun hc17 => ?_)
    · exact (kJ29  (Or.inl hc17)).wk ⟨rfl, rfl, trivial⟩
    · replace hP := hP hc17
      refine im_ld (q := 111) (i := 0) D281_110 rfl rfl rfl ?_
      refine im_ldc2 (q := 114) (n := 7234919) D281_111 rfl ?_
      refine im_lif (q := 115) (q2 := 118) (t := 190) D281_114 D281_115 rfl hg1 (by decide) (fun hc18 => ?_) (fun hc18 => ?_)
      · exact (kJ29  (Or.inr (Or.inl ⟨hc17, hc18⟩))).wk ⟨rfl, rfl, trivial⟩
      · replace hP := hP hc18
        refine im_ld (q := 119) (i := 0) D281_118 rfl rfl rfl ?_
        refine im_ldc2 (q := 122) (n := 6382692) D281_119 rfl ?_
        refine im_lif (q := 123) (q2 := 126) (t := 190) D281_122 D281_123 rfl hg1 (by decide) (fun hc19 => ?_) (fun hc19 => ?_)
        · exact (kJ29  (Or.inr (Or.inr (Or.inl ⟨hc17, hc18, hc19⟩)))).wk ⟨rfl, rfl, trivial⟩
        · replace hP := hP hc19
          refine im_ld (q := 127) (i := 0) D281_126 rfl rfl rfl ?_
          refine im_ldc2 (q := 130) (n := 7566690) D281_127 rfl ?_
          refine im_lif (q := 131) (q2 := 134) (t := 190) D281_130 D281_131 rfl hg1 (by decide) (fun hc20 => ?_) (fun hc20 => ?_)
          · exact (kJ29  (Or.inr (Or.inr (Or.inr (Or.inl ⟨hc17, hc18, hc19, hc20⟩))))).wk ⟨rfl, rfl, trivial⟩
          · replace hP := hP hc20
            refine im_ld (q := 135) (i := 0) D281_134 rfl rfl rfl ?_
            refine im_ldc2 (q := 138) (n := 7173484) D281_135 rfl ?_
            refine im_lif (q := 139) (q2 := 142) (t := 190) D281_138 D281_139 rfl hg1 (by decide) (fun hc21 => ?_) (fun hc21 => ?_)
            · exact (kJ29  (Or.inr (Or.inr (Or.inr (Or.inr (Or.inl ⟨hc17, hc18, hc19, hc20, hc21⟩)))))).wk ⟨rfl, rfl, trivial⟩
            · replace hP := hP hc21
              refine im_ld (q := 143) (i := 0) D281_142 rfl rfl rfl ?_
              refine im_ldc2 (q := 146) (n := 6580598) D281_143 rfl ?_
              refine im_lif (q := 147) (q2 := 150) (t := 190) D281_146 D281_147 rfl hg1 (by decide) (fun hc22 => ?_) (fun hc22 => ?_)
              · exact (kJ29  (Or.inr (Or.inr (Or.inr (Or.inr (Or.inr (Or.inl ⟨hc17, hc18, hc19, hc20, hc21, hc22⟩))))))).wk ⟨rfl, rfl, trivial⟩
              · replace hP := hP hc22
                refine im_ld (q := 151) (i := 0) D281_150 rfl rfl rfl ?_
                refine im_ldc2 (q := 154) (n := 109300197582190) D281_151 rfl ?_
                refine im_lif (q := 155) (q2 := 158) (t := 190) D281_154 D281_155 rfl hg1 (by decide) (fun hc23 => ?_) (fun hc23 => ?_)
                · exact (kJ29  (Or.inr (Or.inr (Or.inr (Or.inr (Or.inr (Or.inr (Or.inl ⟨hc17, hc18, hc19, hc20, hc21, hc22, hc23⟩)))))))).wk ⟨rfl, rfl, trivial⟩
                · replace hP := hP hc23
                  refine im_ld (q := 159) (i := 0) D281_158 rfl rfl rfl ?_
                  refine im_ldc2 (q := 162) (n := 495873782388) D281_159 rfl ?_
                  refine im_lif (q := 163) (q2 := 166) (t := 190) D281_162 D281_163 rfl hg1 (by decide) (fun hc24 => ?_) (fun hc24 => ?_)
                  · exact (kJ29  (Or.inr (Or.inr (Or.inr (Or.inr (Or.inr (Or.inr (Or.inr (Or.inl ⟨hc17, hc18, hc19, hc20, hc21, hc22, hc23, hc24⟩))))))))).wk ⟨rfl, rfl, trivial⟩
                  · replace hP := hP hc24
                    refine im_ld (q := 167) (i := 0) D281_166 rfl rfl rfl ?_
                    refine im_ldc2 (q := 170) (n := 6647396) D281_167 rfl ?_
                    refine im_lif (q := 171) (q2 := 174) (t := 190) D281_170 D281_171 rfl hg1 (by decide) (fun hc25 => ?_) (fun hc25 => ?_)
                    · exact (kJ29  (Or.inr (Or.inr (Or.inr (Or.inr (Or.inr (Or.inr (Or.inr (Or.inr (Or.inl ⟨hc17, hc18, hc19, hc20, hc21, hc22, hc23, hc24, hc25⟩)))))))))).wk ⟨rfl, rfl, trivial⟩
                    · replace hP := hP hc25
                      refine im_ld (q := 175) (i := 0) D281_174 rfl rfl rfl ?_
                      refine im_ldc2 (q := 178) (n := 7697253) D281_175 rfl ?_
                      refine im_lif (q := 179) (q2 := 182) (t := 190) D281_178 D281_179 rfl hg1 (by decide) (fun hc26 => ?_) (fun hc26 => ?_)
                      · exact (kJ29  (Or.inr (Or.inr (Or.inr (Or.inr (Or.inr (Or.inr (Or.inr (Or.inr (Or.inr (Or.inl ⟨hc17, hc18, hc19, hc20, hc21, hc22, hc23, hc24, hc25, hc26⟩))))))))))).wk ⟨rfl, rfl, trivial⟩
                      · replace hP := hP hc26
                        refine im_ld (q := 183) (i := 0) D281_182 rfl rfl rfl ?_
                        refine im_ldc2 (q := 186) (n := 1668247140) D281_183 rfl ?_
                        refine im_lif (q := 187) (q2 := 190) (t := 194) D281_186 D281_187 rfl hg1 (by decide) (fun hc27 => ?_) (fun hc27 => ?_)
                        · replace hP := hP hc27
                          refine im_iconst (q := 195) D281_194 ?_
                          refine im_st1 (q := 196) (i := 3) (L' := [some (vL p0), none, some (vI 1), some (vI 0)]) D281_195 (Or.inl ⟨_, rfl, rfl⟩) (Nat.le_of_ble_eq_true rfl) rfl ?_
                          refine im_ld (q := 197) (i := 2) D281_196 rfl rfl rfl ?_
                          refine im_ifc (q := 200) (t := 292) D281_197 rfl (by decide) (fun _ => ?_) (fun hc => absurd (show ¬ (1 : Int) = 0 by decide) hc)
                          refine im_iconst (q := 293) D281_292 ?_
                          refine im_goto (q := 296) (t := 297) D281_293 rfl ?_
                          exact im_zret (q := 298) D281_297 rfl (by decide) hP
                        · exact (kJ29  (Or.inr (Or.inr (Or.inr (Or.inr (Or.inr (Or.inr (Or.inr (Or.inr (Or.inr (Or.inr ⟨hc17, hc18, hc19, hc20, hc21, hc22, hc23, hc24, hc25, hc26, (Decidable.not_not.mp hc27)⟩))))))))))).wk ⟨rfl, rfl, trivial⟩
  refine im_lif (q := 5) (q2 := 8) (t := 96) D281_4 D281_5 rfl hg1 (by decide) (fun hc2 => ?_) (fun hc2 => ?_)
  · exact (kJ15  (Or.inl hc2)).wk ⟨rfl, trivial⟩
  · replace hP := hP hc2
    refine im_ld (q := 9) (i := 0) D281_8 rfl rfl rfl ?_
    refine im_ldc2 (q := 12) (n := 7364985) D281_9 rfl ?_
    refine im_lif (q := 13) (q2 := 16) (t := 96) D281_12 D281_13 rfl hg1 (by decide) (fun hc3 => ?_) (fun hc3 => ?_)
    · exact (kJ15  (Or.inr (Or.inl ⟨hc2, hc3⟩))).wk ⟨rfl, trivial⟩
    · replace hP := hP hc3
      refine im_ld (q := 17) (i := 0) D281_16 rfl rfl rfl ?_
      refine im_ldc2 (q := 20) (n := 29807) D281_17 rfl ?_
      refine im_lif (q := 21) (q2 := 24) (t := 96) D281_20 D281_21 rfl hg1 (by decide) (fun hc4 => ?_) (fun hc4 => ?_)
      · exact (kJ15  (Or.inr (Or.inr (Or.inl ⟨hc2, hc3, hc4⟩)))).wk ⟨rfl, trivial⟩
      · replace hP := hP hc4
        refine im_ld (q := 25) (i := 0) D281_24 rfl rfl rfl ?_
        refine im_ldc2 (q := 28) (n := 1768846447) D281_25 rfl ?_
        refine im_lif (q := 29) (q2 := 32) (t := 96) D281_28 D281_29 rfl hg1 (by decide) (fun hc5 => ?_) (fun hc5 => ?_)
        · exact (kJ15  (Or.inr (Or.inr (Or.inr (Or.inl ⟨hc2, hc3, hc4, hc5⟩))))).wk ⟨rfl, trivial⟩
        · replace hP := hP hc5
          refine im_ld (q := 33) (i := 0) D281_32 rfl rfl rfl ?_
          refine im_ldc2 (q := 36) (n := 26982) D281_33 rfl ?_
          refine im_lif (q := 37) (q2 := 40) (t := 96) D281_36 D281_37 rfl hg1 (by decide) (fun hc6 => ?_) (fun hc6 => ?_)
          · exact (kJ15  (Or.inr (Or.inr (Or.inr (Or.inr (Or.inl ⟨hc2, hc3, hc4, hc5, hc6⟩)))))).wk ⟨rfl, trivial⟩
          · replace hP := hP hc6
            refine im_ld (q := 41) (i := 0) D281_40 rfl rfl rfl ?_
            refine im_ldc2 (q := 44) (n := 2003330414) D281_41 rfl ?_
            refine im_lif (q := 45) (q2 := 48) (t := 96) D281_44 D281_45 rfl hg1 (by decide) (fun hc7 => ?_) (fun hc7 => ?_)
            · exact (kJ15  (Or.inr (Or.inr (Or.inr (Or.inr (Or.inr (Or.inl ⟨hc2, hc3, hc4, hc5, hc6, hc7⟩))))))).wk ⟨rfl, trivial⟩
            · replace hP := hP hc7
              refine im_ld (q := 49) (i := 0) D281_48 rfl rfl rfl ?_
              refine im_ldc2 (q := 52) (n := 1667330917) D281_49 rfl ?_
              refine im_lif (q := 53) (q2 := 56) (t := 96) D281_52 D281_53 rfl hg1 (by decide) (fun hc8 => ?_) (fun hc8 => ?_)
              · exact (kJ15  (Or.inr (Or.inr (Or.inr (Or.inr (Or.inr (Or.inr (Or.inl ⟨hc2, hc3, hc4, hc5, hc6, hc7, hc8⟩)))))))).wk ⟨rfl, trivial⟩
              · replace hP := hP hc8
                refine im_ld (q := 57) (i := 0) D281_56 rfl rfl rfl ?_
                refine im_ldc2 (q := 60) (n := 28259031251642740) D281_57 rfl ?_
                refine im_lif (q := 61) (q2 := 64) (t := 96) D281_60 D281_61 rfl hg1 (by decide) (fun hc9 => ?_) (fun hc9 => ?_)
                · exact (kJ15  (Or.inr (Or.inr (Or.inr (Or.inr (Or.inr (Or.inr (Or.inr (Or.inl ⟨hc2, hc3, hc4, hc5, hc6, hc7, hc8, hc9⟩))))))))).wk ⟨rfl, trivial⟩
                · replace hP := hP hc9
                  refine im_ld (q := 65) (i := 0) D281_64 rfl rfl rfl ?_
                  refine im_ldc2 (q := 68) (n := 109300196926309) D281_65 rfl ?_
                  refine im_lif (q := 69) (q2 := 72) (t := 96) D281_68 D281_69 rfl hg1 (by decide) (fun hc10 => ?_) (fun hc10 => ?_)
                  · exact (kJ15  (Or.inr (Or.inr (Or.inr (Or.inr (Or.inr (Or.inr (Or.inr (Or.inr (Or.inl ⟨hc2, hc3, hc4, hc5, hc6, hc7, hc8, hc9, hc10⟩)))))))))).wk ⟨rfl, trivial⟩
                  · replace hP := hP hc10
                    refine im_ld (q := 73) (i := 0) D281_72 rfl rfl rfl ?_
                    refine im_ldc2 (q := 76) (n := 121424973489785) D281_73 rfl ?_
                    refine im_lif (q := 77) (q2 := 80) (t := 96) D281_76 D281_77 rfl hg1 (by decide) (fun hc11 => ?_) (fun hc11 => ?_)
                    · exact (kJ15  (Or.inr (Or.inr (Or.inr (Or.inr (Or.inr (Or.inr (Or.inr (Or.inr (Or.inr (Or.inl ⟨hc2, hc3, hc4, hc5, hc6, hc7, hc8, hc9, hc10, hc11⟩))))))))))).wk ⟨rfl, trivial⟩
                    · replace hP := hP hc11
                      refine im_ld (q := 81) (i := 0) D281_80 rfl rfl rfl ?_
                      refine im_ldc2 (q := 84) (n := 7103860) D281_81 rfl ?_
                      refine im_lif (q := 85) (q2 := 88) (t := 96) D281_84 D281_85 rfl hg1 (by decide) (fun hc12 => ?_) (fun hc12 => ?_)
                      · exact (kJ15  (Or.inr (Or.inr (Or.inr (Or.inr (Or.inr (Or.inr (Or.inr (Or.inr (Or.inr (Or.inr (Or.inl ⟨hc2, hc3, hc4, hc5, hc6, hc7, hc8, hc9, hc10, hc11, hc12⟩)))))))))))).wk ⟨rfl, trivial⟩
                      · replace hP := hP hc12
                        refine im_ld (q := 89) (i := 0) D281_88 rfl rfl rfl ?_
                        refine im_ldc2 (q := 92) (n := 107148485161588) D281_89 rfl ?_
                        refine im_lif (q := 93) (q2 := 96) (t := 100) D281_92 D281_93 rfl hg1 (by decide) (fun hc13 => ?_) (fun hc13 => ?_)
                        · replace hP := hP hc13
                          refine im_iconst (q := 101) D281_100 ?_
                          refine im_st1 (q := 102) (i := 2) (L' := [some (vL p0), none, some (vI 0), none]) D281_101 (Or.inl ⟨_, rfl, rfl⟩) (Nat.le_of_ble_eq_true rfl) rfl ?_
                          refine im_ld (q := 103) (i := 0) D281_102 rfl rfl rfl ?_
                          refine im_ldc2 (q := 106) (n := 1751477348) D281_103 rfl ?_
                          obtain ⟨hP, hJ44⟩ := hP
                          have kJ45 : (((p0 = 1751477348)) ∨ ((¬ p0 = 1751477348) ∧ (p0 = 7234919)) ∨ ((¬ p0 = 1751477348) ∧ (¬ p0 = 7234919) ∧ (p0 = 6382692)) ∨ ((¬ p0 = 1751477348) ∧ (¬ p0 = 7234919) ∧ (¬ p0 = 6382692) ∧ (p0 = 7566690)) ∨ ((¬ p0 = 1751477348) ∧ (¬ p0 = 7234919) ∧ (¬ p0 = 6382692) ∧ (¬ p0 = 7566690) ∧ (p0 = 7173484)) ∨ ((¬ p0 = 1751477348) ∧ (¬ p0 = 7234919) ∧ (¬ p0 = 6382692) ∧ (¬ p0 = 7566690) ∧ (¬ p0 = 7173484) ∧ (p0 = 6580598)) ∨ ((¬ p0 = 1751477348) ∧ (¬ p0 = 7234919) ∧ (¬ p0 = 6382692) ∧ (¬ p0 = 7566690) ∧ (¬ p0 = 7173484) ∧ (¬ p0 = 6580598) ∧ (p0 = 109300197582190)) ∨ ((¬ p0 = 1751477348) ∧ (¬ p0 = 7234919) ∧ (¬ p0 = 6382692) ∧ (¬ p0 = 7566690) ∧ (¬ p0 = 7173484) ∧ (¬ p0 = 6580598) ∧ (¬ p0 = 109300197582190) ∧ (p0 = 495873782388)) ∨ ((¬ p0 = 1751477348) ∧ (¬ p0 = 7234919) ∧ (¬ p0 = 6382692) ∧ (¬ p0 = 7566690) ∧ (¬ p0 = 7173484) ∧ (¬ p0 = 6580598) ∧ (¬ p0 = 109300197582190) ∧ (¬ p0 = 495873782388) ∧ (p0 = 6647396)) ∨ ((¬ p0 = 1751477348) ∧ (¬ p0 = 7234919) ∧ (¬ p0 = 6382692) ∧ (¬ p0 = 7566690) ∧ (¬ p0 = 7173484) ∧ (¬ p0 = 6580598) ∧ (¬ p0 = 109300197582190) ∧ (¬ p0 = 495873782388) ∧ (¬ p0 = 6647396) ∧ (p0 = 7697253)) ∨ ((¬ p0 = 1751477348) ∧ (¬ p0 = 7234919) ∧ (¬ p0 = 6382692) ∧ (¬ p0 = 7566690) ∧ (¬ p0 = 7173484) ∧ (¬ p0 = 6580598) ∧ (¬ p0 = 109300197582190) ∧ (¬ p0 = 495873782388) ∧ (¬ p0 = 6647396) ∧ (¬ p0 = 7697253) ∧ (p0 = 1668247140))) → im_T g d 281 190 [some (vL p0), none, some (vI 0), none] [] e M K := by
                            intro  hx46
                            have hP := hJ44  hx46
                            refine im_iconst (q := 191) D281_190 ?_
                            refine im_goto (q := 194) (t := 195) D281_191 rfl ?_
                            refine im_st1 (q := 196) (i := 3) (L' := [some (vL p0), none, some (vI 0), some (vI 1)]) D281_195 (Or.inl ⟨_, rfl, rfl⟩) (Nat.le_of_ble_eq_true rfl) rfl ?_
                            refine im_ld (q := 197) (i := 2) D281_196 rfl rfl rfl ?_
                            refine im_ifc (q := 200) (t := 292) D281_197 rfl (by decide) (fun hc => absurd hc (show ¬ (¬ (0 : Int) = 0) by decide)) (fun _ => ?_)
                            refine im_ld (q := 201) (i := 3) D281_200 rfl rfl rfl ?_
                            refine im_ifc (q := 204) (t := 292) D281_201 rfl (by decide) (fun _ => ?_) (fun hc => absurd (show ¬ (1 : Int) = 0 by decide) hc)
                            refine im_iconst (q := 293) D281_292 ?_
                            refine im_goto (q := 296) (t := 297) D281_293 rfl ?_
                            exact im_zret (q := 298) D281_297 rfl (by decide) hP
                          refine im_lif (q := 107) (q2 := 110) (t := 190) D281_106 D281_107 rfl hg1 (by decide) (fun hc33 => ?_) (fun hc33 => ?_)
                          · exact (kJ45  (Or.inl hc33)).wk ⟨rfl, rfl, trivial⟩
                          · replace hP := hP hc33
                            refine im_ld (q := 111) (i := 0) D281_110 rfl rfl rfl ?_
                            refine im_ldc2 (q := 114) (n := 7234919) D281_111 rfl ?_
                            refine im_lif (q := 115) (q2 := 118) (t := 190) D281_114 D281_115 rfl hg1 (by decide) (fun hc34 => ?_) (fun hc34 => ?_)
                            · exact (kJ45  (Or.inr (Or.inl ⟨hc33, hc34⟩))).wk ⟨rfl, rfl, trivial⟩
                            · replace hP := hP hc34
                              refine im_ld (q := 119) (i := 0) D281_118 rfl rfl rfl ?_
                              refine im_ldc2 (q := 122) (n := 6382692) D281_119 rfl ?_
                              refine im_lif (q := 123) (q2 := 126) (t := 190) D281_122 D281_123 rfl hg1 (by decide) (fun hc35 => ?_) (fun hc35 => ?_)
                              · exact (kJ45  (Or.inr (Or.inr (Or.inl ⟨hc33, hc34, hc35⟩)))).wk ⟨rfl, rfl, trivial⟩
                              · replace hP := hP hc35
                                refine im_ld (q := 127) (i := 0) D281_126 rfl rfl rfl ?_
                                refine im_ldc2 (q := 130) (n := 7566690) D281_127 rfl ?_
                                refine im_lif (q := 131) (q2 := 134) (t := 190) D281_130 D281_131 rfl hg1 (by decide) (fun hc36 => ?_) (fun hc36 => ?_)
                                · exact (kJ45  (Or.inr (Or.inr (Or.inr (Or.inl ⟨hc33, hc34, hc35, hc36⟩))))).wk ⟨rfl, rfl, trivial⟩
                                · replace hP := hP hc36
                                  refine im_ld (q := 135) (i := 0) D281_134 rfl rfl rfl ?_
                                  refine im_ldc2 (q := 138) (n := 7173484) D281_135 rfl ?_
                                  refine im_lif (q := 139) (q2 := 142) (t := 190) D281_138 D281_139 rfl hg1 (by decide) (fun hc37 => ?_) (fun hc37 => ?_)
                                  · exact (kJ45  (Or.inr (Or.inr (Or.inr (Or.inr (Or.inl ⟨hc33, hc34, hc35, hc36, hc37⟩)))))).wk ⟨rfl, rfl, trivial⟩
                                  · replace hP := hP hc37
                                    refine im_ld (q := 143) (i := 0) D281_142 rfl rfl rfl ?_
                                    refine im_ldc2 (q := 146) (n := 6580598) D281_143 rfl ?_
                                    refine im_lif (q := 147) (q2 := 150) (t := 190) D281_146 D281_147 rfl hg1 (by decide) (fun hc38 => ?_) (fun hc38 => ?_)
                                    · exact (kJ45  (Or.inr (Or.inr (Or.inr (Or.inr (Or.inr (Or.inl ⟨hc33, hc34, hc35, hc36, hc37, hc38⟩))))))).wk ⟨rfl, rfl, trivial⟩
                                    · replace hP := hP hc38
                                      refine im_ld (q := 151) (i := 0) D281_150 rfl rfl rfl ?_
                                      refine im_ldc2 (q := 154) (n := 109300197582190) D281_151 rfl ?_
                                      refine im_lif (q := 155) (q2 := 158) (t := 190) D281_154 D281_155 rfl hg1 (by decide) (fun hc39 => ?_) (fun hc39 => ?_)
                                      · exact (kJ45  (Or.inr (Or.inr (Or.inr (Or.inr (Or.inr (Or.inr (Or.inl ⟨hc33, hc34, hc35, hc36, hc37, hc38, hc39⟩)))))))).wk ⟨rfl, rfl, trivial⟩
                                      · replace hP := hP hc39
                                        refine im_ld (q := 159) (i := 0) D281_158 rfl rfl rfl ?_
                                        refine im_ldc2 (q := 162) (n := 495873782388) D281_159 rfl ?_
                                        refine im_lif (q := 163) (q2 := 166) (t := 190) D281_162 D281_163 rfl hg1 (by decide) (fun hc40 => ?_) (fun hc40 => ?_)
                                        · exact (kJ45  (Or.inr (Or.inr (Or.inr (Or.inr (Or.inr (Or.inr (Or.inr (Or.inl ⟨hc33, hc34, hc35, hc36, hc37, hc38, hc39, hc40⟩))))))))).wk ⟨rfl, rfl, trivial⟩
                                        · replace hP := hP hc40
                                          refine im_ld (q := 167) (i := 0) D281_166 rfl rfl rfl ?_
                                          refine im_ldc2 (q := 170) (n := 6647396) D281_167 rfl ?_
                                          refine im_lif (q := 171) (q2 := 174) (t := 190) D281_170 D281_171 rfl hg1 (by decide) (fun hc41 => ?_) (fun hc41 => ?_)
                                          · exact (kJ45  (Or.inr (Or.inr (Or.inr (Or.inr (Or.inr (Or.inr (Or.inr (Or.inr (Or.inl ⟨hc33, hc34, hc35, hc36, hc37, hc38, hc39, hc40, hc41⟩)))))))))).wk ⟨rfl, rfl, trivial⟩
                                          · replace hP := hP hc41
                                            refine im_ld (q := 175) (i := 0) D281_174 rfl rfl rfl ?_
                                            refine im_ldc2 (q := 178) (n := 7697253) D281_175 rfl ?_
                                            refine im_lif (q := 179) (q2 := 182) (t := 190) D281_178 D281_179 rfl hg1 (by decide) (fun hc42 => ?_) (fun hc42 => ?_)
                                            · exact (kJ45  (Or.inr (Or.inr (Or.inr (Or.inr (Or.inr (Or.inr (Or.inr (Or.inr (Or.inr (Or.inl ⟨hc33, hc34, hc35, hc36, hc37, hc38, hc39, hc40, hc41, hc42⟩))))))))))).wk ⟨rfl, rfl, trivial⟩
                                            · replace hP := hP hc42
                                              refine im_ld (q := 183) (i := 0) D281_182 rfl rfl rfl ?_
                                              refine im_ldc2 (q := 186) (n := 1668247140) D281_183 rfl ?_
                                              refine im_lif (q := 187) (q2 := 190) (t := 194) D281_186 D281_187 rfl hg1 (by decide) (fun hc43 => ?_) (fun hc43 => ?_)
                                              · replace hP := hP hc43
                                                refine im_iconst (q := 195) D281_194 ?_
                                                refine im_st1 (q := 196) (i := 3) (L' := [some (vL p0), none, some (vI 0), some (vI 0)]) D281_195 (Or.inl ⟨_, rfl, rfl⟩) (Nat.le_of_ble_eq_true rfl) rfl ?_
                                                refine im_ld (q := 197) (i := 2) D281_196 rfl rfl rfl ?_
                                                refine im_ifc (q := 200) (t := 292) D281_197 rfl (by decide) (fun hc => absurd hc (show ¬ (¬ (0 : Int) = 0) by decide)) (fun _ => ?_)
                                                refine im_ld (q := 201) (i := 3) D281_200 rfl rfl rfl ?_
                                                refine im_ifc (q := 204) (t := 292) D281_201 rfl (by decide) (fun hc => absurd hc (show ¬ (¬ (0 : Int) = 0) by decide)) (fun _ => ?_)
                                                refine im_ld (q := 205) (i := 0) D281_204 rfl rfl rfl ?_
                                                refine im_ldc2 (q := 208) (n := 6385252) D281_205 rfl ?_
                                                obtain ⟨hP, hJ62⟩ := hP
                                                have kJ63 : (((p0 = 6385252)) ∨ ((¬ p0 = 6385252) ∧ (p0 = 28530)) ∨ ((¬ p0 = 6385252) ∧ (¬ p0 = 28530) ∧ (p0 = 7237492)) ∨ ((¬ p0 = 6385252) ∧ (¬ p0 = 28530) ∧ (¬ p0 = 7237492) ∧ (p0 = 426953896805)) ∨ ((¬ p0 = 6385252) ∧ (¬ p0 = 28530) ∧ (¬ p0 = 7237492) ∧ (¬ p0 = 426953896805) ∧ (p0 = 26469)) ∨ ((¬ p0 = 6385252) ∧ (¬ p0 = 28530) ∧ (¬ p0 = 7237492) ∧ (¬ p0 = 426953896805) ∧ (¬ p0 = 26469) ∧ (p0 = 26484)) ∨ ((¬ p0 = 6385252) ∧ (¬ p0 = 28530) ∧ (¬ p0 = 7237492) ∧ (¬ p0 = 426953896805) ∧ (¬ p0 = 26469) ∧ (¬ p0 = 26484) ∧ (p0 = 27749)) ∨ ((¬ p0 = 6385252) ∧ (¬ p0 = 28530) ∧ (¬ p0 = 7237492) ∧ (¬ p0 = 426953896805) ∧ (¬ p0 = 26469) ∧ (¬ p0 = 26484) ∧ (¬ p0 = 27749) ∧ (p0 = 27764)) ∨ ((¬ p0 = 6385252) ∧ (¬ p0 = 28530) ∧ (¬ p0 = 7237492) ∧ (¬ p0 = 426953896805) ∧ (¬ p0 = 26469) ∧ (¬ p0 = 26484) ∧ (¬ p0 = 27749) ∧ (¬ p0 = 27764) ∧ (p0 = 25969)) ∨ ((¬ p0 = 6385252) ∧ (¬ p0 = 28530) ∧ (¬ p0 = 7237492) ∧ (¬ p0 = 426953896805) ∧ (¬ p0 = 26469) ∧ (¬ p0 = 26484) ∧ (¬ p0 = 27749) ∧ (¬ p0 = 27764) ∧ (¬ p0 = 25969) ∧ (p0 = 1953658213)) ∨ ((¬ p0 = 6385252) ∧ (¬ p0 = 28530) ∧ (¬ p0 = 7237492) ∧ (¬ p0 = 426953896805) ∧ (¬ p0 = 26469) ∧ (¬ p0 = 26484) ∧ (¬ p0 = 27749) ∧ (¬ p0 = 27764) ∧ (¬ p0 = 25969) ∧ (¬ p0 = 1953658213) ∧ (p0 = 439721161573))) → im_T g d 281 292 [none, none, none, none] [] e M K := by
                                                  intro  hx64
                                                  have hP := hJ62  hx64
                                                  refine im_iconst (q := 293) D281_292 ?_
                                                  refine im_goto (q := 296) (t := 297) D281_293 rfl ?_
                                                  exact im_zret (q := 298) D281_297 rfl (by decide) hP
                                                refine im_lif (q := 209) (q2 := 212) (t := 292) D281_208 D281_209 rfl hg1 (by decide) (fun hc51 => ?_) (fun hc51 => ?_)
                                                · exact (kJ63  (Or.inl hc51)).wk trivial
                                                · replace hP := hP hc51
                                                  refine im_ld (q := 213) (i := 0) D281_212 rfl rfl rfl ?_
                                                  refine im_ldc2 (q := 216) (n := 28530) D281_213 rfl ?_
                                                  refine im_lif (q := 217) (q2 := 220) (t := 292) D281_216 D281_217 rfl hg1 (by decide) (fun hc52 => ?_) (fun hc52 => ?_)
                                                  · exact (kJ63  (Or.inr (Or.inl ⟨hc51, hc52⟩))).wk trivial
                                                  · replace hP := hP hc52
                                                    refine im_ld (q := 221) (i := 0) D281_220 rfl rfl rfl ?_
                                                    refine im_ldc2 (q := 224) (n := 7237492) D281_221 rfl ?_
                                                    refine im_lif (q := 225) (q2 := 228) (t := 292) D281_224 D281_225 rfl hg1 (by decide) (fun hc53 => ?_) (fun hc53 => ?_)
                                                    · exact (kJ63  (Or.inr (Or.inr (Or.inl ⟨hc51, hc52, hc53⟩)))).wk trivial
                                                    · replace hP := hP hc53
                                                      refine im_ld (q := 229) (i := 0) D281_228 rfl rfl rfl ?_
                                                      refine im_ldc2 (q := 232) (n := 426953896805) D281_229 rfl ?_
                                                      refine im_lif (q := 233) (q2 := 236) (t := 292) D281_232 D281_233 rfl hg1 (by decide) (fun hc54 => ?_) (fun hc54 => ?_)
                                                      · exact (kJ63  (Or.inr (Or.inr (Or.inr (Or.inl ⟨hc51, hc52, hc53, hc54⟩))))).wk trivial
                                                      · replace hP := hP hc54
                                                        refine im_ld (q := 237) (i := 0) D281_236 rfl rfl rfl ?_
                                                        refine im_ldc2 (q := 240) (n := 26469) D281_237 rfl ?_
                                                        refine im_lif (q := 241) (q2 := 244) (t := 292) D281_240 D281_241 rfl hg1 (by decide) (fun hc55 => ?_) (fun hc55 => ?_)
                                                        · exact (kJ63  (Or.inr (Or.inr (Or.inr (Or.inr (Or.inl ⟨hc51, hc52, hc53, hc54, hc55⟩)))))).wk trivial
                                                        · replace hP := hP hc55
                                                          refine im_ld (q := 245) (i := 0) D281_244 rfl rfl rfl ?_
                                                          refine im_ldc2 (q := 248) (n := 26484) D281_245 rfl ?_
                                                          refine im_lif (q := 249) (q2 := 252) (t := 292) D281_248 D281_249 rfl hg1 (by decide) (fun hc56 => ?_) (fun hc56 => ?_)
                                                          · exact (kJ63  (Or.inr (Or.inr (Or.inr (Or.inr (Or.inr (Or.inl ⟨hc51, hc52, hc53, hc54, hc55, hc56⟩))))))).wk trivial
                                                          · replace hP := hP hc56
                                                            refine im_ld (q := 253) (i := 0) D281_252 rfl rfl rfl ?_
                                                            refine im_ldc2 (q := 256) (n := 27749) D281_253 rfl ?_
                                                            refine im_lif (q := 257) (q2 := 260) (t := 292) D281_256 D281_257 rfl hg1 (by decide) (fun hc57 => ?_) (fun hc57 => ?_)
                                                            · exact (kJ63  (Or.inr (Or.inr (Or.inr (Or.inr (Or.inr (Or.inr (Or.inl ⟨hc51, hc52, hc53, hc54, hc55, hc56, hc57⟩)))))))).wk trivial
                                                            · replace hP := hP hc57
                                                              refine im_ld (q := 261) (i := 0) D281_260 rfl rfl rfl ?_
                                                              refine im_ldc2 (q := 264) (n := 27764) D281_261 rfl ?_
                                                              refine im_lif (q := 265) (q2 := 268) (t := 292) D281_264 D281_265 rfl hg1 (by decide) (fun hc58 => ?_) (fun hc58 => ?_)
                                                              · exact (kJ63  (Or.inr (Or.inr (Or.inr (Or.inr (Or.inr (Or.inr (Or.inr (Or.inl ⟨hc51, hc52, hc53, hc54, hc55, hc56, hc57, hc58⟩))))))))).wk trivial
                                                              · replace hP := hP hc58
                                                                refine im_ld (q := 269) (i := 0) D281_268 rfl rfl rfl ?_
                                                                refine im_ldc2 (q := 272) (n := 25969) D281_269 rfl ?_
                                                                refine im_lif (q := 273) (q2 := 276) (t := 292) D281_272 D281_273 rfl hg1 (by decide) (fun hc59 => ?_) (fun hc59 => ?_)
                                                                · exact (kJ63  (Or.inr (Or.inr (Or.inr (Or.inr (Or.inr (Or.inr (Or.inr (Or.inr (Or.inl ⟨hc51, hc52, hc53, hc54, hc55, hc56, hc57, hc58, hc59⟩)))))))))).wk trivial
                                                                · replace hP := hP hc59
                                                                  refine im_ld (q := 277) (i := 0) D281_276 rfl rfl rfl ?_
                                                                  refine im_ldc2 (q := 280) (n := 1953658213) D281_277 rfl ?_
                                                                  refine im_lif (q := 281) (q2 := 284) (t := 292) D281_280 D281_281 rfl hg1 (by decide) (fun hc60 => ?_) (fun hc60 => ?_)
                                                                  · exact (kJ63  (Or.inr (Or.inr (Or.inr (Or.inr (Or.inr (Or.inr (Or.inr (Or.inr (Or.inr (Or.inl ⟨hc51, hc52, hc53, hc54, hc55, hc56, hc57, hc58, hc59, hc60⟩))))))))))).wk trivial
                                                                  · replace hP := hP hc60
                                                                    refine im_ld (q := 285) (i := 0) D281_284 rfl rfl rfl ?_
                                                                    refine im_ldc2 (q := 288) (n := 439721161573) D281_285 rfl ?_
                                                                    refine im_lif (q := 289) (q2 := 292) (t := 296) D281_288 D281_289 rfl hg1 (by decide) (fun hc61 => ?_) (fun hc61 => ?_)
                                                                    · replace hP := hP hc61
                                                                      refine im_iconst (q := 297) D281_296 ?_
                                                                      exact im_zret (q := 298) D281_297 rfl (by decide) hP
                                                                    · exact (kJ63  (Or.inr (Or.inr (Or.inr (Or.inr (Or.inr (Or.inr (Or.inr (Or.inr (Or.inr (Or.inr ⟨hc51, hc52, hc53, hc54, hc55, hc56, hc57, hc58, hc59, hc60, (Decidable.not_not.mp hc61)⟩))))))))))).wk trivial
                                              · exact (kJ45  (Or.inr (Or.inr (Or.inr (Or.inr (Or.inr (Or.inr (Or.inr (Or.inr (Or.inr (Or.inr ⟨hc33, hc34, hc35, hc36, hc37, hc38, hc39, hc40, hc41, hc42, (Decidable.not_not.mp hc43)⟩))))))))))).wk ⟨rfl, rfl, trivial⟩
                        · exact (kJ15  (Or.inr (Or.inr (Or.inr (Or.inr (Or.inr (Or.inr (Or.inr (Or.inr (Or.inr (Or.inr (Or.inr ⟨hc2, hc3, hc4, hc5, hc6, hc7, hc8, hc9, hc10, hc11, hc12, (Decidable.not_not.mp hc13)⟩)))))))))))).wk ⟨rfl, trivial⟩
set_option maxRecDepth 20000 in
set_option maxHeartbeats 4000000 in
theorem b_use_0 {g : im_g} {d : Nat} {e : im_E} {M : im_M} {K : im_K} (hP : K (.inl none) e (im_u M 6952 14 (M 6952 17))) : im_T g d 282 0 [some (.ref 6952)] [] e M K := by
  refine im_ld (q := 1) (i := 0) D282_0 rfl rfl rfl ?_
  refine im_ld (q := 2) (i := 0) D282_1 rfl rfl rfl ?_
  refine im_rng (j := 17) sf_6952 (by decide) (by decide) (fun hr1 => ?_)
  refine im_gfI (q := 5) D282_2 (im_fl cn_282 fl_12_588) sf_6952 rfl rfl tI_12_17 rfl ?_
  refine im_pfI (q := 8) D282_5 (im_fl cn_282 fl_12_601) sf_6952 rfl rfl ti_12_14 hr1 ?_
  exact im_vret (q := 9) D282_8 rfl hP
set_option maxRecDepth 20000 in
set_option maxHeartbeats 4000000 in
theorem b_readContract_0 {g : im_g} {d : Nat} {e : im_E} {M : im_M} {K : im_K} {p1 p2 p3 : Int} (hd : 1 ≤ d) (hP : ((¬ (M 6952 15) = 2 → im_T g (d - 1) 285 0 [some (.ref 6952)] [] e M (im_r0 (fun  e_ M5 => e = e_ ∧ K (.inl none) e M5))) ∧ ((M 6952 15) = 2 → im_T g (d - 1) 284 0 [some (vL (M 6952 18)), none] [] e M (im_ri (fun x8 e_ M7 => e = e_ ∧ (im_i32 x8) ∧ ((¬ x8 = 0 → im_T g (d - 1) 287 0 [some (.ref 6952), some (vI x8), some (vI p3), none] [] e M7 (im_ri (fun x12 e_ M11 => e = e_ ∧ (im_i32 x12) ∧ ((¬ x12 = (-1) → im_T g (d - 1) 288 0 [some (.ref 6952), some (vI p1), some (vI p2), some (vI x12)] [] e M11 (im_r0 (fun  e_ M15 => e = e_ ∧ im_T g (d - 1) 282 0 [some (.ref 6952)] [] e M15 (im_r0 (fun  e_ M16 => e = e_ ∧ ((¬ x8 = 5 → ((¬ x8 = 4 → ((x8 = 1 → K (.inl none) e M16) ∧ (¬ x8 = 1 → im_T g (d - 1) 275 0 [some (.ref 6952), some (vI 1), some (vI x12), some (vI 2), some (vI (p3 + 1))] [] e M16 (im_r0 (fun  e_ M20 => e = e_ ∧ ((∀ x22 : Int, (((¬ x8 = 7) ∧ x22 = 2) ∨ ((x8 = 7) ∧ x22 = 3)) → im_T g (d - 1) 275 0 [some (.ref 6952), some (vI x22), some (vI x12), some (vI 1), some (vI (p3 + 1))] [] e M20 (im_r0 (fun  e_ M26 => e = e_ ∧ ((¬ x8 = 2 → ((x8 = 7 → K (.inl none) e M26) ∧ (¬ x8 = 7 → im_T g (d - 1) 275 0 [some (.ref 6952), some (vI 4), some (vI x12), some (vI 1), some (vI p3)] [] e M26 (im_r0 (fun  e_ M29 => e = e_ ∧ K (.inl none) e M29))))) ∧ (x8 = 2 → im_T g (d - 1) 275 0 [some (.ref 6952), some (vI 4), some (vI x12), some (vI 3), some (vI p3)] [] e M26 (im_r0 (fun  e_ M31 => e = e_ ∧ im_T g (d - 1) 275 0 [some (.ref 6952), some (vI 4), some (vI x12), some (vI 2), some (vI p3)] [] e M31 (im_r0 (fun  e_ M32 => e = e_ ∧ im_T g (d - 1) 275 0 [some (.ref 6952), some (vI 6), some (vI x12), some (vI 0), some (vI p3)] [] e M32 (im_r0 (fun  e_ M33 => e = e_ ∧ ((x8 = 7 → K (.inl none) e M33) ∧ (¬ x8 = 7 → im_T g (d - 1) 275 0 [some (.ref 6952), some (vI 4), some (vI x12), some (vI 1), some (vI p3)] [] e M33 (im_r0 (fun  e_ M35 => e = e_ ∧ K (.inl none) e M35))))))))))))))))))))) ∧ (x8 = 4 → im_T g (d - 1) 275 0 [some (.ref 6952), some (vI 1), some (vI x12), some (vI 3), some (vI (p3 + 1))] [] e M16 (im_r0 (fun  e_ M42 => e = e_ ∧ im_T g (d - 1) 275 0 [some (.ref 6952), some (vI 1), some (vI x12), some (vI 2), some (vI (p3 + 1))] [] e M42 (im_r0 (fun  e_ M43 => e = e_ ∧ im_T g (d - 1) 275 0 [some (.ref 6952), some (vI 3), some (vI x12), some (vI 1), some (vI (p3 + 1))] [] e M43 (im_r0 (fun  e_ M44 => e = e_ ∧ K (.inl none) e M44))))))))) ∧ (x8 = 5 → im_T g (d - 1) 275 0 [some (.ref 6952), some (vI 1), some (vI x12), some (vI 2), some (vI (p3 + 1))] [] e M16 (im_r0 (fun  e_ M48 => e = e_ ∧ im_T g (d - 1) 275 0 [some (.ref 6952), some (vI 9), some (vI x12), some (vI 0), some (vI p3)] [] e M48 (im_r0 (fun  e_ M49 => e = e_ ∧ im_T g (d - 1) 275 0 [some (.ref 6952), some (vI 8), some (vI x12), some (vI 0), some (vI p3)] [] e M49 (im_r0 (fun  e_ M50 => e = e_ ∧ im_T g (d - 1) 275 0 [some (.ref 6952), some (vI 7), some (vI x12), some (vI 0), some (vI p3)] [] e M50 (im_r0 (fun  e_ M51 => e = e_ ∧ K (.inl none) e M51))))))))))))))) ∧ (x12 = (-1) → K (.inl none) e M11))))) ∧ (x8 = 0 → im_T g (d - 1) 285 0 [some (.ref 6952)] [] e M7 (im_r0 (fun  e_ M59 => e = e_ ∧ K (.inl none) e M59))))))))) : im_T g d 283 0 [some (.ref 6952), some (vI p1), some (vI p2), some (vI p3), none, none] [] e M K := by
  refine im_ld (q := 1) (i := 0) D283_0 rfl rfl rfl ?_
  refine im_rng (j := 15) sf_6952 (by decide) (by decide) (fun hr1 => ?_)
  refine im_gfI (q := 4) D283_1 (im_fl cn_283 fl_12_591) sf_6952 rfl rfl tI_12_15 rfl ?_
  refine im_iconst (q := 5) D283_4 ?_
  refine im_icmp (q := 8) (t := 18) D283_5 rfl hr1 (by decide) (fun hc2 => ?_) (fun hc2 => ?_)
  · replace hP := hP.1 hc2
    refine im_iconst (q := 19) D283_18 ?_
    refine im_st1 (q := 21) (i := 4) (L' := [some (.ref 6952), some (vI p1), some (vI p2), some (vI p3), some (vI 0), none]) D283_19 (Or.inr rfl) (Nat.le_of_ble_eq_true rfl) rfl ?_
    refine im_ld (q := 23) (i := 4) D283_21 rfl rfl rfl ?_
    refine im_ifc (q := 26) (t := 31) D283_23 rfl (by decide) (fun hc => absurd hc (show ¬ (¬ (0 : Int) = 0) by decide)) (fun _ => ?_)
    refine im_ld (q := 27) (i := 0) D283_26 rfl rfl rfl ?_
    refine im_callV (q := 30) (kd := 1) (y := 285) (n := 0) (ci := 12) (a := 6952) (vs := [.ref 6952]) (r := []) (L2 := [some (.ref 6952)]) D283_27 (im_cal cn_283 cl_12_639) (Or.inl rfl) rfl sf_6952 rfl rfl rfl rfl hd ⟨rfl, trivial⟩ ?_
    refine hP.mono ?_
    rintro _ e6 M5 ⟨rfl, rfl, hP⟩
    refine im_bkN ?_
    exact im_vret (q := 31) D283_30 rfl hP
  · replace hP := hP.2 (Decidable.not_not.mp hc2)
    refine im_ld (q := 9) (i := 0) D283_8 rfl rfl rfl ?_
    refine im_rng (j := 18) sf_6952 (by decide) (by decide) (fun hr3 => ?_)
    refine im_gfL (q := 12) D283_9 (im_fl cn_283 fl_12_597) sf_6952 rfl rfl tL_12_18 rfl ?_
    refine im_callS (q := 15) (kd := 0) (y := 284) (n := 1) (z := 12) (vs := [vL (M 6952 18)]) (r := []) (L2 := [some (vL (M 6952 18)), none]) D283_12 rfl (im_cal cn_283 cl_12_635) (Or.inl rfl) rfl rfl rfl rfl rfl hd ⟨rfl, trivial⟩ ?_
    refine hP.mono ?_
    rintro _ e61 M7 ⟨x8, rfl, rfl, hP⟩
    refine im_bkS ?_
    refine im_goto (q := 18) (t := 19) D283_15 rfl ?_
    refine im_st1 (q := 21) (i := 4) (L' := [some (.ref 6952), some (vI p1), some (vI p2), some (vI p3), some (vI x8), none]) D283_19 (Or.inr rfl) (Nat.le_of_ble_eq_true rfl) rfl ?_
    refine im_ld (q := 23) (i := 4) D283_21 rfl rfl rfl ?_
    obtain ⟨hg9, hP⟩ := hP
    refine im_ifc (q := 26) (t := 31) D283_23 rfl hg9 (fun hc10 => ?_) (fun hc10 => ?_)
    · replace hP := hP.1 hc10
      refine im_ld (q := 32) (i := 0) D283_31 rfl rfl rfl ?_
      refine im_ld (q := 34) (i := 4) D283_32 rfl rfl rfl ?_
      refine im_ld (q := 35) (i := 3) D283_34 rfl rfl rfl ?_
      refine im_callV (q := 38) (kd := 1) (y := 287) (n := 2) (ci := 12) (a := 6952) (vs := [.ref 6952, vI x8, vI p3]) (r := []) (L2 := [some (.ref 6952), some (vI x8), some (vI p3), none]) D283_35 (im_cal cn_283 cl_12_642) (Or.inl rfl) rfl sf_6952 rfl rfl rfl rfl hd ⟨rfl, rfl, rfl, trivial⟩ ?_
      refine hP.mono ?_
      rintro _ e58 M11 ⟨x12, rfl, rfl, hP⟩
      refine im_bkS ?_
      refine im_st1 (q := 40) (i := 5) (L' := [some (.ref 6952), some (vI p1), some (vI p2), some (vI p3), some (vI x8), some (vI x12)]) D283_38 (Or.inr rfl) (Nat.le_of_ble_eq_true rfl) rfl ?_
      refine im_ld (q := 42) (i := 5) D283_40 rfl rfl rfl ?_
      refine im_iconst (q := 43) D283_42 ?_
      obtain ⟨hg13, hP⟩ := hP
      refine im_icmp (q := 46) (t := 47) D283_43 rfl hg13 (by decide) (fun hc14 => ?_) (fun hc14 => ?_)
      · replace hP := hP.1 hc14
        refine im_ld (q := 48) (i := 0) D283_47 rfl rfl rfl ?_
        refine im_ld (q := 49) (i := 1) D283_48 rfl rfl rfl ?_
        refine im_ld (q := 50) (i := 2) D283_49 rfl rfl rfl ?_
        refine im_ld (q := 52) (i := 5) D283_50 rfl rfl rfl ?_
        refine im_callV (q := 55) (kd := 1) (y := 288) (n := 3) (ci := 12) (a := 6952) (vs := [.ref 6952, vI p1, vI p2, vI x12]) (r := []) (L2 := [some (.ref 6952), some (vI p1), some (vI p2), some (vI x12)]) D283_52 (im_cal cn_283 cl_12_645) (Or.inl rfl) rfl sf_6952 rfl rfl rfl rfl hd ⟨rfl, rfl, rfl, rfl, trivial⟩ ?_
        refine hP.mono ?_
        rintro _ e57 M15 ⟨rfl, rfl, hP⟩
        refine im_bkN ?_
        refine im_ld (q := 56) (i := 0) D283_55 rfl rfl rfl ?_
        refine im_callV (q := 59) (kd := 1) (y := 282) (n := 0) (ci := 12) (a := 6952) (vs := [.ref 6952]) (r := []) (L2 := [some (.ref 6952)]) D283_56 (im_cal cn_283 cl_12_649) (Or.inl rfl) rfl sf_6952 rfl rfl rfl rfl hd ⟨rfl, trivial⟩ ?_
        refine hP.mono ?_
        rintro _ e56 M16 ⟨rfl, rfl, hP⟩
        refine im_bkN ?_
        refine im_ld (q := 61) (i := 4) D283_59 rfl rfl rfl ?_
        refine im_iconst (q := 62) D283_61 ?_
        refine im_icmp (q := 65) (t := 109) D283_62 rfl hg9 (by decide) (fun hc17 => ?_) (fun hc17 => ?_)
        · replace hP := hP.1 hc17
          refine im_ld (q := 111) (i := 4) D283_109 rfl rfl rfl ?_
          refine im_iconst (q := 112) D283_111 ?_
          refine im_icmp (q := 115) (t := 151) D283_112 rfl hg9 (by decide) (fun hc18 => ?_) (fun hc18 => ?_)
          · replace hP := hP.1 hc18
            refine im_ld (q := 153) (i := 4) D283_151 rfl rfl rfl ?_
            refine im_iconst (q := 154) D283_153 ?_
            refine im_icmp (q := 157) (t := 240) D283_154 rfl hg9 (by decide) (fun hc19 => ?_) (fun hc19 => ?_)
            · replace hP := hP.1 hc19
              exact im_vret (q := 241) D283_240 rfl hP
            · replace hP := hP.2 hc19
              refine im_ld (q := 158) (i := 0) D283_157 rfl rfl rfl ?_
              refine im_iconst (q := 159) D283_158 ?_
              refine im_ld (q := 161) (i := 5) D283_159 rfl rfl rfl ?_
              refine im_iconst (q := 162) D283_161 ?_
              refine im_ld (q := 163) (i := 3) D283_162 rfl rfl rfl ?_
              refine im_iconst (q := 164) D283_163 ?_
              refine im_iadd (q := 165) D283_164 ?_
              refine im_callV (q := 168) (kd := 1) (y := 275) (n := 4) (ci := 12) (a := 6952) (vs := [.ref 6952, vI 1, vI x12, vI 2, vI (p3 + 1)]) (r := []) (L2 := [some (.ref 6952), some (vI 1), some (vI x12), some (vI 2), some (vI (p3 + 1))]) D283_165 (im_cal cn_283 cl_12_652) (Or.inl rfl) rfl sf_6952 rfl rfl rfl rfl hd ⟨rfl, rfl, rfl, rfl, rfl, trivial⟩ ?_
              refine hP.mono ?_
              rintro _ e41 M20 ⟨rfl, rfl, hP⟩
              refine im_bkN ?_
              refine im_ld (q := 169) (i := 0) D283_168 rfl rfl rfl ?_
              refine im_ld (q := 171) (i := 4) D283_169 rfl rfl rfl ?_
              refine im_bipush (q := 173) D283_171 rfl ?_
              have hJ23 := hP
              have kJ24 : ∀ x22 : Int, (((¬ x8 = 7) ∧ x22 = 2) ∨ ((x8 = 7) ∧ x22 = 3)) → im_T g d 283 181 [some (.ref 6952), none, none, some (vI p3), some (vI x8), some (vI x12)] [vI x22, .ref 6952] e M20 K := by
                intro x22 hx25
                have hP := hJ23 x22 hx25
                refine im_ld (q := 183) (i := 5) D283_181 rfl rfl rfl ?_
                refine im_iconst (q := 184) D283_183 ?_
                refine im_ld (q := 185) (i := 3) D283_184 rfl rfl rfl ?_
                refine im_iconst (q := 186) D283_185 ?_
                refine im_iadd (q := 187) D283_186 ?_
                refine im_callV (q := 190) (kd := 1) (y := 275) (n := 4) (ci := 12) (a := 6952) (vs := [.ref 6952, vI x22, vI x12, vI 1, vI (p3 + 1)]) (r := []) (L2 := [some (.ref 6952), some (vI x22), some (vI x12), some (vI 1), some (vI (p3 + 1))]) D283_187 (im_cal cn_283 cl_12_652) (Or.inl rfl) rfl sf_6952 rfl rfl rfl rfl hd ⟨rfl, rfl, rfl, rfl, rfl, trivial⟩ ?_
                refine hP.mono ?_
                rintro _ e40 M26 ⟨rfl, rfl, hP⟩
                refine im_bkN ?_
                refine im_ld (q := 192) (i := 4) D283_190 rfl rfl rfl ?_
                refine im_iconst (q := 193) D283_192 ?_
                refine im_icmp (q := 196) (t := 224) D283_193 rfl hg9 (by decide) (fun hc27 => ?_) (fun hc27 => ?_)
                · replace hP := hP.1 hc27
                  refine im_ld (q := 226) (i := 4) D283_224 rfl rfl rfl ?_
                  refine im_bipush (q := 228) D283_226 rfl ?_
                  refine im_icmp (q := 231) (t := 240) D283_228 rfl hg9 (by decide) (fun hc28 => ?_) (fun hc28 => ?_)
                  · replace hP := hP.1 hc28
                    exact im_vret (q := 241) D283_240 rfl hP
                  · replace hP := hP.2 hc28
                    refine im_ld (q := 232) (i := 0) D283_231 rfl rfl rfl ?_
                    refine im_iconst (q := 233) D283_232 ?_
                    refine im_ld (q := 235) (i := 5) D283_233 rfl rfl rfl ?_
                    refine im_iconst (q := 236) D283_235 ?_
                    refine im_ld (q := 237) (i := 3) D283_236 rfl rfl rfl ?_
                    refine im_callV (q := 240) (kd := 1) (y := 275) (n := 4) (ci := 12) (a := 6952) (vs := [.ref 6952, vI 4, vI x12, vI 1, vI p3]) (r := []) (L2 := [some (.ref 6952), some (vI 4), some (vI x12), some (vI 1), some (vI p3)]) D283_237 (im_cal cn_283 cl_12_652) (Or.inl rfl) rfl sf_6952 rfl rfl rfl rfl hd ⟨rfl, rfl, rfl, rfl, rfl, trivial⟩ ?_
                    refine hP.mono ?_
                    rintro _ e30 M29 ⟨rfl, rfl, hP⟩
                    refine im_bkN ?_
                    exact im_vret (q := 241) D283_240 rfl hP
                · replace hP := hP.2 (Decidable.not_not.mp hc27)
                  refine im_ld (q := 197) (i := 0) D283_196 rfl rfl rfl ?_
                  refine im_iconst (q := 198) D283_197 ?_
                  refine im_ld (q := 200) (i := 5) D283_198 rfl rfl rfl ?_
                  refine im_iconst (q := 201) D283_200 ?_
                  refine im_ld (q := 202) (i := 3) D283_201 rfl rfl rfl ?_
                  refine im_callV (q := 205) (kd := 1) (y := 275) (n := 4) (ci := 12) (a := 6952) (vs := [.ref 6952, vI 4, vI x12, vI 3, vI p3]) (r := []) (L2 := [some (.ref 6952), some (vI 4), some (vI x12), some (vI 3), some (vI p3)]) D283_202 (im_cal cn_283 cl_12_652) (Or.inl rfl) rfl sf_6952 rfl rfl rfl rfl hd ⟨rfl, rfl, rfl, rfl, rfl, trivial⟩ ?_
                  refine hP.mono ?_
                  rintro _ e39 M31 ⟨rfl, rfl, hP⟩
                  refine im_bkN ?_
                  refine im_ld (q := 206) (i := 0) D283_205 rfl rfl rfl ?_
                  refine im_iconst (q := 207) D283_206 ?_
                  refine im_ld (q := 209) (i := 5) D283_207 rfl rfl rfl ?_
                  refine im_iconst (q := 210) D283_209 ?_
                  refine im_ld (q := 211) (i := 3) D283_210 rfl rfl rfl ?_
                  refine im_callV (q := 214) (kd := 1) (y := 275) (n := 4) (ci := 12) (a := 6952) (vs := [.ref 6952, vI 4, vI x12, vI 2, vI p3]) (r := []) (L2 := [some (.ref 6952), some (vI 4), some (vI x12), some (vI 2), some (vI p3)]) D283_211 (im_cal cn_283 cl_12_652) (Or.inl rfl) rfl sf_6952 rfl rfl rfl rfl hd ⟨rfl, rfl, rfl, rfl, rfl, trivial⟩ ?_
                  refine hP.mono ?_
                  rintro _ e38 M32 ⟨rfl, rfl, hP⟩
                  refine im_bkN ?_
                  refine im_ld (q := 215) (i := 0) D283_214 rfl rfl rfl ?_
                  refine im_bipush (q := 217) D283_215 rfl ?_
                  refine im_ld (q := 219) (i := 5) D283_217 rfl rfl rfl ?_
                  refine im_iconst (q := 220) D283_219 ?_
                  refine im_ld (q := 221) (i := 3) D283_220 rfl rfl rfl ?_
                  refine im_callV (q := 224) (kd := 1) (y := 275) (n := 4) (ci := 12) (a := 6952) (vs := [.ref 6952, vI 6, vI x12, vI 0, vI p3]) (r := []) (L2 := [some (.ref 6952), some (vI 6), some (vI x12), some (vI 0), some (vI p3)]) D283_221 (im_cal cn_283 cl_12_652) (Or.inl rfl) rfl sf_6952 rfl rfl rfl rfl hd ⟨rfl, rfl, rfl, rfl, rfl, trivial⟩ ?_
                  refine hP.mono ?_
                  rintro _ e37 M33 ⟨rfl, rfl, hP⟩
                  refine im_bkN ?_
                  refine im_ld (q := 226) (i := 4) D283_224 rfl rfl rfl ?_
                  refine im_bipush (q := 228) D283_226 rfl ?_
                  refine im_icmp (q := 231) (t := 240) D283_228 rfl hg9 (by decide) (fun hc34 => ?_) (fun hc34 => ?_)
                  · replace hP := hP.1 hc34
                    exact im_vret (q := 241) D283_240 rfl hP
                  · replace hP := hP.2 hc34
                    refine im_ld (q := 232) (i := 0) D283_231 rfl rfl rfl ?_
                    refine im_iconst (q := 233) D283_232 ?_
                    refine im_ld (q := 235) (i := 5) D283_233 rfl rfl rfl ?_
                    refine im_iconst (q := 236) D283_235 ?_
                    refine im_ld (q := 237) (i := 3) D283_236 rfl rfl rfl ?_
                    refine im_callV (q := 240) (kd := 1) (y := 275) (n := 4) (ci := 12) (a := 6952) (vs := [.ref 6952, vI 4, vI x12, vI 1, vI p3]) (r := []) (L2 := [some (.ref 6952), some (vI 4), some (vI x12), some (vI 1), some (vI p3)]) D283_237 (im_cal cn_283 cl_12_652) (Or.inl rfl) rfl sf_6952 rfl rfl rfl rfl hd ⟨rfl, rfl, rfl, rfl, rfl, trivial⟩ ?_
                    refine hP.mono ?_
                    rintro _ e36 M35 ⟨rfl, rfl, hP⟩
                    refine im_bkN ?_
                    exact im_vret (q := 241) D283_240 rfl hP
              refine im_icmp (q := 176) (t := 180) D283_173 rfl hg9 (by decide) (fun hc21 => ?_) (fun hc21 => ?_)
              · refine im_iconst (q := 181) D283_180 ?_
                exact (kJ24 (2) (Or.inl ⟨hc21, rfl⟩)).wk ⟨rfl, rfl, rfl, rfl, trivial⟩
              · refine im_iconst (q := 177) D283_176 ?_
                refine im_goto (q := 180) (t := 181) D283_177 rfl ?_
                exact (kJ24 (3) (Or.inr ⟨(Decidable.not_not.mp hc21), rfl⟩)).wk ⟨rfl, rfl, rfl, rfl, trivial⟩
          · replace hP := hP.2 (Decidable.not_not.mp hc18)
            refine im_ld (q := 116) (i := 0) D283_115 rfl rfl rfl ?_
            refine im_iconst (q := 117) D283_116 ?_
            refine im_ld (q := 119) (i := 5) D283_117 rfl rfl rfl ?_
            refine im_iconst (q := 120) D283_119 ?_
            refine im_ld (q := 121) (i := 3) D283_120 rfl rfl rfl ?_
            refine im_iconst (q := 122) D283_121 ?_
            refine im_iadd (q := 123) D283_122 ?_
            refine im_callV (q := 126) (kd := 1) (y := 275) (n := 4) (ci := 12) (a := 6952) (vs := [.ref 6952, vI 1, vI x12, vI 3, vI (p3 + 1)]) (r := []) (L2 := [some (.ref 6952), some (vI 1), some (vI x12), some (vI 3), some (vI (p3 + 1))]) D283_123 (im_cal cn_283 cl_12_652) (Or.inl rfl) rfl sf_6952 rfl rfl rfl rfl hd ⟨rfl, rfl, rfl, rfl, rfl, trivial⟩ ?_
            refine hP.mono ?_
            rintro _ e47 M42 ⟨rfl, rfl, hP⟩
            refine im_bkN ?_
            refine im_ld (q := 127) (i := 0) D283_126 rfl rfl rfl ?_
            refine im_iconst (q := 128) D283_127 ?_
            refine im_ld (q := 130) (i := 5) D283_128 rfl rfl rfl ?_
            refine im_iconst (q := 131) D283_130 ?_
            refine im_ld (q := 132) (i := 3) D283_131 rfl rfl rfl ?_
            refine im_iconst (q := 133) D283_132 ?_
            refine im_iadd (q := 134) D283_133 ?_
            refine im_callV (q := 137) (kd := 1) (y := 275) (n := 4) (ci := 12) (a := 6952) (vs := [.ref 6952, vI 1, vI x12, vI 2, vI (p3 + 1)]) (r := []) (L2 := [some (.ref 6952), some (vI 1), some (vI x12), some (vI 2), some (vI (p3 + 1))]) D283_134 (im_cal cn_283 cl_12_652) (Or.inl rfl) rfl sf_6952 rfl rfl rfl rfl hd ⟨rfl, rfl, rfl, rfl, rfl, trivial⟩ ?_
            refine hP.mono ?_
            rintro _ e46 M43 ⟨rfl, rfl, hP⟩
            refine im_bkN ?_
            refine im_ld (q := 138) (i := 0) D283_137 rfl rfl rfl ?_
            refine im_iconst (q := 139) D283_138 ?_
            refine im_ld (q := 141) (i := 5) D283_139 rfl rfl rfl ?_
            refine im_iconst (q := 142) D283_141 ?_
            refine im_ld (q := 143) (i := 3) D283_142 rfl rfl rfl ?_
            refine im_iconst (q := 144) D283_143 ?_
            refine im_iadd (q := 145) D283_144 ?_
            refine im_callV (q := 148) (kd := 1) (y := 275) (n := 4) (ci := 12) (a := 6952) (vs := [.ref 6952, vI 3, vI x12, vI 1, vI (p3 + 1)]) (r := []) (L2 := [some (.ref 6952), some (vI 3), some (vI x12), some (vI 1), some (vI (p3 + 1))]) D283_145 (im_cal cn_283 cl_12_652) (Or.inl rfl) rfl sf_6952 rfl rfl rfl rfl hd ⟨rfl, rfl, rfl, rfl, rfl, trivial⟩ ?_
            refine hP.mono ?_
            rintro _ e45 M44 ⟨rfl, rfl, hP⟩
            refine im_bkN ?_
            refine im_goto (q := 151) (t := 240) D283_148 rfl ?_
            exact im_vret (q := 241) D283_240 rfl hP
        · replace hP := hP.2 (Decidable.not_not.mp hc17)
          refine im_ld (q := 66) (i := 0) D283_65 rfl rfl rfl ?_
          refine im_iconst (q := 67) D283_66 ?_
          refine im_ld (q := 69) (i := 5) D283_67 rfl rfl rfl ?_
          refine im_iconst (q := 70) D283_69 ?_
          refine im_ld (q := 71) (i := 3) D283_70 rfl rfl rfl ?_
          refine im_iconst (q := 72) D283_71 ?_
          refine im_iadd (q := 73) D283_72 ?_
          refine im_callV (q := 76) (kd := 1) (y := 275) (n := 4) (ci := 12) (a := 6952) (vs := [.ref 6952, vI 1, vI x12, vI 2, vI (p3 + 1)]) (r := []) (L2 := [some (.ref 6952), some (vI 1), some (vI x12), some (vI 2), some (vI (p3 + 1))]) D283_73 (im_cal cn_283 cl_12_652) (Or.inl rfl) rfl sf_6952 rfl rfl rfl rfl hd ⟨rfl, rfl, rfl, rfl, rfl, trivial⟩ ?_
          refine hP.mono ?_
          rintro _ e55 M48 ⟨rfl, rfl, hP⟩
          refine im_bkN ?_
          refine im_ld (q := 77) (i := 0) D283_76 rfl rfl rfl ?_
          refine im_bipush (q := 79) D283_77 rfl ?_
          refine im_ld (q := 81) (i := 5) D283_79 rfl rfl rfl ?_
          refine im_iconst (q := 82) D283_81 ?_
          refine im_ld (q := 83) (i := 3) D283_82 rfl rfl rfl ?_
          refine im_callV (q := 86) (kd := 1) (y := 275) (n := 4) (ci := 12) (a := 6952) (vs := [.ref 6952, vI 9, vI x12, vI 0, vI p3]) (r := []) (L2 := [some (.ref 6952), some (vI 9), some (vI x12), some (vI 0), some (vI p3)]) D283_83 (im_cal cn_283 cl_12_652) (Or.inl rfl) rfl sf_6952 rfl rfl rfl rfl hd ⟨rfl, rfl, rfl, rfl, rfl, trivial⟩ ?_
          refine hP.mono ?_
          rintro _ e54 M49 ⟨rfl, rfl, hP⟩
          refine im_bkN ?_
          refine im_ld (q := 87) (i := 0) D283_86 rfl rfl rfl ?_
          refine im_bipush (q := 89) D283_87 rfl ?_
          refine im_ld (q := 91) (i := 5) D283_89 rfl rfl rfl ?_
          refine im_iconst (q := 92) D283_91 ?_
          refine im_ld (q := 93) (i := 3) D283_92 rfl rfl rfl ?_
          refine im_callV (q := 96) (kd := 1) (y := 275) (n := 4) (ci := 12) (a := 6952) (vs := [.ref 6952, vI 8, vI x12, vI 0, vI p3]) (r := []) (L2 := [some (.ref 6952), some (vI 8), some (vI x12), some (vI 0), some (vI p3)]) D283_93 (im_cal cn_283 cl_12_652) (Or.inl rfl) rfl sf_6952 rfl rfl rfl rfl hd ⟨rfl, rfl, rfl, rfl, rfl, trivial⟩ ?_
          refine hP.mono ?_
          rintro _ e53 M50 ⟨rfl, rfl, hP⟩
          refine im_bkN ?_
          refine im_ld (q := 97) (i := 0) D283_96 rfl rfl rfl ?_
          refine im_bipush (q := 99) D283_97 rfl ?_
          refine im_ld (q := 101) (i := 5) D283_99 rfl rfl rfl ?_
          refine im_iconst (q := 102) D283_101 ?_
          refine im_ld (q := 103) (i := 3) D283_102 rfl rfl rfl ?_
          refine im_callV (q := 106) (kd := 1) (y := 275) (n := 4) (ci := 12) (a := 6952) (vs := [.ref 6952, vI 7, vI x12, vI 0, vI p3]) (r := []) (L2 := [some (.ref 6952), some (vI 7), some (vI x12), some (vI 0), some (vI p3)]) D283_103 (im_cal cn_283 cl_12_652) (Or.inl rfl) rfl sf_6952 rfl rfl rfl rfl hd ⟨rfl, rfl, rfl, rfl, rfl, trivial⟩ ?_
          refine hP.mono ?_
          rintro _ e52 M51 ⟨rfl, rfl, hP⟩
          refine im_bkN ?_
          refine im_goto (q := 109) (t := 240) D283_106 rfl ?_
          exact im_vret (q := 241) D283_240 rfl hP
      · replace hP := hP.2 (Decidable.not_not.mp hc14)
        exact im_vret (q := 47) D283_46 rfl hP
    · replace hP := hP.2 (Decidable.not_not.mp hc10)
      refine im_ld (q := 27) (i := 0) D283_26 rfl rfl rfl ?_
      refine im_callV (q := 30) (kd := 1) (y := 285) (n := 0) (ci := 12) (a := 6952) (vs := [.ref 6952]) (r := []) (L2 := [some (.ref 6952)]) D283_27 (im_cal cn_283 cl_12_639) (Or.inl rfl) rfl sf_6952 rfl rfl rfl rfl hd ⟨rfl, trivial⟩ ?_
      refine hP.mono ?_
      rintro _ e60 M59 ⟨rfl, rfl, hP⟩
      refine im_bkN ?_
      exact im_vret (q := 31) D283_30 rfl hP
set_option maxRecDepth 20000 in
set_option maxHeartbeats 4000000 in
theorem b_contractOf_0 {g : im_g} {d : Nat} {e : im_E} {M : im_M} {K : im_K} {p0 : Int} (hP : (im_i64 p0) ∧ ((∀ x8 : Int, (((¬ p0 = 427021005669) ∧ (¬ p0 = 7364985) ∧ (¬ p0 = 26982) ∧ (¬ p0 = 2003330414) ∧ (¬ p0 = 7103860) ∧ (¬ p0 = 107148485161588) ∧ x8 = 0) ∨ ((¬ p0 = 427021005669) ∧ (¬ p0 = 7364985) ∧ (¬ p0 = 26982) ∧ (¬ p0 = 2003330414) ∧ (¬ p0 = 7103860) ∧ (p0 = 107148485161588) ∧ x8 = 7) ∨ ((¬ p0 = 427021005669) ∧ (¬ p0 = 7364985) ∧ (¬ p0 = 26982) ∧ (¬ p0 = 2003330414) ∧ (p0 = 7103860) ∧ x8 = 6) ∨ ((¬ p0 = 427021005669) ∧ (¬ p0 = 7364985) ∧ (¬ p0 = 26982) ∧ (p0 = 2003330414) ∧ x8 = 5) ∨ ((¬ p0 = 427021005669) ∧ (¬ p0 = 7364985) ∧ (p0 = 26982) ∧ x8 = 4) ∨ ((¬ p0 = 427021005669) ∧ (p0 = 7364985) ∧ x8 = 2) ∨ ((p0 = 427021005669) ∧ x8 = 1)) → K (.inl (some (vI x8))) e M))) : im_T g d 284 0 [some (vL p0), none] [] e M K := by
  refine im_ld (q := 1) (i := 0) D284_0 rfl rfl rfl ?_
  refine im_ldc2 (q := 4) (n := 427021005669) D284_1 rfl ?_
  obtain ⟨hg1, hP⟩ := hP
  have hJ9 := hP
  have kJ10 : ∀ x8 : Int, (((¬ p0 = 427021005669) ∧ (¬ p0 = 7364985) ∧ (¬ p0 = 26982) ∧ (¬ p0 = 2003330414) ∧ (¬ p0 = 7103860) ∧ (¬ p0 = 107148485161588) ∧ x8 = 0) ∨ ((¬ p0 = 427021005669) ∧ (¬ p0 = 7364985) ∧ (¬ p0 = 26982) ∧ (¬ p0 = 2003330414) ∧ (¬ p0 = 7103860) ∧ (p0 = 107148485161588) ∧ x8 = 7) ∨ ((¬ p0 = 427021005669) ∧ (¬ p0 = 7364985) ∧ (¬ p0 = 26982) ∧ (¬ p0 = 2003330414) ∧ (p0 = 7103860) ∧ x8 = 6) ∨ ((¬ p0 = 427021005669) ∧ (¬ p0 = 7364985) ∧ (¬ p0 = 26982) ∧ (p0 = 2003330414) ∧ x8 = 5) ∨ ((¬ p0 = 427021005669) ∧ (¬ p0 = 7364985) ∧ (p0 = 26982) ∧ x8 = 4) ∨ ((¬ p0 = 427021005669) ∧ (p0 = 7364985) ∧ x8 = 2) ∨ ((p0 = 427021005669) ∧ x8 = 1)) → im_T g d 284 75 [none, none] [vI x8] e M K := by
    intro x8 hx11
    have hP := hJ9 x8 hx11
    exact im_iret (q := 76) D284_75 rfl hP
  refine im_lif (q := 5) (q2 := 8) (t := 12) D284_4 D284_5 rfl hg1 (by decide) (fun hc2 => ?_) (fun hc2 => ?_)
  · refine im_ld (q := 13) (i := 0) D284_12 rfl rfl rfl ?_
    refine im_ldc2 (q := 16) (n := 7364985) D284_13 rfl ?_
    refine im_lif (q := 17) (q2 := 20) (t := 24) D284_16 D284_17 rfl hg1 (by decide) (fun hc3 => ?_) (fun hc3 => ?_)
    · refine im_ld (q := 25) (i := 0) D284_24 rfl rfl rfl ?_
      refine im_ldc2 (q := 28) (n := 26982) D284_25 rfl ?_
      refine im_lif (q := 29) (q2 := 32) (t := 36) D284_28 D284_29 rfl hg1 (by decide) (fun hc4 => ?_) (fun hc4 => ?_)
      · refine im_ld (q := 37) (i := 0) D284_36 rfl rfl rfl ?_
        refine im_ldc2 (q := 40) (n := 2003330414) D284_37 rfl ?_
        refine im_lif (q := 41) (q2 := 44) (t := 48) D284_40 D284_41 rfl hg1 (by decide) (fun hc5 => ?_) (fun hc5 => ?_)
        · refine im_ld (q := 49) (i := 0) D284_48 rfl rfl rfl ?_
          refine im_ldc2 (q := 52) (n := 7103860) D284_49 rfl ?_
          refine im_lif (q := 53) (q2 := 56) (t := 61) D284_52 D284_53 rfl hg1 (by decide) (fun hc6 => ?_) (fun hc6 => ?_)
          · refine im_ld (q := 62) (i := 0) D284_61 rfl rfl rfl ?_
            refine im_ldc2 (q := 65) (n := 107148485161588) D284_62 rfl ?_
            refine im_lif (q := 66) (q2 := 69) (t := 74) D284_65 D284_66 rfl hg1 (by decide) (fun hc7 => ?_) (fun hc7 => ?_)
            · refine im_iconst (q := 75) D284_74 ?_
              exact (kJ10 (0) (Or.inl ⟨hc2, hc3, hc4, hc5, hc6, hc7, rfl⟩)).wk trivial
            · refine im_bipush (q := 71) D284_69 rfl ?_
              refine im_goto (q := 74) (t := 75) D284_71 rfl ?_
              exact (kJ10 (7) (Or.inr (Or.inl ⟨hc2, hc3, hc4, hc5, hc6, (Decidable.not_not.mp hc7), rfl⟩))).wk trivial
          · refine im_bipush (q := 58) D284_56 rfl ?_
            refine im_goto (q := 61) (t := 75) D284_58 rfl ?_
            exact (kJ10 (6) (Or.inr (Or.inr (Or.inl ⟨hc2, hc3, hc4, hc5, (Decidable.not_not.mp hc6), rfl⟩)))).wk trivial
        · refine im_iconst (q := 45) D284_44 ?_
          refine im_goto (q := 48) (t := 75) D284_45 rfl ?_
          exact (kJ10 (5) (Or.inr (Or.inr (Or.inr (Or.inl ⟨hc2, hc3, hc4, (Decidable.not_not.mp hc5), rfl⟩))))).wk trivial
      · refine im_iconst (q := 33) D284_32 ?_
        refine im_goto (q := 36) (t := 75) D284_33 rfl ?_
        exact (kJ10 (4) (Or.inr (Or.inr (Or.inr (Or.inr (Or.inl ⟨hc2, hc3, (Decidable.not_not.mp hc4), rfl⟩)))))).wk trivial
    · refine im_iconst (q := 21) D284_20 ?_
      refine im_goto (q := 24) (t := 75) D284_21 rfl ?_
      exact (kJ10 (2) (Or.inr (Or.inr (Or.inr (Or.inr (Or.inr (Or.inl ⟨hc2, (Decidable.not_not.mp hc3), rfl⟩))))))).wk trivial
  · refine im_iconst (q := 9) D284_8 ?_
    refine im_goto (q := 12) (t := 75) D284_9 rfl ?_
    exact (kJ10 (1) (Or.inr (Or.inr (Or.inr (Or.inr (Or.inr (Or.inr ⟨(Decidable.not_not.mp hc2), rfl⟩))))))).wk trivial
set_option maxRecDepth 20000 in
set_option maxHeartbeats 4000000 in
theorem b_failToken_0 {g : im_g} {d : Nat} {e : im_E} {M : im_M} {K : im_K} (hd : 1 ≤ d) (hP : ((∀ x7 : Int, (((¬ (M 6952 15) = 9) ∧ (¬ (M 6952 15) = 10) ∧ (¬ (M 6952 15) = 0) ∧ x7 = 4) ∨ ((¬ (M 6952 15) = 9) ∧ (¬ (M 6952 15) = 10) ∧ ((M 6952 15) = 0) ∧ x7 = 3) ∨ ((¬ (M 6952 15) = 9) ∧ ((M 6952 15) = 10) ∧ x7 = 2) ∨ (((M 6952 15) = 9) ∧ x7 = 1)) → im_T g (d - 1) 286 0 [some (.ref 6952), some (vI x7)] [] e M (im_r0 (fun  e_ M11 => e = e_ ∧ K (.inl none) e M11))))) : im_T g d 285 0 [some (.ref 6952)] [] e M K := by
  refine im_ld (q := 1) (i := 0) D285_0 rfl rfl rfl ?_
  refine im_ld (q := 2) (i := 0) D285_1 rfl rfl rfl ?_
  refine im_rng (j := 15) sf_6952 (by decide) (by decide) (fun hr1 => ?_)
  refine im_gfI (q := 5) D285_2 (im_fl cn_285 fl_12_591) sf_6952 rfl rfl tI_12_15 rfl ?_
  refine im_bipush (q := 7) D285_5 rfl ?_
  have hJ8 := hP
  have kJ9 : ∀ x7 : Int, (((¬ (M 6952 15) = 9) ∧ (¬ (M 6952 15) = 10) ∧ (¬ (M 6952 15) = 0) ∧ x7 = 4) ∨ ((¬ (M 6952 15) = 9) ∧ (¬ (M 6952 15) = 10) ∧ ((M 6952 15) = 0) ∧ x7 = 3) ∨ ((¬ (M 6952 15) = 9) ∧ ((M 6952 15) = 10) ∧ x7 = 2) ∨ (((M 6952 15) = 9) ∧ x7 = 1)) → im_T g d 285 39 [none] [vI x7, .ref 6952] e M K := by
    intro x7 hx10
    have hP := hJ8 x7 hx10
    refine im_callV (q := 42) (kd := 1) (y := 286) (n := 1) (ci := 12) (a := 6952) (vs := [.ref 6952, vI x7]) (r := []) (L2 := [some (.ref 6952), some (vI x7)]) D285_39 (im_cal cn_285 cl_12_614) (Or.inl rfl) rfl sf_6952 rfl rfl rfl rfl hd ⟨rfl, rfl, trivial⟩ ?_
    refine hP.mono ?_
    rintro _ e12 M11 ⟨rfl, rfl, hP⟩
    refine im_bkN ?_
    exact im_vret (q := 43) D285_42 rfl hP
  refine im_icmp (q := 10) (t := 14) D285_7 rfl hr1 (by decide) (fun hc2 => ?_) (fun hc2 => ?_)
  · refine im_ld (q := 15) (i := 0) D285_14 rfl rfl rfl ?_
    refine im_gfI (q := 18) D285_15 (im_fl cn_285 fl_12_591) sf_6952 rfl rfl tI_12_15 rfl ?_
    refine im_bipush (q := 20) D285_18 rfl ?_
    refine im_icmp (q := 23) (t := 27) D285_20 rfl hr1 (by decide) (fun hc4 => ?_) (fun hc4 => ?_)
    · refine im_ld (q := 28) (i := 0) D285_27 rfl rfl rfl ?_
      refine im_gfI (q := 31) D285_28 (im_fl cn_285 fl_12_591) sf_6952 rfl rfl tI_12_15 rfl ?_
      refine im_ifc (q := 34) (t := 38) D285_31 rfl hr1 (fun hc6 => ?_) (fun hc6 => ?_)
      · refine im_iconst (q := 39) D285_38 ?_
        exact (kJ9 (4) (Or.inl ⟨hc2, hc4, hc6, rfl⟩)).wk trivial
      · refine im_iconst (q := 35) D285_34 ?_
        refine im_goto (q := 38) (t := 39) D285_35 rfl ?_
        exact (kJ9 (3) (Or.inr (Or.inl ⟨hc2, hc4, (Decidable.not_not.mp hc6), rfl⟩))).wk trivial
    · refine im_iconst (q := 24) D285_23 ?_
      refine im_goto (q := 27) (t := 39) D285_24 rfl ?_
      exact (kJ9 (2) (Or.inr (Or.inr (Or.inl ⟨hc2, (Decidable.not_not.mp hc4), rfl⟩)))).wk trivial
  · refine im_iconst (q := 11) D285_10 ?_
    refine im_goto (q := 14) (t := 39) D285_11 rfl ?_
    exact (kJ9 (1) (Or.inr (Or.inr (Or.inr ⟨(Decidable.not_not.mp hc2), rfl⟩)))).wk trivial
set_option maxRecDepth 20000 in
set_option maxHeartbeats 4000000 in
theorem b_fail_0 {g : im_g} {d : Nat} {e : im_E} {M : im_M} {K : im_K} {p1 : Int} (hP : ((¬ (M 6952 19) = 0 → K (.inl none) e M) ∧ ((M 6952 19) = 0 → (im_i32 p1) ∧ K (.inl none) e (im_u (im_u M 6952 19 p1) 6952 20 (M 6952 16))))) : im_T g d 286 0 [some (.ref 6952), some (vI p1)] [] e M K := by
  refine im_ld (q := 1) (i := 0) D286_0 rfl rfl rfl ?_
  refine im_rng (j := 19) sf_6952 (by decide) (by decide) (fun hr1 => ?_)
  refine im_gfI (q := 4) D286_1 (im_fl cn_286 fl_12_403) sf_6952 rfl rfl tI_12_19 rfl ?_
  refine im_ifc (q := 7) (t := 20) D286_4 rfl hr1 (fun hc2 => ?_) (fun hc2 => ?_)
  · replace hP := hP.1 hc2
    exact im_vret (q := 21) D286_20 rfl hP
  · replace hP := hP.2 (Decidable.not_not.mp hc2)
    refine im_ld (q := 8) (i := 0) D286_7 rfl rfl rfl ?_
    refine im_ld (q := 9) (i := 1) D286_8 rfl rfl rfl ?_
    obtain ⟨hg3, hP⟩ := hP
    refine im_pfI (q := 12) D286_9 (im_fl cn_286 fl_12_403) sf_6952 rfl rfl ti_12_19 hg3 ?_
    refine im_ld (q := 13) (i := 0) D286_12 rfl rfl rfl ?_
    refine im_ld (q := 14) (i := 0) D286_13 rfl rfl rfl ?_
    refine im_rng (j := 16) sf_6952 (by decide) (by decide) (fun hr4 => ?_)
    refine im_gfI (q := 17) D286_14 (im_fl cn_286 fl_12_585) sf_6952 rfl rfl tI_12_16 (im_rdk _ _ _ (by decide)) ?_
    refine im_pfI (q := 20) D286_17 (im_fl cn_286 fl_12_406) sf_6952 rfl rfl ti_12_20 (im_rgc hr4 (im_rdk _ _ _ (by decide))) ?_
    exact im_vret (q := 21) D286_20 rfl hP
set_option maxRecDepth 20000 in
set_option maxHeartbeats 4000000 in
theorem b_node_0 {g : im_g} {d : Nat} {e : im_E} {M : im_M} {K : im_K} {p1 p2 : Int} (hd : 1 ≤ d) (hP : (im_i32 p2) ∧ ((((p2 ≤ 100 → (im_i32 ((M 6952 39) - (M 6952 38))) ∧ ((¬ ((M 6952 39) - (M 6952 38)) = 1000 → (im_i32 ((M 6952 39) + 1)) ∧ (0 ≤ (M 6952 39) ∧ (M 6952 39) < 5100) ∧ (im_i32 p1) ∧ K (.inl (some (vI (M 6952 39)))) e (im_u (im_u (im_u (im_u (im_u (im_u (im_u (im_u (im_u (im_u (im_u M 6952 39 ((M 6952 39) + 1)) 6960 (M 6952 39) p1) 6961 (M 6952 39) 0) 6962 (M 6952 39) 0) 6963 (M 6952 39) 0) 6964 (M 6952 39) (-1)) 6965 (M 6952 39) (-1)) 6966 (M 6952 39) (-1)) 6967 (M 6952 39) (-1)) 6970 (M 6952 39) 0) 6972 (M 6952 39) 0)))))) ∧ ((((100 < p2)) ∨ ((p2 ≤ 100) ∧ (((M 6952 39) - (M 6952 38)) = 1000))) → im_T g (d - 1) 286 0 [some (.ref 6952), some (vI 7)] [] e M (im_r0 (fun  e_ M11 => e = e_ ∧ K (.inl (some (vI (-1)))) e M11))))) : im_T g d 287 0 [some (.ref 6952), some (vI p1), some (vI p2), none] [] e M K := by
  refine im_ld (q := 1) (i := 2) D287_0 rfl rfl rfl ?_
  refine im_bipush (q := 3) D287_1 rfl ?_
  obtain ⟨hg1, hP⟩ := hP
  obtain ⟨hP, hJ8⟩ := hP
  have kJ9 : (((100 < p2)) ∨ ((p2 ≤ 100) ∧ (((M 6952 39) - (M 6952 38)) = 1000))) → im_T g d 287 21 [some (.ref 6952), none, none, none] [] e M K := by
    intro  hx10
    have hP := hJ8  hx10
    refine im_ld (q := 22) (i := 0) D287_21 rfl rfl rfl ?_
    refine im_bipush (q := 24) D287_22 rfl ?_
    refine im_callV (q := 27) (kd := 1) (y := 286) (n := 1) (ci := 12) (a := 6952) (vs := [.ref 6952, vI 7]) (r := []) (L2 := [some (.ref 6952), some (vI 7)]) D287_24 (im_cal cn_287 cl_12_614) (Or.inl rfl) rfl sf_6952 rfl rfl rfl rfl hd ⟨rfl, rfl, trivial⟩ ?_
    refine hP.mono ?_
    rintro _ e12 M11 ⟨rfl, rfl, hP⟩
    refine im_bkN ?_
    refine im_iconst (q := 28) D287_27 ?_
    exact im_iret (q := 29) D287_28 rfl hP
  refine im_icmp (q := 6) (t := 21) D287_3 rfl hg1 (by decide) (fun hc2 => ?_) (fun hc2 => ?_)
  · exact (kJ9  (Or.inl hc2)).wk ⟨rfl, trivial⟩
  · replace hP := hP (Int.not_lt.mp hc2)
    refine im_ld (q := 7) (i := 0) D287_6 rfl rfl rfl ?_
    refine im_rng (j := 39) sf_6952 (by decide) (by decide) (fun hr3 => ?_)
    refine im_gfI (q := 10) D287_7 (im_fl cn_287 fl_12_629) sf_6952 rfl rfl tI_12_39 rfl ?_
    refine im_ld (q := 11) (i := 0) D287_10 rfl rfl rfl ?_
    refine im_rng (j := 38) sf_6952 (by decide) (by decide) (fun hr4 => ?_)
    refine im_gfI (q := 14) D287_11 (im_fl cn_287 fl_12_632) sf_6952 rfl rfl tI_12_38 rfl ?_
    refine im_isub (q := 15) D287_14 ?_
    refine im_sipush (q := 18) D287_15 rfl ?_
    obtain ⟨hg5, hP⟩ := hP
    refine im_icmp (q := 21) (t := 29) D287_18 rfl hg5 (by decide) (fun hc6 => ?_) (fun hc6 => ?_)
    · replace hP := hP hc6
      refine im_ld (q := 30) (i := 0) D287_29 rfl rfl rfl ?_
      refine im_gfI (q := 33) D287_30 (im_fl cn_287 fl_12_629) sf_6952 rfl rfl tI_12_39 rfl ?_
      refine im_st1 (q := 34) (i := 3) (L' := [some (.ref 6952), some (vI p1), some (vI p2), some (vI (M 6952 39))]) D287_33 (Or.inl ⟨_, rfl, rfl⟩) (Nat.le_of_ble_eq_true rfl) rfl ?_
      refine im_ld (q := 35) (i := 0) D287_34 rfl rfl rfl ?_
      refine im_dup (q := 36) D287_35 rfl ?_
      refine im_gfI (q := 39) D287_36 (im_fl cn_287 fl_12_629) sf_6952 rfl rfl tI_12_39 rfl ?_
      refine im_iconst (q := 40) D287_39 ?_
      refine im_iadd (q := 41) D287_40 ?_
      obtain ⟨hg14, hP⟩ := hP
      refine im_pfI (q := 44) D287_41 (im_fl cn_287 fl_12_629) sf_6952 rfl rfl ti_12_39 hg14 ?_
      refine im_ld (q := 45) (i := 0) D287_44 rfl rfl rfl ?_
      refine im_gfR (q := 48) (b := 6960) D287_45 (im_fl cn_287 fl_12_33) sf_6952 rfl rfl tR_12_21 rf_6952_21 ?_
      refine im_ld (q := 49) (i := 3) D287_48 rfl rfl rfl ?_
      refine im_ld (q := 50) (i := 1) D287_49 rfl rfl rfl ?_
      obtain ⟨hg15, hP⟩ := hP
      obtain ⟨hg16, hP⟩ := hP
      refine im_iast (q := 51) D287_50 sf_6960 hg15.1 hg15.2 (by decide) hg16 ?_
      refine im_ld (q := 52) (i := 0) D287_51 rfl rfl rfl ?_
      refine im_gfR (q := 55) (b := 6961) D287_52 (im_fl cn_287 fl_12_36) sf_6952 rfl rfl tR_12_22 rf_6952_22 ?_
      refine im_ld (q := 56) (i := 3) D287_55 rfl rfl rfl ?_
      refine im_lconst (q := 57) (z := 0) D287_56 rfl ?_
      refine im_last (q := 58) D287_57 sf_6961 hg15.1 hg15.2 (by decide) (by decide) ?_
      refine im_ld (q := 59) (i := 0) D287_58 rfl rfl rfl ?_
      refine im_gfR (q := 62) (b := 6962) D287_59 (im_fl cn_287 fl_12_39) sf_6952 rfl rfl tR_12_23 rf_6952_23 ?_
      refine im_ld (q := 63) (i := 3) D287_62 rfl rfl rfl ?_
      refine im_lconst (q := 64) (z := 0) D287_63 rfl ?_
      refine im_last (q := 65) D287_64 sf_6962 hg15.1 hg15.2 (by decide) (by decide) ?_
      refine im_ld (q := 66) (i := 0) D287_65 rfl rfl rfl ?_
      refine im_gfR (q := 69) (b := 6963) D287_66 (im_fl cn_287 fl_12_42) sf_6952 rfl rfl tR_12_24 rf_6952_24 ?_
      refine im_ld (q := 70) (i := 3) D287_69 rfl rfl rfl ?_
      refine im_lconst (q := 71) (z := 0) D287_70 rfl ?_
      refine im_last (q := 72) D287_71 sf_6963 hg15.1 hg15.2 (by decide) (by decide) ?_
      refine im_ld (q := 73) (i := 0) D287_72 rfl rfl rfl ?_
      refine im_gfR (q := 76) (b := 6964) D287_73 (im_fl cn_287 fl_12_45) sf_6952 rfl rfl tR_12_25 rf_6952_25 ?_
      refine im_ld (q := 77) (i := 3) D287_76 rfl rfl rfl ?_
      refine im_iconst (q := 78) D287_77 ?_
      refine im_iast (q := 79) D287_78 sf_6964 hg15.1 hg15.2 (by decide) (by decide) ?_
      refine im_ld (q := 80) (i := 0) D287_79 rfl rfl rfl ?_
      refine im_gfR (q := 83) (b := 6965) D287_80 (im_fl cn_287 fl_12_48) sf_6952 rfl rfl tR_12_26 rf_6952_26 ?_
      refine im_ld (q := 84) (i := 3) D287_83 rfl rfl rfl ?_
      refine im_iconst (q := 85) D287_84 ?_
      refine im_iast (q := 86) D287_85 sf_6965 hg15.1 hg15.2 (by decide) (by decide) ?_
      refine im_ld (q := 87) (i := 0) D287_86 rfl rfl rfl ?_
      refine im_gfR (q := 90) (b := 6966) D287_87 (im_fl cn_287 fl_12_51) sf_6952 rfl rfl tR_12_27 rf_6952_27 ?_
      refine im_ld (q := 91) (i := 3) D287_90 rfl rfl rfl ?_
      refine im_iconst (q := 92) D287_91 ?_
      refine im_iast (q := 93) D287_92 sf_6966 hg15.1 hg15.2 (by decide) (by decide) ?_
      refine im_ld (q := 94) (i := 0) D287_93 rfl rfl rfl ?_
      refine im_gfR (q := 97) (b := 6967) D287_94 (im_fl cn_287 fl_12_54) sf_6952 rfl rfl tR_12_28 rf_6952_28 ?_
      refine im_ld (q := 98) (i := 3) D287_97 rfl rfl rfl ?_
      refine im_iconst (q := 99) D287_98 ?_
      refine im_iast (q := 100) D287_99 sf_6967 hg15.1 hg15.2 (by decide) (by decide) ?_
      refine im_ld (q := 101) (i := 0) D287_100 rfl rfl rfl ?_
      refine im_gfR (q := 104) (b := 6970) D287_101 (im_fl cn_287 fl_12_63) sf_6952 rfl rfl tR_12_31 rf_6952_31 ?_
      refine im_ld (q := 105) (i := 3) D287_104 rfl rfl rfl ?_
      refine im_iconst (q := 106) D287_105 ?_
      refine im_zast (q := 107) D287_106 sf_6970 hg15.1 hg15.2 (by decide) (by decide) ?_
      refine im_ld (q := 108) (i := 0) D287_107 rfl rfl rfl ?_
      refine im_gfR (q := 111) (b := 6972) D287_108 (im_fl cn_287 fl_12_70) sf_6952 rfl rfl tR_12_33 rf_6952_33 ?_
      refine im_ld (q := 112) (i := 3) D287_111 rfl rfl rfl ?_
      refine im_iconst (q := 113) D287_112 ?_
      refine im_iast (q := 114) D287_113 sf_6972 hg15.1 hg15.2 (by decide) (by decide) ?_
      refine im_ld (q := 115) (i := 3) D287_114 rfl rfl rfl ?_
      exact im_iret (q := 116) D287_115 rfl hP
    · exact (kJ9  (Or.inr ⟨(Int.not_lt.mp hc2), (Decidable.not_not.mp hc6)⟩)).wk ⟨rfl, trivial⟩
set_option maxRecDepth 20000 in
set_option maxHeartbeats 4000000 in
theorem b_link_0 {g : im_g} {d : Nat} {e : im_E} {M : im_M} {K : im_K} {p1 p2 p3 : Int} (hP : (im_i32 p1) ∧ ((¬ p1 = (-1) → (im_i32 p2) ∧ ((¬ p2 = 1 → ((¬ p2 = 2 → (0 ≤ p1 ∧ p1 < 5100) ∧ (im_i32 p3) ∧ K (.inl none) e (im_u M 6966 p1 p3)) ∧ (p2 = 2 → (0 ≤ p1 ∧ p1 < 5100) ∧ (im_i32 p3) ∧ K (.inl none) e (im_u M 6965 p1 p3)))) ∧ (p2 = 1 → (0 ≤ p1 ∧ p1 < 5100) ∧ (im_i32 p3) ∧ K (.inl none) e (im_u M 6964 p1 p3)))) ∧ (p1 = (-1) → (im_i32 p3) ∧ K (.inl none) e (im_u M 6952 40 p3)))) : im_T g d 288 0 [some (.ref 6952), some (vI p1), some (vI p2), some (vI p3)] [] e M K := by
  refine im_ld (q := 1) (i := 1) D288_0 rfl rfl rfl ?_
  refine im_iconst (q := 2) D288_1 ?_
  obtain ⟨hg1, hP⟩ := hP
  refine im_icmp (q := 5) (t := 13) D288_2 rfl hg1 (by decide) (fun hc2 => ?_) (fun hc2 => ?_)
  · replace hP := hP.1 hc2
    refine im_ld (q := 14) (i := 2) D288_13 rfl rfl rfl ?_
    refine im_iconst (q := 15) D288_14 ?_
    obtain ⟨hg3, hP⟩ := hP
    refine im_icmp (q := 18) (t := 28) D288_15 rfl hg3 (by decide) (fun hc4 => ?_) (fun hc4 => ?_)
    · replace hP := hP.1 hc4
      refine im_ld (q := 29) (i := 2) D288_28 rfl rfl rfl ?_
      refine im_iconst (q := 30) D288_29 ?_
      refine im_icmp (q := 33) (t := 43) D288_30 rfl hg3 (by decide) (fun hc5 => ?_) (fun hc5 => ?_)
      · replace hP := hP.1 hc5
        refine im_ld (q := 44) (i := 0) D288_43 rfl rfl rfl ?_
        refine im_gfR (q := 47) (b := 6966) D288_44 (im_fl cn_288 fl_12_51) sf_6952 rfl rfl tR_12_27 rf_6952_27 ?_
        refine im_ld (q := 48) (i := 1) D288_47 rfl rfl rfl ?_
        refine im_ld (q := 49) (i := 3) D288_48 rfl rfl rfl ?_
        obtain ⟨hg6, hP⟩ := hP
        obtain ⟨hg7, hP⟩ := hP
        refine im_iast (q := 50) D288_49 sf_6966 hg6.1 hg6.2 (by decide) hg7 ?_
        exact im_vret (q := 51) D288_50 rfl hP
      · replace hP := hP.2 (Decidable.not_not.mp hc5)
        refine im_ld (q := 34) (i := 0) D288_33 rfl rfl rfl ?_
        refine im_gfR (q := 37) (b := 6965) D288_34 (im_fl cn_288 fl_12_48) sf_6952 rfl rfl tR_12_26 rf_6952_26 ?_
        refine im_ld (q := 38) (i := 1) D288_37 rfl rfl rfl ?_
        refine im_ld (q := 39) (i := 3) D288_38 rfl rfl rfl ?_
        obtain ⟨hg8, hP⟩ := hP
        obtain ⟨hg9, hP⟩ := hP
        refine im_iast (q := 40) D288_39 sf_6965 hg8.1 hg8.2 (by decide) hg9 ?_
        refine im_goto (q := 43) (t := 50) D288_40 rfl ?_
        exact im_vret (q := 51) D288_50 rfl hP
    · replace hP := hP.2 (Decidable.not_not.mp hc4)
      refine im_ld (q := 19) (i := 0) D288_18 rfl rfl rfl ?_
      refine im_gfR (q := 22) (b := 6964) D288_19 (im_fl cn_288 fl_12_45) sf_6952 rfl rfl tR_12_25 rf_6952_25 ?_
      refine im_ld (q := 23) (i := 1) D288_22 rfl rfl rfl ?_
      refine im_ld (q := 24) (i := 3) D288_23 rfl rfl rfl ?_
      obtain ⟨hg10, hP⟩ := hP
      obtain ⟨hg11, hP⟩ := hP
      refine im_iast (q := 25) D288_24 sf_6964 hg10.1 hg10.2 (by decide) hg11 ?_
      refine im_goto (q := 28) (t := 50) D288_25 rfl ?_
      exact im_vret (q := 51) D288_50 rfl hP
  · replace hP := hP.2 (Decidable.not_not.mp hc2)
    refine im_ld (q := 6) (i := 0) D288_5 rfl rfl rfl ?_
    refine im_ld (q := 7) (i := 3) D288_6 rfl rfl rfl ?_
    obtain ⟨hg12, hP⟩ := hP
    refine im_pfI (q := 10) D288_7 (im_fl cn_288 fl_12_626) sf_6952 rfl rfl ti_12_40 hg12 ?_
    refine im_goto (q := 13) (t := 50) D288_10 rfl ?_
    exact im_vret (q := 51) D288_50 rfl hP

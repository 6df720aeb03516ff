/-! blocks of the reference -/
theorem D279_0 {g : im_g} : im_D g 279 0 (.aload_n 0) 1 := im_D.of (by decide +kernel)
theorem D279_1 {g : im_g} : im_D g 279 1 (.getfield 30) 4 := im_D.of (by decide +kernel)
theorem D279_4 {g : im_g} : im_D g 279 4 (.aload_n 0) 5 := im_D.of (by decide +kernel)
theorem D279_5 {g : im_g} : im_D g 279 5 (.getfield 585) 8 := im_D.of (by decide +kernel)
theorem D279_8 {g : im_g} : im_D g 279 8 (.iaload) 9 := im_D.of (by decide +kernel)
theorem D279_9 {g : im_g} : im_D g 279 9 (.bipush 45) 11 := im_D.of (by decide +kernel)
theorem D279_11 {g : im_g} : im_D g 279 11 (.if_icmp .ne 12) 14 := im_D.of (by decide +kernel)
theorem D279_14 {g : im_g} : im_D g 279 14 (.aload_n 0) 15 := im_D.of (by decide +kernel)
theorem D279_15 {g : im_g} : im_D g 279 15 (.getfield 585) 18 := im_D.of (by decide +kernel)
theorem D279_18 {g : im_g} : im_D g 279 18 (.iconst 1) 19 := im_D.of (by decide +kernel)
theorem D279_19 {g : im_g} : im_D g 279 19 (.iadd) 20 := im_D.of (by decide +kernel)
theorem D279_20 {g : im_g} : im_D g 279 20 (.goto 7) 23 := im_D.of (by decide +kernel)
theorem D279_23 {g : im_g} : im_D g 279 23 (.aload_n 0) 24 := im_D.of (by decide +kernel)
theorem D279_24 {g : im_g} : im_D g 279 24 (.getfield 585) 27 := im_D.of (by decide +kernel)
theorem D279_27 {g : im_g} : im_D g 279 27 (.istore_n 1) 28 := im_D.of (by decide +kernel)
theorem D279_28 {g : im_g} : im_D g 279 28 (.iload_n 1) 29 := im_D.of (by decide +kernel)
theorem D279_29 {g : im_g} : im_D g 279 29 (.aload_n 0) 30 := im_D.of (by decide +kernel)
theorem D279_30 {g : im_g} : im_D g 279 30 (.getfield 588) 33 := im_D.of (by decide +kernel)
theorem D279_33 {g : im_g} : im_D g 279 33 (.if_icmp .ge 7) 36 := im_D.of (by decide +kernel)
theorem D279_36 {g : im_g} : im_D g 279 36 (.iconst 1) 37 := im_D.of (by decide +kernel)
theorem D279_37 {g : im_g} : im_D g 279 37 (.goto 4) 40 := im_D.of (by decide +kernel)
theorem D279_40 {g : im_g} : im_D g 279 40 (.iconst 0) 41 := im_D.of (by decide +kernel)
theorem D279_41 {g : im_g} : im_D g 279 41 (.istore_n 2) 42 := im_D.of (by decide +kernel)
theorem D279_42 {g : im_g} : im_D g 279 42 (.iload_n 1) 43 := im_D.of (by decide +kernel)
theorem D279_43 {g : im_g} : im_D g 279 43 (.istore_n 3) 44 := im_D.of (by decide +kernel)
theorem D279_44 {g : im_g} : im_D g 279 44 (.iload_n 3) 45 := im_D.of (by decide +kernel)
theorem D279_45 {g : im_g} : im_D g 279 45 (.aload_n 0) 46 := im_D.of (by decide +kernel)
theorem D279_46 {g : im_g} : im_D g 279 46 (.getfield 588) 49 := im_D.of (by decide +kernel)
theorem D279_49 {g : im_g} : im_D g 279 49 (.if_icmp .ge 38) 52 := im_D.of (by decide +kernel)
theorem D279_52 {g : im_g} : im_D g 279 52 (.iload_n 2) 53 := im_D.of (by decide +kernel)
theorem D279_53 {g : im_g} : im_D g 279 53 (.ifCond .eq 26) 56 := im_D.of (by decide +kernel)
theorem D279_56 {g : im_g} : im_D g 279 56 (.aload_n 0) 57 := im_D.of (by decide +kernel)
theorem D279_57 {g : im_g} : im_D g 279 57 (.getfield 30) 60 := im_D.of (by decide +kernel)
theorem D279_60 {g : im_g} : im_D g 279 60 (.iload_n 3) 61 := im_D.of (by decide +kernel)
theorem D279_61 {g : im_g} : im_D g 279 61 (.iaload) 62 := im_D.of (by decide +kernel)
theorem D279_62 {g : im_g} : im_D g 279 62 (.i2l) 63 := im_D.of (by decide +kernel)
theorem D279_63 {g : im_g} : im_D g 279 63 (.ldc2_w 581) 66 := im_D.of (by decide +kernel)
theorem D279_66 {g : im_g} : im_D g 279 66 (.ldc2_w 583) 69 := im_D.of (by decide +kernel)
theorem D279_69 {g : im_g} : im_D g 279 69 (.invokestatic 428) 72 := im_D.of (by decide +kernel)
theorem D279_72 {g : im_g} : im_D g 279 72 (.ifCond .eq 7) 75 := im_D.of (by decide +kernel)
theorem D279_75 {g : im_g} : im_D g 279 75 (.iconst 1) 76 := im_D.of (by decide +kernel)
theorem D279_76 {g : im_g} : im_D g 279 76 (.goto 4) 79 := im_D.of (by decide +kernel)
theorem D279_79 {g : im_g} : im_D g 279 79 (.iconst 0) 80 := im_D.of (by decide +kernel)
theorem D279_80 {g : im_g} : im_D g 279 80 (.istore_n 2) 81 := im_D.of (by decide +kernel)
theorem D279_81 {g : im_g} : im_D g 279 81 (.iinc 3 1) 84 := im_D.of (by decide +kernel)
theorem D279_84 {g : im_g} : im_D g 279 84 (.goto (-40)) 87 := im_D.of (by decide +kernel)
theorem D279_87 {g : im_g} : im_D g 279 87 (.iload_n 2) 88 := im_D.of (by decide +kernel)
theorem D279_88 {g : im_g} : im_D g 279 88 (.ifCond .eq 53) 91 := im_D.of (by decide +kernel)
theorem D279_91 {g : im_g} : im_D g 279 91 (.iload_n 1) 92 := im_D.of (by decide +kernel)
theorem D279_92 {g : im_g} : im_D g 279 92 (.istore_n 3) 93 := im_D.of (by decide +kernel)
theorem D279_93 {g : im_g} : im_D g 279 93 (.iload_n 3) 94 := im_D.of (by decide +kernel)
theorem D279_94 {g : im_g} : im_D g 279 94 (.aload_n 0) 95 := im_D.of (by decide +kernel)
theorem D279_95 {g : im_g} : im_D g 279 95 (.getfield 588) 98 := im_D.of (by decide +kernel)
theorem D279_98 {g : im_g} : im_D g 279 98 (.if_icmp .ge 20) 101 := im_D.of (by decide +kernel)
theorem D279_101 {g : im_g} : im_D g 279 101 (.aload_n 0) 102 := im_D.of (by decide +kernel)
theorem D279_102 {g : im_g} : im_D g 279 102 (.getfield 30) 105 := im_D.of (by decide +kernel)
theorem D279_105 {g : im_g} : im_D g 279 105 (.iload_n 3) 106 := im_D.of (by decide +kernel)
theorem D279_106 {g : im_g} : im_D g 279 106 (.iaload) 107 := im_D.of (by decide +kernel)
theorem D279_107 {g : im_g} : im_D g 279 107 (.bipush 48) 109 := im_D.of (by decide +kernel)
theorem D279_109 {g : im_g} : im_D g 279 109 (.if_icmp .ne 9) 112 := im_D.of (by decide +kernel)
theorem D279_112 {g : im_g} : im_D g 279 112 (.iinc 3 1) 115 := im_D.of (by decide +kernel)
theorem D279_115 {g : im_g} : im_D g 279 115 (.goto (-22)) 118 := im_D.of (by decide +kernel)
theorem D279_118 {g : im_g} : im_D g 279 118 (.aload_n 0) 119 := im_D.of (by decide +kernel)
theorem D279_119 {g : im_g} : im_D g 279 119 (.aload_n 0) 120 := im_D.of (by decide +kernel)
theorem D279_120 {g : im_g} : im_D g 279 120 (.getfield 588) 123 := im_D.of (by decide +kernel)
theorem D279_123 {g : im_g} : im_D g 279 123 (.iload_n 3) 124 := im_D.of (by decide +kernel)
theorem D279_124 {g : im_g} : im_D g 279 124 (.isub) 125 := im_D.of (by decide +kernel)
theorem D279_125 {g : im_g} : im_D g 279 125 (.sipush 300) 128 := im_D.of (by decide +kernel)
theorem D279_128 {g : im_g} : im_D g 279 128 (.if_icmp .le 8) 131 := im_D.of (by decide +kernel)
theorem D279_131 {g : im_g} : im_D g 279 131 (.bipush 10) 133 := im_D.of (by decide +kernel)
theorem D279_133 {g : im_g} : im_D g 279 133 (.goto 4) 136 := im_D.of (by decide +kernel)
theorem D279_136 {g : im_g} : im_D g 279 136 (.iconst 1) 137 := im_D.of (by decide +kernel)
theorem D279_137 {g : im_g} : im_D g 279 137 (.putfield 591) 140 := im_D.of (by decide +kernel)
theorem D279_140 {g : im_g} : im_D g 279 140 (.return_) 141 := im_D.of (by decide +kernel)
theorem D279_141 {g : im_g} : im_D g 279 141 (.aload_n 0) 142 := im_D.of (by decide +kernel)
theorem D279_142 {g : im_g} : im_D g 279 142 (.getfield 30) 145 := im_D.of (by decide +kernel)
theorem D279_145 {g : im_g} : im_D g 279 145 (.aload_n 0) 146 := im_D.of (by decide +kernel)
theorem D279_146 {g : im_g} : im_D g 279 146 (.getfield 585) 149 := im_D.of (by decide +kernel)
theorem D279_149 {g : im_g} : im_D g 279 149 (.iaload) 150 := im_D.of (by decide +kernel)
theorem D279_150 {g : im_g} : im_D g 279 150 (.bipush 63) 152 := im_D.of (by decide +kernel)
theorem D279_152 {g : im_g} : im_D g 279 152 (.if_icmp .ne 7) 155 := im_D.of (by decide +kernel)
theorem D279_155 {g : im_g} : im_D g 279 155 (.iconst 1) 156 := im_D.of (by decide +kernel)
theorem D279_156 {g : im_g} : im_D g 279 156 (.goto 4) 159 := im_D.of (by decide +kernel)
theorem D279_159 {g : im_g} : im_D g 279 159 (.iconst 0) 160 := im_D.of (by decide +kernel)
theorem D279_160 {g : im_g} : im_D g 279 160 (.istore_n 3) 161 := im_D.of (by decide +kernel)
theorem D279_161 {g : im_g} : im_D g 279 161 (.aload_n 0) 162 := im_D.of (by decide +kernel)
theorem D279_162 {g : im_g} : im_D g 279 162 (.aload_n 0) 163 := im_D.of (by decide +kernel)
theorem D279_163 {g : im_g} : im_D g 279 163 (.iload_n 3) 164 := im_D.of (by decide +kernel)
theorem D279_164 {g : im_g} : im_D g 279 164 (.ifCond .eq 12) 167 := im_D.of (by decide +kernel)
theorem D279_167 {g : im_g} : im_D g 279 167 (.aload_n 0) 168 := im_D.of (by decide +kernel)
theorem D279_168 {g : im_g} : im_D g 279 168 (.getfield 585) 171 := im_D.of (by decide +kernel)
theorem D279_171 {g : im_g} : im_D g 279 171 (.iconst 1) 172 := im_D.of (by decide +kernel)
theorem D279_172 {g : im_g} : im_D g 279 172 (.iadd) 173 := im_D.of (by decide +kernel)
theorem D279_173 {g : im_g} : im_D g 279 173 (.goto 7) 176 := im_D.of (by decide +kernel)
theorem D279_176 {g : im_g} : im_D g 279 176 (.aload_n 0) 177 := im_D.of (by decide +kernel)
theorem D279_177 {g : im_g} : im_D g 279 177 (.getfield 585) 180 := im_D.of (by decide +kernel)
theorem D279_180 {g : im_g} : im_D g 279 180 (.aload_n 0) 181 := im_D.of (by decide +kernel)
theorem D279_181 {g : im_g} : im_D g 279 181 (.getfield 588) 184 := im_D.of (by decide +kernel)
theorem D279_184 {g : im_g} : im_D g 279 184 (.invokevirtual 594) 187 := im_D.of (by decide +kernel)
theorem D279_187 {g : im_g} : im_D g 279 187 (.putfield 597) 190 := im_D.of (by decide +kernel)
theorem D279_190 {g : im_g} : im_D g 279 190 (.aload_n 0) 191 := im_D.of (by decide +kernel)
theorem D279_191 {g : im_g} : im_D g 279 191 (.getfield 597) 194 := im_D.of (by decide +kernel)
theorem D279_194 {g : im_g} : im_D g 279 194 (.invokestatic 573) 197 := im_D.of (by decide +kernel)
theorem D279_197 {g : im_g} : im_D g 279 197 (.istore 4) 199 := im_D.of (by decide +kernel)
theorem D279_199 {g : im_g} : im_D g 279 199 (.aload_n 0) 200 := im_D.of (by decide +kernel)
theorem D279_200 {g : im_g} : im_D g 279 200 (.aload_n 0) 201 := im_D.of (by decide +kernel)
theorem D279_201 {g : im_g} : im_D g 279 201 (.getfield 597) 204 := im_D.of (by decide +kernel)
theorem D279_204 {g : im_g} : im_D g 279 204 (.lconst 0) 205 := im_D.of (by decide +kernel)
theorem D279_205 {g : im_g} : im_D g 279 205 (.lcmp) 206 := im_D.of (by decide +kernel)
theorem D279_206 {g : im_g} : im_D g 279 206 (.ifCond .eq 12) 209 := im_D.of (by decide +kernel)
theorem D279_209 {g : im_g} : im_D g 279 209 (.iload_n 3) 210 := im_D.of (by decide +kernel)
theorem D279_210 {g : im_g} : im_D g 279 210 (.ifCond .eq 13) 213 := im_D.of (by decide +kernel)
theorem D279_213 {g : im_g} : im_D g 279 213 (.iload 4) 215 := im_D.of (by decide +kernel)
theorem D279_215 {g : im_g} : im_D g 279 215 (.ifCond .eq 8) 218 := im_D.of (by decide +kernel)
theorem D279_218 {g : im_g} : im_D g 279 218 (.bipush 9) 220 := im_D.of (by decide +kernel)
theorem D279_220 {g : im_g} : im_D g 279 220 (.goto 21) 223 := im_D.of (by decide +kernel)
theorem D279_223 {g : im_g} : im_D g 279 223 (.iload_n 3) 224 := im_D.of (by decide +kernel)
theorem D279_224 {g : im_g} : im_D g 279 224 (.ifCond .eq 7) 227 := im_D.of (by decide +kernel)
theorem D279_227 {g : im_g} : im_D g 279 227 (.iconst 4) 228 := im_D.of (by decide +kernel)
theorem D279_228 {g : im_g} : im_D g 279 228 (.goto 13) 231 := im_D.of (by decide +kernel)
theorem D279_231 {g : im_g} : im_D g 279 231 (.iload 4) 233 := im_D.of (by decide +kernel)
theorem D279_233 {g : im_g} : im_D g 279 233 (.ifCond .eq 7) 236 := im_D.of (by decide +kernel)
theorem D279_236 {g : im_g} : im_D g 279 236 (.iconst 2) 237 := im_D.of (by decide +kernel)
theorem D279_237 {g : im_g} : im_D g 279 237 (.goto 4) 240 := im_D.of (by decide +kernel)
theorem D279_240 {g : im_g} : im_D g 279 240 (.iconst 3) 241 := im_D.of (by decide +kernel)
theorem D279_241 {g : im_g} : im_D g 279 241 (.putfield 591) 244 := im_D.of (by decide +kernel)
theorem D279_244 {g : im_g} : im_D g 279 244 (.return_) 245 := im_D.of (by decide +kernel)
theorem D280_0 {g : im_g} : im_D g 280 0 (.iload_n 2) 1 := im_D.of (by decide +kernel)
theorem D280_1 {g : im_g} : im_D g 280 1 (.iload_n 1) 2 := im_D.of (by decide +kernel)
theorem D280_2 {g : im_g} : im_D g 280 2 (.isub) 3 := im_D.of (by decide +kernel)
theorem D280_3 {g : im_g} : im_D g 280 3 (.iconst 1) 4 := im_D.of (by decide +kernel)
theorem D280_4 {g : im_g} : im_D g 280 4 (.if_icmp .lt 30) 7 := im_D.of (by decide +kernel)
theorem D280_7 {g : im_g} : im_D g 280 7 (.iload_n 2) 8 := im_D.of (by decide +kernel)
theorem D280_8 {g : im_g} : im_D g 280 8 (.iload_n 1) 9 := im_D.of (by decide +kernel)
theorem D280_9 {g : im_g} : im_D g 280 9 (.isub) 10 := im_D.of (by decide +kernel)
theorem D280_10 {g : im_g} : im_D g 280 10 (.bipush 8) 12 := im_D.of (by decide +kernel)
theorem D280_12 {g : im_g} : im_D g 280 12 (.if_icmp .gt 22) 15 := im_D.of (by decide +kernel)
theorem D280_15 {g : im_g} : im_D g 280 15 (.aload_n 0) 16 := im_D.of (by decide +kernel)
theorem D280_16 {g : im_g} : im_D g 280 16 (.getfield 30) 19 := im_D.of (by decide +kernel)
theorem D280_19 {g : im_g} : im_D g 280 19 (.iload_n 1) 20 := im_D.of (by decide +kernel)
theorem D280_20 {g : im_g} : im_D g 280 20 (.iaload) 21 := im_D.of (by decide +kernel)
theorem D280_21 {g : im_g} : im_D g 280 21 (.i2l) 22 := im_D.of (by decide +kernel)
theorem D280_22 {g : im_g} : im_D g 280 22 (.ldc2_w 577) 25 := im_D.of (by decide +kernel)
theorem D280_25 {g : im_g} : im_D g 280 25 (.ldc2_w 579) 28 := im_D.of (by decide +kernel)
theorem D280_28 {g : im_g} : im_D g 280 28 (.invokestatic 428) 31 := im_D.of (by decide +kernel)
theorem D280_31 {g : im_g} : im_D g 280 31 (.ifCond .ne 5) 34 := im_D.of (by decide +kernel)
theorem D280_34 {g : im_g} : im_D g 280 34 (.lconst 0) 35 := im_D.of (by decide +kernel)
theorem D280_35 {g : im_g} : im_D g 280 35 (.lreturn) 36 := im_D.of (by decide +kernel)
theorem D280_36 {g : im_g} : im_D g 280 36 (.lconst 0) 37 := im_D.of (by decide +kernel)
theorem D280_37 {g : im_g} : im_D g 280 37 (.lstore_n 3) 38 := im_D.of (by decide +kernel)
theorem D280_38 {g : im_g} : im_D g 280 38 (.iload_n 1) 39 := im_D.of (by decide +kernel)
theorem D280_39 {g : im_g} : im_D g 280 39 (.istore 5) 41 := im_D.of (by decide +kernel)
theorem D280_41 {g : im_g} : im_D g 280 41 (.iload 5) 43 := im_D.of (by decide +kernel)
theorem D280_43 {g : im_g} : im_D g 280 43 (.iload_n 2) 44 := im_D.of (by decide +kernel)
theorem D280_44 {g : im_g} : im_D g 280 44 (.if_icmp .ge 65) 47 := im_D.of (by decide +kernel)
theorem D280_47 {g : im_g} : im_D g 280 47 (.aload_n 0) 48 := im_D.of (by decide +kernel)
theorem D280_48 {g : im_g} : im_D g 280 48 (.getfield 30) 51 := im_D.of (by decide +kernel)
theorem D280_51 {g : im_g} : im_D g 280 51 (.iload 5) 53 := im_D.of (by decide +kernel)
theorem D280_53 {g : im_g} : im_D g 280 53 (.iaload) 54 := im_D.of (by decide +kernel)
theorem D280_54 {g : im_g} : im_D g 280 54 (.i2l) 55 := im_D.of (by decide +kernel)
theorem D280_55 {g : im_g} : im_D g 280 55 (.ldc2_w 577) 58 := im_D.of (by decide +kernel)
theorem D280_58 {g : im_g} : im_D g 280 58 (.ldc2_w 579) 61 := im_D.of (by decide +kernel)
theorem D280_61 {g : im_g} : im_D g 280 61 (.invokestatic 428) 64 := im_D.of (by decide +kernel)
theorem D280_64 {g : im_g} : im_D g 280 64 (.ifCond .ne 25) 67 := im_D.of (by decide +kernel)
theorem D280_67 {g : im_g} : im_D g 280 67 (.aload_n 0) 68 := im_D.of (by decide +kernel)
theorem D280_68 {g : im_g} : im_D g 280 68 (.getfield 30) 71 := im_D.of (by decide +kernel)
theorem D280_71 {g : im_g} : im_D g 280 71 (.iload 5) 73 := im_D.of (by decide +kernel)
theorem D280_73 {g : im_g} : im_D g 280 73 (.iaload) 74 := im_D.of (by decide +kernel)
theorem D280_74 {g : im_g} : im_D g 280 74 (.i2l) 75 := im_D.of (by decide +kernel)
theorem D280_75 {g : im_g} : im_D g 280 75 (.ldc2_w 581) 78 := im_D.of (by decide +kernel)
theorem D280_78 {g : im_g} : im_D g 280 78 (.ldc2_w 583) 81 := im_D.of (by decide +kernel)
theorem D280_81 {g : im_g} : im_D g 280 81 (.invokestatic 428) 84 := im_D.of (by decide +kernel)
theorem D280_84 {g : im_g} : im_D g 280 84 (.ifCond .ne 5) 87 := im_D.of (by decide +kernel)
theorem D280_87 {g : im_g} : im_D g 280 87 (.lconst 0) 88 := im_D.of (by decide +kernel)
theorem D280_88 {g : im_g} : im_D g 280 88 (.lreturn) 89 := im_D.of (by decide +kernel)
theorem D280_89 {g : im_g} : im_D g 280 89 (.lload_n 3) 90 := im_D.of (by decide +kernel)
theorem D280_90 {g : im_g} : im_D g 280 90 (.bipush 8) 92 := im_D.of (by decide +kernel)
theorem D280_92 {g : im_g} : im_D g 280 92 (.lshl) 93 := im_D.of (by decide +kernel)
theorem D280_93 {g : im_g} : im_D g 280 93 (.aload_n 0) 94 := im_D.of (by decide +kernel)
theorem D280_94 {g : im_g} : im_D g 280 94 (.getfield 30) 97 := im_D.of (by decide +kernel)
theorem D280_97 {g : im_g} : im_D g 280 97 (.iload 5) 99 := im_D.of (by decide +kernel)
theorem D280_99 {g : im_g} : im_D g 280 99 (.iaload) 100 := im_D.of (by decide +kernel)
theorem D280_100 {g : im_g} : im_D g 280 100 (.i2l) 101 := im_D.of (by decide +kernel)
theorem D280_101 {g : im_g} : im_D g 280 101 (.lor) 102 := im_D.of (by decide +kernel)
theorem D280_102 {g : im_g} : im_D g 280 102 (.lstore_n 3) 103 := im_D.of (by decide +kernel)
theorem D280_103 {g : im_g} : im_D g 280 103 (.iinc 5 1) 106 := im_D.of (by decide +kernel)
theorem D280_106 {g : im_g} : im_D g 280 106 (.goto (-65)) 109 := im_D.of (by decide +kernel)
theorem D280_109 {g : im_g} : im_D g 280 109 (.lload_n 3) 110 := im_D.of (by decide +kernel)
theorem D280_110 {g : im_g} : im_D g 280 110 (.lreturn) 111 := im_D.of (by decide +kernel)
theorem D281_0 {g : im_g} : im_D g 281 0 (.lload_n 0) 1 := im_D.of (by decide +kernel)
theorem D281_1 {g : im_g} : im_D g 281 1 (.ldc2_w 505) 4 := im_D.of (by decide +kernel)
theorem D281_4 {g : im_g} : im_D g 281 4 (.lcmp) 5 := im_D.of (by decide +kernel)
theorem D281_5 {g : im_g} : im_D g 281 5 (.ifCond .eq 91) 8 := im_D.of (by decide +kernel)
theorem D281_8 {g : im_g} : im_D g 281 8 (.lload_n 0) 9 := im_D.of (by decide +kernel)
theorem D281_9 {g : im_g} : im_D g 281 9 (.ldc2_w 507) 12 := im_D.of (by decide +kernel)
theorem D281_12 {g : im_g} : im_D g 281 12 (.lcmp) 13 := im_D.of (by decide +kernel)
theorem D281_13 {g : im_g} : im_D g 281 13 (.ifCond .eq 83) 16 := im_D.of (by decide +kernel)
theorem D281_16 {g : im_g} : im_D g 281 16 (.lload_n 0) 17 := im_D.of (by decide +kernel)
theorem D281_17 {g : im_g} : im_D g 281 17 (.ldc2_w 509) 20 := im_D.of (by decide +kernel)
theorem D281_20 {g : im_g} : im_D g 281 20 (.lcmp) 21 := im_D.of (by decide +kernel)
theorem D281_21 {g : im_g} : im_D g 281 21 (.ifCond .eq 75) 24 := im_D.of (by decide +kernel)
theorem D281_24 {g : im_g} : im_D g 281 24 (.lload_n 0) 25 := im_D.of (by decide +kernel)
theorem D281_25 {g : im_g} : im_D g 281 25 (.ldc2_w 511) 28 := im_D.of (by decide +kernel)
theorem D281_28 {g : im_g} : im_D g 281 28 (.lcmp) 29 := im_D.of (by decide +kernel)
theorem D281_29 {g : im_g} : im_D g 281 29 (.ifCond .eq 67) 32 := im_D.of (by decide +kernel)
theorem D281_32 {g : im_g} : im_D g 281 32 (.lload_n 0) 33 := im_D.of (by decide +kernel)
theorem D281_33 {g : im_g} : im_D g 281 33 (.ldc2_w 513) 36 := im_D.of (by decide +kernel)
theorem D281_36 {g : im_g} : im_D g 281 36 (.lcmp) 37 := im_D.of (by decide +kernel)
theorem D281_37 {g : im_g} : im_D g 281 37 (.ifCond .eq 59) 40 := im_D.of (by decide +kernel)
theorem D281_40 {g : im_g} : im_D g 281 40 (.lload_n 0) 41 := im_D.of (by decide +kernel)
theorem D281_41 {g : im_g} : im_D g 281 41 (.ldc2_w 515) 44 := im_D.of (by decide +kernel)
theorem D281_44 {g : im_g} : im_D g 281 44 (.lcmp) 45 := im_D.of (by decide +kernel)
theorem D281_45 {g : im_g} : im_D g 281 45 (.ifCond .eq 51) 48 := im_D.of (by decide +kernel)
theorem D281_48 {g : im_g} : im_D g 281 48 (.lload_n 0) 49 := im_D.of (by decide +kernel)
theorem D281_49 {g : im_g} : im_D g 281 49 (.ldc2_w 517) 52 := im_D.of (by decide +kernel)
theorem D281_52 {g : im_g} : im_D g 281 52 (.lcmp) 53 := im_D.of (by decide +kernel)
theorem D281_53 {g : im_g} : im_D g 281 53 (.ifCond .eq 43) 56 := im_D.of (by decide +kernel)
theorem D281_56 {g : im_g} : im_D g 281 56 (.lload_n 0) 57 := im_D.of (by decide +kernel)
theorem D281_57 {g : im_g} : im_D g 281 57 (.ldc2_w 519) 60 := im_D.of (by decide +kernel)
theorem D281_60 {g : im_g} : im_D g 281 60 (.lcmp) 61 := im_D.of (by decide +kernel)
theorem D281_61 {g : im_g} : im_D g 281 61 (.ifCond .eq 35) 64 := im_D.of (by decide +kernel)
theorem D281_64 {g : im_g} : im_D g 281 64 (.lload_n 0) 65 := im_D.of (by decide +kernel)
theorem D281_65 {g : im_g} : im_D g 281 65 (.ldc2_w 521) 68 := im_D.of (by decide +kernel)
theorem D281_68 {g : im_g} : im_D g 281 68 (.lcmp) 69 := im_D.of (by decide +kernel)
theorem D281_69 {g : im_g} : im_D g 281 69 (.ifCond .eq 27) 72 := im_D.of (by decide +kernel)
theorem D281_72 {g : im_g} : im_D g 281 72 (.lload_n 0) 73 := im_D.of (by decide +kernel)
theorem D281_73 {g : im_g} : im_D g 281 73 (.ldc2_w 523) 76 := im_D.of (by decide +kernel)
theorem D281_76 {g : im_g} : im_D g 281 76 (.lcmp) 77 := im_D.of (by decide +kernel)
theorem D281_77 {g : im_g} : im_D g 281 77 (.ifCond .eq 19) 80 := im_D.of (by decide +kernel)
theorem D281_80 {g : im_g} : im_D g 281 80 (.lload_n 0) 81 := im_D.of (by decide +kernel)
theorem D281_81 {g : im_g} : im_D g 281 81 (.ldc2_w 525) 84 := im_D.of (by decide +kernel)
theorem D281_84 {g : im_g} : im_D g 281 84 (.lcmp) 85 := im_D.of (by decide +kernel)
theorem D281_85 {g : im_g} : im_D g 281 85 (.ifCond .eq 11) 88 := im_D.of (by decide +kernel)
theorem D281_88 {g : im_g} : im_D g 281 88 (.lload_n 0) 89 := im_D.of (by decide +kernel)
theorem D281_89 {g : im_g} : im_D g 281 89 (.ldc2_w 527) 92 := im_D.of (by decide +kernel)
theorem D281_92 {g : im_g} : im_D g 281 92 (.lcmp) 93 := im_D.of (by decide +kernel)
theorem D281_93 {g : im_g} : im_D g 281 93 (.ifCond .ne 7) 96 := im_D.of (by decide +kernel)
theorem D281_96 {g : im_g} : im_D g 281 96 (.iconst 1) 97 := im_D.of (by decide +kernel)
theorem D281_97 {g : im_g} : im_D g 281 97 (.goto 4) 100 := im_D.of (by decide +kernel)
theorem D281_100 {g : im_g} : im_D g 281 100 (.iconst 0) 101 := im_D.of (by decide +kernel)
theorem D281_101 {g : im_g} : im_D g 281 101 (.istore_n 2) 102 := im_D.of (by decide +kernel)
theorem D281_102 {g : im_g} : im_D g 281 102 (.lload_n 0) 103 := im_D.of (by decide +kernel)
theorem D281_103 {g : im_g} : im_D g 281 103 (.ldc2_w 529) 106 := im_D.of (by decide +kernel)
theorem D281_106 {g : im_g} : im_D g 281 106 (.lcmp) 107 := im_D.of (by decide +kernel)
theorem D281_107 {g : im_g} : im_D g 281 107 (.ifCond .eq 83) 110 := im_D.of (by decide +kernel)
theorem D281_110 {g : im_g} : im_D g 281 110 (.lload_n 0) 111 := im_D.of (by decide +kernel)
theorem D281_111 {g : im_g} : im_D g 281 111 (.ldc2_w 531) 114 := im_D.of (by decide +kernel)
theorem D281_114 {g : im_g} : im_D g 281 114 (.lcmp) 115 := im_D.of (by decide +kernel)
theorem D281_115 {g : im_g} : im_D g 281 115 (.ifCond .eq 75) 118 := im_D.of (by decide +kernel)
theorem D281_118 {g : im_g} : im_D g 281 118 (.lload_n 0) 119 := im_D.of (by decide +kernel)
theorem D281_119 {g : im_g} : im_D g 281 119 (.ldc2_w 533) 122 := im_D.of (by decide +kernel)
theorem D281_122 {g : im_g} : im_D g 281 122 (.lcmp) 123 := im_D.of (by decide +kernel)
theorem D281_123 {g : im_g} : im_D g 281 123 (.ifCond .eq 67) 126 := im_D.of (by decide +kernel)
theorem D281_126 {g : im_g} : im_D g 281 126 (.lload_n 0) 127 := im_D.of (by decide +kernel)
theorem D281_127 {g : im_g} : im_D g 281 127 (.ldc2_w 535) 130 := im_D.of (by decide +kernel)
theorem D281_130 {g : im_g} : im_D g 281 130 (.lcmp) 131 := im_D.of (by decide +kernel)
theorem D281_131 {g : im_g} : im_D g 281 131 (.ifCond .eq 59) 134 := im_D.of (by decide +kernel)
theorem D281_134 {g : im_g} : im_D g 281 134 (.lload_n 0) 135 := im_D.of (by decide +kernel)
theorem D281_135 {g : im_g} : im_D g 281 135 (.ldc2_w 537) 138 := im_D.of (by decide +kernel)
theorem D281_138 {g : im_g} : im_D g 281 138 (.lcmp) 139 := im_D.of (by decide +kernel)
theorem D281_139 {g : im_g} : im_D g 281 139 (.ifCond .eq 51) 142 := im_D.of (by decide +kernel)
theorem D281_142 {g : im_g} : im_D g 281 142 (.lload_n 0) 143 := im_D.of (by decide +kernel)
theorem D281_143 {g : im_g} : im_D g 281 143 (.ldc2_w 539) 146 := im_D.of (by decide +kernel)
theorem D281_146 {g : im_g} : im_D g 281 146 (.lcmp) 147 := im_D.of (by decide +kernel)
theorem D281_147 {g : im_g} : im_D g 281 147 (.ifCond .eq 43) 150 := im_D.of (by decide +kernel)
theorem D281_150 {g : im_g} : im_D g 281 150 (.lload_n 0) 151 := im_D.of (by decide +kernel)
theorem D281_151 {g : im_g} : im_D g 281 151 (.ldc2_w 541) 154 := im_D.of (by decide +kernel)
theorem D281_154 {g : im_g} : im_D g 281 154 (.lcmp) 155 := im_D.of (by decide +kernel)
theorem D281_155 {g : im_g} : im_D g 281 155 (.ifCond .eq 35) 158 := im_D.of (by decide +kernel)
theorem D281_158 {g : im_g} : im_D g 281 158 (.lload_n 0) 159 := im_D.of (by decide +kernel)
theorem D281_159 {g : im_g} : im_D g 281 159 (.ldc2_w 543) 162 := im_D.of (by decide +kernel)
theorem D281_162 {g : im_g} : im_D g 281 162 (.lcmp) 163 := im_D.of (by decide +kernel)
theorem D281_163 {g : im_g} : im_D g 281 163 (.ifCond .eq 27) 166 := im_D.of (by decide +kernel)
theorem D281_166 {g : im_g} : im_D g 281 166 (.lload_n 0) 167 := im_D.of (by decide +kernel)
theorem D281_167 {g : im_g} : im_D g 281 167 (.ldc2_w 545) 170 := im_D.of (by decide +kernel)
theorem D281_170 {g : im_g} : im_D g 281 170 (.lcmp) 171 := im_D.of (by decide +kernel)
theorem D281_171 {g : im_g} : im_D g 281 171 (.ifCond .eq 19) 174 := im_D.of (by decide +kernel)
theorem D281_174 {g : im_g} : im_D g 281 174 (.lload_n 0) 175 := im_D.of (by decide +kernel)
theorem D281_175 {g : im_g} : im_D g 281 175 (.ldc2_w 547) 178 := im_D.of (by decide +kernel)
theorem D281_178 {g : im_g} : im_D g 281 178 (.lcmp) 179 := im_D.of (by decide +kernel)
theorem D281_179 {g : im_g} : im_D g 281 179 (.ifCond .eq 11) 182 := im_D.of (by decide +kernel)
theorem D281_182 {g : im_g} : im_D g 281 182 (.lload_n 0) 183 := im_D.of (by decide +kernel)
theorem D281_183 {g : im_g} : im_D g 281 183 (.ldc2_w 549) 186 := im_D.of (by decide +kernel)
theorem D281_186 {g : im_g} : im_D g 281 186 (.lcmp) 187 := im_D.of (by decide +kernel)
theorem D281_187 {g : im_g} : im_D g 281 187 (.ifCond .ne 7) 190 := im_D.of (by decide +kernel)
theorem D281_190 {g : im_g} : im_D g 281 190 (.iconst 1) 191 := im_D.of (by decide +kernel)
theorem D281_191 {g : im_g} : im_D g 281 191 (.goto 4) 194 := im_D.of (by decide +kernel)
theorem D281_194 {g : im_g} : im_D g 281 194 (.iconst 0) 195 := im_D.of (by decide +kernel)
theorem D281_195 {g : im_g} : im_D g 281 195 (.istore_n 3) 196 := im_D.of (by decide +kernel)
theorem D281_196 {g : im_g} : im_D g 281 196 (.iload_n 2) 197 := im_D.of (by decide +kernel)
theorem D281_197 {g : im_g} : im_D g 281 197 (.ifCond .ne 95) 200 := im_D.of (by decide +kernel)
theorem D281_200 {g : im_g} : im_D g 281 200 (.iload_n 3) 201 := im_D.of (by decide +kernel)
theorem D281_201 {g : im_g} : im_D g 281 201 (.ifCond .ne 91) 204 := im_D.of (by decide +kernel)
theorem D281_204 {g : im_g} : im_D g 281 204 (.lload_n 0) 205 := im_D.of (by decide +kernel)
theorem D281_205 {g : im_g} : im_D g 281 205 (.ldc2_w 551) 208 := im_D.of (by decide +kernel)
theorem D281_208 {g : im_g} : im_D g 281 208 (.lcmp) 209 := im_D.of (by decide +kernel)
theorem D281_209 {g : im_g} : im_D g 281 209 (.ifCond .eq 83) 212 := im_D.of (by decide +kernel)
theorem D281_212 {g : im_g} : im_D g 281 212 (.lload_n 0) 213 := im_D.of (by decide +kernel)
theorem D281_213 {g : im_g} : im_D g 281 213 (.ldc2_w 553) 216 := im_D.of (by decide +kernel)
theorem D281_216 {g : im_g} : im_D g 281 216 (.lcmp) 217 := im_D.of (by decide +kernel)
theorem D281_217 {g : im_g} : im_D g 281 217 (.ifCond .eq 75) 220 := im_D.of (by decide +kernel)
theorem D281_220 {g : im_g} : im_D g 281 220 (.lload_n 0) 221 := im_D.of (by decide +kernel)
theorem D281_221 {g : im_g} : im_D g 281 221 (.ldc2_w 555) 224 := im_D.of (by decide +kernel)
theorem D281_224 {g : im_g} : im_D g 281 224 (.lcmp) 225 := im_D.of (by decide +kernel)
theorem D281_225 {g : im_g} : im_D g 281 225 (.ifCond .eq 67) 228 := im_D.of (by decide +kernel)
theorem D281_228 {g : im_g} : im_D g 281 228 (.lload_n 0) 229 := im_D.of (by decide +kernel)
theorem D281_229 {g : im_g} : im_D g 281 229 (.ldc2_w 557) 232 := im_D.of (by decide +kernel)
theorem D281_232 {g : im_g} : im_D g 281 232 (.lcmp) 233 := im_D.of (by decide +kernel)
theorem D281_233 {g : im_g} : im_D g 281 233 (.ifCond .eq 59) 236 := im_D.of (by decide +kernel)
theorem D281_236 {g : im_g} : im_D g 281 236 (.lload_n 0) 237 := im_D.of (by decide +kernel)
theorem D281_237 {g : im_g} : im_D g 281 237 (.ldc2_w 559) 240 := im_D.of (by decide +kernel)
theorem D281_240 {g : im_g} : im_D g 281 240 (.lcmp) 241 := im_D.of (by decide +kernel)
theorem D281_241 {g : im_g} : im_D g 281 241 (.ifCond .eq 51) 244 := im_D.of (by decide +kernel)
theorem D281_244 {g : im_g} : im_D g 281 244 (.lload_n 0) 245 := im_D.of (by decide +kernel)
theorem D281_245 {g : im_g} : im_D g 281 245 (.ldc2_w 561) 248 := im_D.of (by decide +kernel)
theorem D281_248 {g : im_g} : im_D g 281 248 (.lcmp) 249 := im_D.of (by decide +kernel)
theorem D281_249 {g : im_g} : im_D g 281 249 (.ifCond .eq 43) 252 := im_D.of (by decide +kernel)
theorem D281_252 {g : im_g} : im_D g 281 252 (.lload_n 0) 253 := im_D.of (by decide +kernel)
theorem D281_253 {g : im_g} : im_D g 281 253 (.ldc2_w 563) 256 := im_D.of (by decide +kernel)
theorem D281_256 {g : im_g} : im_D g 281 256 (.lcmp) 257 := im_D.of (by decide +kernel)
theorem D281_257 {g : im_g} : im_D g 281 257 (.ifCond .eq 35) 260 := im_D.of (by decide +kernel)
theorem D281_260 {g : im_g} : im_D g 281 260 (.lload_n 0) 261 := im_D.of (by decide +kernel)
theorem D281_261 {g : im_g} : im_D g 281 261 (.ldc2_w 565) 264 := im_D.of (by decide +kernel)
theorem D281_264 {g : im_g} : im_D g 281 264 (.lcmp) 265 := im_D.of (by decide +kernel)
theorem D281_265 {g : im_g} : im_D g 281 265 (.ifCond .eq 27) 268 := im_D.of (by decide +kernel)
theorem D281_268 {g : im_g} : im_D g 281 268 (.lload_n 0) 269 := im_D.of (by decide +kernel)
theorem D281_269 {g : im_g} : im_D g 281 269 (.ldc2_w 567) 272 := im_D.of (by decide +kernel)
theorem D281_272 {g : im_g} : im_D g 281 272 (.lcmp) 273 := im_D.of (by decide +kernel)
theorem D281_273 {g : im_g} : im_D g 281 273 (.ifCond .eq 19) 276 := im_D.of (by decide +kernel)
theorem D281_276 {g : im_g} : im_D g 281 276 (.lload_n 0) 277 := im_D.of (by decide +kernel)
theorem D281_277 {g : im_g} : im_D g 281 277 (.ldc2_w 569) 280 := im_D.of (by decide +kernel)
theorem D281_280 {g : im_g} : im_D g 281 280 (.lcmp) 281 := im_D.of (by decide +kernel)
theorem D281_281 {g : im_g} : im_D g 281 281 (.ifCond .eq 11) 284 := im_D.of (by decide +kernel)
theorem D281_284 {g : im_g} : im_D g 281 284 (.lload_n 0) 285 := im_D.of (by decide +kernel)
theorem D281_285 {g : im_g} : im_D g 281 285 (.ldc2_w 571) 288 := im_D.of (by decide +kernel)
theorem D281_288 {g : im_g} : im_D g 281 288 (.lcmp) 289 := im_D.of (by decide +kernel)
theorem D281_289 {g : im_g} : im_D g 281 289 (.ifCond .ne 7) 292 := im_D.of (by decide +kernel)
theorem D281_292 {g : im_g} : im_D g 281 292 (.iconst 1) 293 := im_D.of (by decide +kernel)
theorem D281_293 {g : im_g} : im_D g 281 293 (.goto 4) 296 := im_D.of (by decide +kernel)
theorem D281_296 {g : im_g} : im_D g 281 296 (.iconst 0) 297 := im_D.of (by decide +kernel)
theorem D281_297 {g : im_g} : im_D g 281 297 (.ireturn) 298 := im_D.of (by decide +kernel)
theorem D282_0 {g : im_g} : im_D g 282 0 (.aload_n 0) 1 := im_D.of (by decide +kernel)
theorem D282_1 {g : im_g} : im_D g 282 1 (.aload_n 0) 2 := im_D.of (by decide +kernel)
theorem D282_2 {g : im_g} : im_D g 282 2 (.getfield 588) 5 := im_D.of (by decide +kernel)
theorem D282_5 {g : im_g} : im_D g 282 5 (.putfield 601) 8 := im_D.of (by decide +kernel)
theorem D282_8 {g : im_g} : im_D g 282 8 (.return_) 9 := im_D.of (by decide +kernel)
set_option maxRecDepth 20000 in
set_option maxHeartbeats 4000000 in
theorem b_classify_0 {g : im_g} {d : Nat} {e : im_E} {M : im_M} {K : im_K} (hP : (0 ≤ (M 6952 16) ∧ (M 6952 16) < 16384) ∧ ((∀ x7 : Int, (((¬ (M 6959 (M 6952 16)) = 45) ∧ x7 = (M 6952 16)) ∨ (((M 6959 (M 6952 16)) = 45) ∧ x7 = ((M 6952 16) + 1))) → (im_i32 x7) ∧ ((∀ x14 : Int, ((((M 6952 17) ≤ x7) ∧ x14 = 0) ∨ ((x7 < (M 6952 17)) ∧ x14 = 1)) → im_T g d 279 44 [some (.ref 6952), some (vI x7), some (vI x14), some (vI x7), none] [] e M K))))) : im_T g d 279 0 [some (.ref 6952), none, none, none, none] [] e M K := by
  refine im_ld (q := 1) (i := 0) D279_0 rfl rfl rfl ?_
  refine im_gfR (q := 4) (b := 6959) D279_1 (im_fl cn_279 fl_12_30) sf_6952 rfl rfl tR_12_12 rf_6952_12 ?_
  refine im_ld (q := 5) (i := 0) D279_4 rfl rfl rfl ?_
  refine im_rng (j := 16) sf_6952 (by decide) (by decide) (fun hr1 => ?_)
  refine im_gfI (q := 8) D279_5 (im_fl cn_279 fl_12_585) sf_6952 rfl rfl tI_12_16 rfl ?_
  obtain ⟨hg2, hP⟩ := hP
  refine im_rng (j := (M 6952 16)) sf_6959 hg2.1 hg2.2 (fun hr3 => ?_)
  refine im_iald (q := 9) D279_8 sf_6959 hg2.1 hg2.2 (by decide) rfl ?_
  refine im_bipush (q := 11) D279_9 rfl ?_
  have hJ8 := hP
  have kJ9 : ∀ x7 : Int, (((¬ (M 6959 (M 6952 16)) = 45) ∧ x7 = (M 6952 16)) ∨ (((M 6959 (M 6952 16)) = 45) ∧ x7 = ((M 6952 16) + 1))) → im_T g d 279 27 [some (.ref 6952), none, none, none, none] [vI x7] e M K := by
    intro x7 hx10
    have hP := hJ8 x7 hx10
    refine im_st1 (q := 28) (i := 1) (L' := [some (.ref 6952), some (vI x7), none, none, none]) D279_27 (Or.inl ⟨_, rfl, rfl⟩) (Nat.le_of_ble_eq_true rfl) rfl ?_
    refine im_ld (q := 29) (i := 1) D279_28 rfl rfl rfl ?_
    refine im_ld (q := 30) (i := 0) D279_29 rfl rfl rfl ?_
    refine im_rng (j := 17) sf_6952 (by decide) (by decide) (fun hr11 => ?_)
    refine im_gfI (q := 33) D279_30 (im_fl cn_279 fl_12_588) sf_6952 rfl rfl tI_12_17 rfl ?_
    obtain ⟨hg12, hP⟩ := hP
    have hJ15 := hP
    have kJ16 : ∀ x14 : Int, ((((M 6952 17) ≤ x7) ∧ x14 = 0) ∨ ((x7 < (M 6952 17)) ∧ x14 = 1)) → im_T g d 279 41 [some (.ref 6952), some (vI x7), none, none, none] [vI x14] e M K := by
      intro x14 hx17
      have hP := hJ15 x14 hx17
      refine im_st1 (q := 42) (i := 2) (L' := [some (.ref 6952), some (vI x7), some (vI x14), none, none]) D279_41 (Or.inl ⟨_, rfl, rfl⟩) (Nat.le_of_ble_eq_true rfl) rfl ?_
      refine im_ld (q := 43) (i := 1) D279_42 rfl rfl rfl ?_
      refine im_st1 (q := 44) (i := 3) (L' := [some (.ref 6952), some (vI x7), some (vI x14), some (vI x7), none]) D279_43 (Or.inl ⟨_, rfl, rfl⟩) (Nat.le_of_ble_eq_true rfl) rfl ?_
      exact hP.wk ⟨rfl, rfl, rfl, rfl, trivial⟩
    refine im_icmp (q := 36) (t := 40) D279_33 rfl hg12 hr11 (fun hc13 => ?_) (fun hc13 => ?_)
    · refine im_iconst (q := 41) D279_40 ?_
      exact (kJ16 (0) (Or.inl ⟨hc13, rfl⟩)).wk ⟨rfl, rfl, trivial⟩
    · refine im_iconst (q := 37) D279_36 ?_
      refine im_goto (q := 40) (t := 41) D279_37 rfl ?_
      exact (kJ16 (1) (Or.inr ⟨(Int.not_le.mp hc13), rfl⟩)).wk ⟨rfl, rfl, trivial⟩
  refine im_icmp (q := 14) (t := 23) D279_11 rfl hr3 (by decide) (fun hc4 => ?_) (fun hc4 => ?_)
  · refine im_ld (q := 24) (i := 0) D279_23 rfl rfl rfl ?_
    refine im_gfI (q := 27) D279_24 (im_fl cn_279 fl_12_585) sf_6952 rfl rfl tI_12_16 rfl ?_
    exact (kJ9 ((M 6952 16)) (Or.inl ⟨hc4, rfl⟩)).wk ⟨rfl, trivial⟩
  · refine im_ld (q := 15) (i := 0) D279_14 rfl rfl rfl ?_
    refine im_gfI (q := 18) D279_15 (im_fl cn_279 fl_12_585) sf_6952 rfl rfl tI_12_16 rfl ?_
    refine im_iconst (q := 19) D279_18 ?_
    refine im_iadd (q := 20) D279_19 ?_
    refine im_goto (q := 23) (t := 27) D279_20 rfl ?_
    exact (kJ9 (((M 6952 16) + 1)) (Or.inr ⟨(Decidable.not_not.mp hc4), rfl⟩)).wk ⟨rfl, trivial⟩
set_option maxRecDepth 20000 in
set_option maxHeartbeats 4000000 in
theorem b_classify_44 {g : im_g} {d : Nat} {e : im_E} {M : im_M} {K : im_K} {p1 p2 p3 : Int} (hd : 1 ≤ d) (hP : (im_i32 p3) ∧ (((((M 6952 17) ≤ p3 → (im_i32 p2) ∧ ((p2 = 0 → (0 ≤ (M 6952 16) ∧ (M 6952 16) < 16384)) ∧ (¬ p2 = 0 → im_T g d 279 93 [some (.ref 6952), none, none, some (vI p1), none] [] e M K))) ∧ (p3 < (M 6952 17) → (im_i32 p2) ∧ ((p2 = 0 → im_T g d 279 44 [some (.ref 6952), some (vI p1), some (vI 0), some (vI (p3 + 1)), none] [] e M K) ∧ (¬ p2 = 0 → (0 ≤ p3 ∧ p3 < 16384) ∧ im_T g (d - 1) 268 0 [some (vL (M 6959 p3)), none, some (vL 48), none, some (vL 57), none] [] e M (im_ri (fun x53 e_ M52 => e = e_ ∧ (im_i32 x53) ∧ ((x53 = 0 → im_T g d 279 44 [some (.ref 6952), some (vI p1), some (vI 0), some (vI (p3 + 1)), none] [] e M52 K) ∧ (¬ x53 = 0 → im_T g d 279 44 [some (.ref 6952), some (vI p1), some (vI 1), some (vI (p3 + 1)), none] [] e M52 K))))))))) ∧ (∀ x14 : Int, ((((M 6952 17) ≤ p3) ∧ (p2 = 0) ∧ (¬ (M 6959 (M 6952 16)) = 63) ∧ x14 = 0) ∨ (((M 6952 17) ≤ p3) ∧ (p2 = 0) ∧ ((M 6959 (M 6952 16)) = 63) ∧ x14 = 1)) → ((∀ x21 : Int, (((x14 = 0) ∧ x21 = (M 6952 16)) ∨ ((¬ x14 = 0) ∧ x21 = ((M 6952 16) + 1))) → im_T g (d - 1) 280 0 [some (.ref 6952), some (vI x21), some (vI (M 6952 17)), none, none, none] [] e M (im_rl (fun x27 e_ M26 => e = e_ ∧ (im_i64 x27) ∧ im_T g (d - 1) 281 0 [some (vL x27), none, none, none] [] e (im_u M26 6952 18 x27) (im_ri (fun x31 e_ M30 => e = e_ ∧ ((((¬ (M30 6952 18) = 0 → ((¬ x14 = 0 → (im_i32 x31)))))) ∧ (((((M30 6952 18) = 0)) ∨ ((¬ (M30 6952 18) = 0) ∧ (¬ x14 = 0) ∧ (¬ x31 = 0))) → K (.inl none) e (im_u M30 6952 15 9)) ∧ ((((¬ (M30 6952 18) = 0) ∧ (x14 = 0)) ∨ ((¬ (M30 6952 18) = 0) ∧ (¬ x14 = 0) ∧ (x31 = 0))) → ((((x14 = 0 → (im_i32 x31)))) ∧ (∀ x46 : Int, (((x14 = 0) ∧ (x31 = 0) ∧ x46 = 3) ∨ ((x14 = 0) ∧ (¬ x31 = 0) ∧ x46 = 2) ∨ ((¬ x14 = 0) ∧ x46 = 4)) → K (.inl none) e (im_u M30 6952 15 x46)))))))))))))) : im_T g d 279 44 [some (.ref 6952), some (vI p1), some (vI p2), some (vI p3), none] [] e M K := by
  refine im_ld (q := 45) (i := 3) D279_44 rfl rfl rfl ?_
  refine im_ld (q := 46) (i := 0) D279_45 rfl rfl rfl ?_
  refine im_rng (j := 17) sf_6952 (by decide) (by decide) (fun hr1 => ?_)
  refine im_gfI (q := 49) D279_46 (im_fl cn_279 fl_12_588) sf_6952 rfl rfl tI_12_17 rfl ?_
  obtain ⟨hg2, hP⟩ := hP
  obtain ⟨hP, hJ15⟩ := hP
  have kJ16 : ∀ x14 : Int, ((((M 6952 17) ≤ p3) ∧ (p2 = 0) ∧ (¬ (M 6959 (M 6952 16)) = 63) ∧ x14 = 0) ∨ (((M 6952 17) ≤ p3) ∧ (p2 = 0) ∧ ((M 6959 (M 6952 16)) = 63) ∧ x14 = 1)) → im_T g d 279 160 [some (.ref 6952), none, none, none, none] [vI x14] e M K := by
    intro x14 hx17
    have hP := hJ15 x14 hx17
    refine im_st1 (q := 161) (i := 3) (L' := [some (.ref 6952), none, none, some (vI x14), none]) D279_160 (Or.inl ⟨_, rfl, rfl⟩) (Nat.le_of_ble_eq_true rfl) rfl ?_
    refine im_ld (q := 162) (i := 0) D279_161 rfl rfl rfl ?_
    refine im_ld (q := 163) (i := 0) D279_162 rfl rfl rfl ?_
    refine im_ld (q := 164) (i := 3) D279_163 rfl rfl rfl ?_
    have hJ22 := hP
    have kJ23 : ∀ x21 : Int, (((x14 = 0) ∧ x21 = (M 6952 16)) ∨ ((¬ x14 = 0) ∧ x21 = ((M 6952 16) + 1))) → im_T g d 279 180 [some (.ref 6952), none, none, some (vI x14), none] [vI x21, .ref 6952, .ref 6952] e M K := by
      intro x21 hx24
      have hP := hJ22 x21 hx24
      refine im_ld (q := 181) (i := 0) D279_180 rfl rfl rfl ?_
      refine im_gfI (q := 184) D279_181 (im_fl cn_279 fl_12_588) sf_6952 rfl rfl tI_12_17 rfl ?_
      refine im_callV (q := 187) (kd := 1) (y := 280) (n := 2) (ci := 12) (a := 6952) (vs := [.ref 6952, vI x21, vI (M 6952 17)]) (r := [.ref 6952]) (L2 := [some (.ref 6952), some (vI x21), some (vI (M 6952 17)), none, none, none]) D279_184 (im_cal cn_279 cl_12_594) (Or.inl rfl) rfl sf_6952 rfl rfl rfl rfl hd ⟨rfl, rfl, rfl, trivial⟩ ?_
      refine hP.mono ?_
      rintro _ e51 M26 ⟨x27, rfl, rfl, hP⟩
      refine im_bkS ?_
      obtain ⟨hg28, hP⟩ := hP
      refine im_pfL (q := 190) D279_187 (im_fl cn_279 fl_12_597) sf_6952 rfl rfl tl_12_18 hg28 ?_
      refine im_ld (q := 191) (i := 0) D279_190 rfl rfl rfl ?_
      refine im_gfL (q := 194) D279_191 (im_fl cn_279 fl_12_597) sf_6952 rfl rfl tL_12_18 (im_rds _ _ _ _) ?_
      refine im_callS (q := 197) (kd := 0) (y := 281) (n := 1) (z := 12) (vs := [vL x27]) (r := []) (L2 := [some (vL x27), none, none, none]) D279_194 rfl (im_cal cn_279 cl_12_573) (Or.inl rfl) rfl rfl rfl rfl rfl hd ⟨rfl, trivial⟩ ?_
      refine hP.mono ?_
      rintro _ e50 M30 ⟨x31, rfl, rfl, hP⟩
      refine im_bkS ?_
      refine im_st1 (q := 199) (i := 4) (L' := [some (.ref 6952), none, none, some (vI x14), some (vI x31)]) D279_197 (Or.inr rfl) (Nat.le_of_ble_eq_true rfl) rfl ?_
      refine im_ld (q := 200) (i := 0) D279_199 rfl rfl rfl ?_
      refine im_ld (q := 201) (i := 0) D279_200 rfl rfl rfl ?_
      refine im_rng (j := 18) sf_6952 (by decide) (by decide) (fun hr32 => ?_)
      refine im_gfL (q := 204) D279_201 (im_fl cn_279 fl_12_597) sf_6952 rfl rfl tL_12_18 rfl ?_
      refine im_lconst (q := 205) (z := 0) D279_204 rfl ?_
      obtain ⟨hP, hJ37, hJ40⟩ := hP
      have kJ38 : ((((M30 6952 18) = 0)) ∨ ((¬ (M30 6952 18) = 0) ∧ (¬ x14 = 0) ∧ (¬ x31 = 0))) → im_T g d 279 218 [none, none, none, none, none] [.ref 6952] e M30 K := by
        intro  hx39
        have hP := hJ37  hx39
        refine im_bipush (q := 220) D279_218 rfl ?_
        refine im_goto (q := 223) (t := 241) D279_220 rfl ?_
        refine im_pfI (q := 244) D279_241 (im_fl cn_279 fl_12_591) sf_6952 rfl rfl ti_12_15 (by decide) ?_
        exact im_vret (q := 245) D279_244 rfl hP
      have kJ41 : (((¬ (M30 6952 18) = 0) ∧ (x14 = 0)) ∨ ((¬ (M30 6952 18) = 0) ∧ (¬ x14 = 0) ∧ (x31 = 0))) → im_T g d 279 223 [none, none, none, some (vI x14), some (vI x31)] [.ref 6952] e M30 K := by
        intro  hx42
        have hP := hJ40  hx42
        refine im_ld (q := 224) (i := 3) D279_223 rfl rfl rfl ?_
        obtain ⟨hP, hJ47⟩ := hP
        have kJ48 : ∀ x46 : Int, (((x14 = 0) ∧ (x31 = 0) ∧ x46 = 3) ∨ ((x14 = 0) ∧ (¬ x31 = 0) ∧ x46 = 2) ∨ ((¬ x14 = 0) ∧ x46 = 4)) → im_T g d 279 241 [none, none, none, none, none] [vI x46, .ref 6952] e M30 K := by
          intro x46 hx49
          have hP := hJ47 x46 hx49
          refine im_pfI (q := 244) D279_241 (im_fl cn_279 fl_12_591) sf_6952 rfl rfl ti_12_15 (by omega) ?_
          exact im_vret (q := 245) D279_244 rfl hP
        refine im_ifc (q := 227) (t := 231) D279_224 rfl (by omega) (fun hc43 => ?_) (fun hc43 => ?_)
        · replace hP := hP hc43
          refine im_ld (q := 233) (i := 4) D279_231 rfl rfl rfl ?_
          have hg44 := hP
          refine im_ifc (q := 236) (t := 240) D279_233 rfl hg44 (fun hc45 => ?_) (fun hc45 => ?_)
          · refine im_iconst (q := 241) D279_240 ?_
            exact (kJ48 (3) (Or.inl ⟨hc43, hc45, rfl⟩)).wk trivial
          · refine im_iconst (q := 237) D279_236 ?_
            refine im_goto (q := 240) (t := 241) D279_237 rfl ?_
            exact (kJ48 (2) (Or.inr (Or.inl ⟨hc43, hc45, rfl⟩))).wk trivial
        · refine im_iconst (q := 228) D279_227 ?_
          refine im_goto (q := 231) (t := 241) D279_228 rfl ?_
          exact (kJ48 (4) (Or.inr (Or.inr ⟨hc43, rfl⟩))).wk trivial
      refine im_lif (q := 206) (q2 := 209) (t := 218) D279_205 D279_206 rfl hr32 (by decide) (fun hc33 => ?_) (fun hc33 => ?_)
      · exact (kJ38  (Or.inl hc33)).wk trivial
      · replace hP := hP hc33
        refine im_ld (q := 210) (i := 3) D279_209 rfl rfl rfl ?_
        refine im_ifc (q := 213) (t := 223) D279_210 rfl (by omega) (fun hc34 => ?_) (fun hc34 => ?_)
        · exact (kJ41  (Or.inl ⟨hc33, hc34⟩)).wk ⟨rfl, rfl, trivial⟩
        · replace hP := hP hc34
          refine im_ld (q := 215) (i := 4) D279_213 rfl rfl rfl ?_
          have hg35 := hP
          refine im_ifc (q := 218) (t := 223) D279_215 rfl hg35 (fun hc36 => ?_) (fun hc36 => ?_)
          · exact (kJ41  (Or.inr ⟨hc33, hc34, hc36⟩)).wk ⟨rfl, rfl, trivial⟩
          · exact (kJ38  (Or.inr ⟨hc33, hc34, hc36⟩)).wk trivial
    refine im_ifc (q := 167) (t := 176) D279_164 rfl (by omega) (fun hc18 => ?_) (fun hc18 => ?_)
    · refine im_ld (q := 177) (i := 0) D279_176 rfl rfl rfl ?_
      refine im_rng (j := 16) sf_6952 (by decide) (by decide) (fun hr19 => ?_)
      refine im_gfI (q := 180) D279_177 (im_fl cn_279 fl_12_585) sf_6952 rfl rfl tI_12_16 rfl ?_
      exact (kJ23 ((M 6952 16)) (Or.inl ⟨hc18, rfl⟩)).wk ⟨rfl, rfl, trivial⟩
    · refine im_ld (q := 168) (i := 0) D279_167 rfl rfl rfl ?_
      refine im_rng (j := 16) sf_6952 (by decide) (by decide) (fun hr20 => ?_)
      refine im_gfI (q := 171) D279_168 (im_fl cn_279 fl_12_585) sf_6952 rfl rfl tI_12_16 rfl ?_
      refine im_iconst (q := 172) D279_171 ?_
      refine im_iadd (q := 173) D279_172 ?_
      refine im_goto (q := 176) (t := 180) D279_173 rfl ?_
      exact (kJ23 (((M 6952 16) + 1)) (Or.inr ⟨hc18, rfl⟩)).wk ⟨rfl, rfl, trivial⟩
  refine im_icmp (q := 52) (t := 87) D279_49 rfl hg2 hr1 (fun hc3 => ?_) (fun hc3 => ?_)
  · replace hP := hP.1 hc3
    refine im_ld (q := 88) (i := 2) D279_87 rfl rfl rfl ?_
    obtain ⟨hg4, hP⟩ := hP
    refine im_ifc (q := 91) (t := 141) D279_88 rfl hg4 (fun hc5 => ?_) (fun hc5 => ?_)
    · replace hP := hP.1 hc5
      refine im_ld (q := 142) (i := 0) D279_141 rfl rfl rfl ?_
      refine im_gfR (q := 145) (b := 6959) D279_142 (im_fl cn_279 fl_12_30) sf_6952 rfl rfl tR_12_12 rf_6952_12 ?_
      refine im_ld (q := 146) (i := 0) D279_145 rfl rfl rfl ?_
      refine im_rng (j := 16) sf_6952 (by decide) (by decide) (fun hr6 => ?_)
      refine im_gfI (q := 149) D279_146 (im_fl cn_279 fl_12_585) sf_6952 rfl rfl tI_12_16 rfl ?_
      have hg7 := hP
      refine im_rng (j := (M 6952 16)) sf_6959 hg7.1 hg7.2 (fun hr8 => ?_)
      refine im_iald (q := 150) D279_149 sf_6959 hg7.1 hg7.2 (by decide) rfl ?_
      refine im_bipush (q := 152) D279_150 rfl ?_
      refine im_icmp (q := 155) (t := 159) D279_152 rfl hr8 (by decide) (fun hc9 => ?_) (fun hc9 => ?_)
      · refine im_iconst (q := 160) D279_159 ?_
        exact (kJ16 (0) (Or.inl ⟨hc3, hc5, hc9, rfl⟩)).wk ⟨rfl, trivial⟩
      · refine im_iconst (q := 156) D279_155 ?_
        refine im_goto (q := 159) (t := 160) D279_156 rfl ?_
        exact (kJ16 (1) (Or.inr ⟨hc3, hc5, (Decidable.not_not.mp hc9), rfl⟩)).wk ⟨rfl, trivial⟩
    · replace hP := hP.2 hc5
      refine im_ld (q := 92) (i := 1) D279_91 rfl rfl rfl ?_
      refine im_st1 (q := 93) (i := 3) (L' := [some (.ref 6952), some (vI p1), some (vI p2), some (vI p1), none]) D279_92 (Or.inl ⟨_, rfl, rfl⟩) (Nat.le_of_ble_eq_true rfl) rfl ?_
      exact hP.wk ⟨rfl, rfl, trivial⟩
  · replace hP := hP.2 (Int.not_le.mp hc3)
    refine im_ld (q := 53) (i := 2) D279_52 rfl rfl rfl ?_
    obtain ⟨hg10, hP⟩ := hP
    refine im_ifc (q := 56) (t := 79) D279_53 rfl hg10 (fun hc11 => ?_) (fun hc11 => ?_)
    · replace hP := hP.1 hc11
      refine im_iconst (q := 80) D279_79 ?_
      refine im_st1 (q := 81) (i := 2) (L' := [some (.ref 6952), some (vI p1), some (vI 0), some (vI p3), none]) D279_80 (Or.inl ⟨_, rfl, rfl⟩) (Nat.le_of_ble_eq_true rfl) rfl ?_
      refine im_iinc (q := 84) (i := 3) (L' := [some (.ref 6952), some (vI p1), some (vI 0), some (vI (p3 + 1)), none]) D279_81 rfl (Nat.le_of_ble_eq_true rfl) rfl ?_
      refine im_goto (q := 87) (t := 44) D279_84 rfl ?_
      exact hP.wk ⟨rfl, rfl, rfl, rfl, trivial⟩
    · replace hP := hP.2 hc11
      refine im_ld (q := 57) (i := 0) D279_56 rfl rfl rfl ?_
      refine im_gfR (q := 60) (b := 6959) D279_57 (im_fl cn_279 fl_12_30) sf_6952 rfl rfl tR_12_12 rf_6952_12 ?_
      refine im_ld (q := 61) (i := 3) D279_60 rfl rfl rfl ?_
      obtain ⟨hg12, hP⟩ := hP
      refine im_rng (j := p3) sf_6959 hg12.1 hg12.2 (fun hr13 => ?_)
      refine im_iald (q := 62) D279_61 sf_6959 hg12.1 hg12.2 (by decide) rfl ?_
      refine im_i2l (q := 63) D279_62 hr13 ?_
      refine im_ldc2 (q := 66) (n := 48) D279_63 rfl ?_
      refine im_ldc2 (q := 69) (n := 57) D279_66 rfl ?_
      refine im_callS (q := 72) (kd := 0) (y := 268) (n := 3) (z := 12) (vs := [vL (M 6959 p3), vL 48, vL 57]) (r := []) (L2 := [some (vL (M 6959 p3)), none, some (vL 48), none, some (vL 57), none]) D279_69 rfl (im_cal cn_279 cl_12_428) (Or.inl rfl) rfl rfl rfl rfl rfl hd ⟨rfl, rfl, rfl, trivial⟩ ?_
      refine hP.mono ?_
      rintro _ e56 M52 ⟨x53, rfl, rfl, hP⟩
      refine im_bkS ?_
      obtain ⟨hg54, hP⟩ := hP
      refine im_ifc (q := 75) (t := 79) D279_72 rfl hg54 (fun hc55 => ?_) (fun hc55 => ?_)
      · replace hP := hP.1 hc55
        refine im_iconst (q := 80) D279_79 ?_
        refine im_st1 (q := 81) (i := 2) (L' := [some (.ref 6952), some (vI p1), some (vI 0), some (vI p3), none]) D279_80 (Or.inl ⟨_, rfl, rfl⟩) (Nat.le_of_ble_eq_true rfl) rfl ?_
        refine im_iinc (q := 84) (i := 3) (L' := [some (.ref 6952), some (vI p1), some (vI 0), some (vI (p3 + 1)), none]) D279_81 rfl (Nat.le_of_ble_eq_true rfl) rfl ?_
        refine im_goto (q := 87) (t := 44) D279_84 rfl ?_
        exact hP.wk ⟨rfl, rfl, rfl, rfl, trivial⟩
      · replace hP := hP.2 hc55
        refine im_iconst (q := 76) D279_75 ?_
        refine im_goto (q := 79) (t := 80) D279_76 rfl ?_
        refine im_st1 (q := 81) (i := 2) (L' := [some (.ref 6952), some (vI p1), some (vI 1), some (vI p3), none]) D279_80 (Or.inl ⟨_, rfl, rfl⟩) (Nat.le_of_ble_eq_true rfl) rfl ?_
        refine im_iinc (q := 84) (i := 3) (L' := [some (.ref 6952), some (vI p1), some (vI 1), some (vI (p3 + 1)), none]) D279_81 rfl (Nat.le_of_ble_eq_true rfl) rfl ?_
        refine im_goto (q := 87) (t := 44) D279_84 rfl ?_
        exact hP.wk ⟨rfl, rfl, rfl, rfl, trivial⟩
set_option maxRecDepth 20000 in
set_option maxHeartbeats 4000000 in
theorem b_classify_93 {g : im_g} {d : Nat} {e : im_E} {M : im_M} {K : im_K} {p3 : Int} (hP : (im_i32 p3) ∧ ((((p3 < (M 6952 17) → (0 ≤ p3 ∧ p3 < 16384) ∧ (((M 6959 p3) = 48 → im_T g d 279 93 [some (.ref 6952), none, none, some (vI (p3 + 1)), none] [] e M K))))) ∧ (((((M 6952 17) ≤ p3)) ∨ ((p3 < (M 6952 17)) ∧ (¬ (M 6959 p3) = 48))) → (im_i32 ((M 6952 17) - p3)) ∧ ((∀ x13 : Int, (((((M 6952 17) - p3) ≤ 300) ∧ x13 = 1) ∨ ((300 < ((M 6952 17) - p3)) ∧ x13 = 10)) → K (.inl none) e (im_u M 6952 15 x13)))))) : im_T g d 279 93 [some (.ref 6952), none, none, some (vI p3), none] [] e M K := by
  refine im_ld (q := 94) (i := 3) D279_93 rfl rfl rfl ?_
  refine im_ld (q := 95) (i := 0) D279_94 rfl rfl rfl ?_
  refine im_rng (j := 17) sf_6952 (by decide) (by decide) (fun hr1 => ?_)
  refine im_gfI (q := 98) D279_95 (im_fl cn_279 fl_12_588) sf_6952 rfl rfl tI_12_17 rfl ?_
  obtain ⟨hg2, hP⟩ := hP
  obtain ⟨hP, hJ7⟩ := hP
  have kJ8 : ((((M 6952 17) ≤ p3)) ∨ ((p3 < (M 6952 17)) ∧ (¬ (M 6959 p3) = 48))) → im_T g d 279 118 [some (.ref 6952), none, none, some (vI p3), none] [] e M K := by
    intro  hx9
    have hP := hJ7  hx9
    refine im_ld (q := 119) (i := 0) D279_118 rfl rfl rfl ?_
    refine im_ld (q := 120) (i := 0) D279_119 rfl rfl rfl ?_
    refine im_gfI (q := 123) D279_120 (im_fl cn_279 fl_12_588) sf_6952 rfl rfl tI_12_17 rfl ?_
    refine im_ld (q := 124) (i := 3) D279_123 rfl rfl rfl ?_
    refine im_isub (q := 125) D279_124 ?_
    refine im_sipush (q := 128) D279_125 rfl ?_
    obtain ⟨hg11, hP⟩ := hP
    have hJ14 := hP
    have kJ15 : ∀ x13 : Int, (((((M 6952 17) - p3) ≤ 300) ∧ x13 = 1) ∨ ((300 < ((M 6952 17) - p3)) ∧ x13 = 10)) → im_T g d 279 137 [none, none, none, none, none] [vI x13, .ref 6952] e M K := by
      intro x13 hx16
      have hP := hJ14 x13 hx16
      refine im_pfI (q := 140) D279_137 (im_fl cn_279 fl_12_591) sf_6952 rfl rfl ti_12_15 (by omega) ?_
      exact im_vret (q := 141) D279_140 rfl hP
    refine im_icmp (q := 131) (t := 136) D279_128 rfl hg11 (by decide) (fun hc12 => ?_) (fun hc12 => ?_)
    · refine im_iconst (q := 137) D279_136 ?_
      exact (kJ15 (1) (Or.inl ⟨hc12, rfl⟩)).wk trivial
    · refine im_bipush (q := 133) D279_131 rfl ?_
      refine im_goto (q := 136) (t := 137) D279_133 rfl ?_
      exact (kJ15 (10) (Or.inr ⟨(Int.not_le.mp hc12), rfl⟩)).wk trivial
  refine im_icmp (q := 101) (t := 118) D279_98 rfl hg2 hr1 (fun hc3 => ?_) (fun hc3 => ?_)
  · exact (kJ8  (Or.inl hc3)).wk ⟨rfl, rfl, trivial⟩
  · replace hP := hP (Int.not_le.mp hc3)
    refine im_ld (q := 102) (i := 0) D279_101 rfl rfl rfl ?_
    refine im_gfR (q := 105) (b := 6959) D279_102 (im_fl cn_279 fl_12_30) sf_6952 rfl rfl tR_12_12 rf_6952_12 ?_
    refine im_ld (q := 106) (i := 3) D279_105 rfl rfl rfl ?_
    obtain ⟨hg4, hP⟩ := hP
    refine im_rng (j := p3) sf_6959 hg4.1 hg4.2 (fun hr5 => ?_)
    refine im_iald (q := 107) D279_106 sf_6959 hg4.1 hg4.2 (by decide) rfl ?_
    refine im_bipush (q := 109) D279_107 rfl ?_
    refine im_icmp (q := 112) (t := 118) D279_109 rfl hr5 (by decide) (fun hc6 => ?_) (fun hc6 => ?_)
    · exact (kJ8  (Or.inr ⟨(Int.not_le.mp hc3), hc6⟩)).wk ⟨rfl, rfl, trivial⟩
    · replace hP := hP (Decidable.not_not.mp hc6)
      refine im_iinc (q := 115) (i := 3) (L' := [some (.ref 6952), none, none, some (vI (p3 + 1)), none]) D279_112 rfl (Nat.le_of_ble_eq_true rfl) rfl ?_
      refine im_goto (q := 118) (t := 93) D279_115 rfl ?_
      exact hP.wk ⟨rfl, rfl, trivial⟩
set_option maxRecDepth 20000 in
set_option maxHeartbeats 4000000 in
theorem b_nameOf_0 {g : im_g} {d : Nat} {e : im_E} {M : im_M} {K : im_K} {p1 p2 : Int} (hd : 1 ≤ d) (hP : (im_i32 (p2 - p1)) ∧ ((((1 ≤ (p2 - p1) → (((p2 - p1) ≤ 8 → (0 ≤ p1 ∧ p1 < 16384) ∧ im_T g (d - 1) 268 0 [some (vL (M 6959 p1)), none, some (vL 97), none, some (vL 122), none] [] e M (im_ri (fun x10 e_ M9 => e = e_ ∧ (im_i32 x10) ∧ ((¬ x10 = 0 → im_T g d 280 41 [some (.ref 6952), none, some (vI p2), some (vL 0), none, some (vI p1)] [] e M9 K) ∧ (x10 = 0 → K (.inl (some (vL 0))) e M9))))))))) ∧ (((((p2 - p1) < 1)) ∨ ((1 ≤ (p2 - p1)) ∧ (8 < (p2 - p1)))) → K (.inl (some (vL 0))) e M))) : im_T g d 280 0 [some (.ref 6952), some (vI p1), some (vI p2), none, none, none] [] e M K := by
  refine im_ld (q := 1) (i := 2) D280_0 rfl rfl rfl ?_
  refine im_ld (q := 2) (i := 1) D280_1 rfl rfl rfl ?_
  refine im_isub (q := 3) D280_2 ?_
  refine im_iconst (q := 4) D280_3 ?_
  obtain ⟨hg1, hP⟩ := hP
  obtain ⟨hP, hJ6⟩ := hP
  have kJ7 : ((((p2 - p1) < 1)) ∨ ((1 ≤ (p2 - p1)) ∧ (8 < (p2 - p1)))) → im_T g d 280 34 [none, none, none, none, none, none] [] e M K := by
    intro  hx8
    have hP := hJ6  hx8
    refine im_lconst (q := 35) (z := 0) D280_34 rfl ?_
    exact im_lret (q := 36) D280_35 rfl hP
  refine im_icmp (q := 7) (t := 34) D280_4 rfl hg1 (by decide) (fun hc2 => ?_) (fun hc2 => ?_)
  · exact (kJ7  (Or.inl hc2)).wk trivial
  · replace hP := hP (Int.not_lt.mp hc2)
    refine im_ld (q := 8) (i := 2) D280_7 rfl rfl rfl ?_
    refine im_ld (q := 9) (i := 1) D280_8 rfl rfl rfl ?_
    refine im_isub (q := 10) D280_9 ?_
    refine im_bipush (q := 12) D280_10 rfl ?_
    refine im_icmp (q := 15) (t := 34) D280_12 rfl hg1 (by decide) (fun hc3 => ?_) (fun hc3 => ?_)
    · exact (kJ7  (Or.inr ⟨(Int.not_lt.mp hc2), hc3⟩)).wk trivial
    · replace hP := hP (Int.not_lt.mp hc3)
      refine im_ld (q := 16) (i := 0) D280_15 rfl rfl rfl ?_
      refine im_gfR (q := 19) (b := 6959) D280_16 (im_fl cn_280 fl_12_30) sf_6952 rfl rfl tR_12_12 rf_6952_12 ?_
      refine im_ld (q := 20) (i := 1) D280_19 rfl rfl rfl ?_
      obtain ⟨hg4, hP⟩ := hP
      refine im_rng (j := p1) sf_6959 hg4.1 hg4.2 (fun hr5 => ?_)
      refine im_iald (q := 21) D280_20 sf_6959 hg4.1 hg4.2 (by decide) rfl ?_
      refine im_i2l (q := 22) D280_21 hr5 ?_
      refine im_ldc2 (q := 25) (n := 97) D280_22 rfl ?_
      refine im_ldc2 (q := 28) (n := 122) D280_25 rfl ?_
      refine im_callS (q := 31) (kd := 0) (y := 268) (n := 3) (z := 12) (vs := [vL (M 6959 p1), vL 97, vL 122]) (r := []) (L2 := [some (vL (M 6959 p1)), none, some (vL 97), none, some (vL 122), none]) D280_28 rfl (im_cal cn_280 cl_12_428) (Or.inl rfl) rfl rfl rfl rfl rfl hd ⟨rfl, rfl, rfl, trivial⟩ ?_
      refine hP.mono ?_
      rintro _ e13 M9 ⟨x10, rfl, rfl, hP⟩
      refine im_bkS ?_
      obtain ⟨hg11, hP⟩ := hP
      refine im_ifc (q := 34) (t := 36) D280_31 rfl hg11 (fun hc12 => ?_) (fun hc12 => ?_)
      · replace hP := hP.1 hc12
        refine im_lconst (q := 37) (z := 0) D280_36 rfl ?_
        refine im_st2 (q := 38) (i := 3) (L' := [some (.ref 6952), some (vI p1), some (vI p2), some (vL 0), none, none]) D280_37 (Or.inl ⟨_, rfl, rfl⟩) (Nat.le_of_ble_eq_true rfl) rfl ?_
        refine im_ld (q := 39) (i := 1) D280_38 rfl rfl rfl ?_
        refine im_st1 (q := 41) (i := 5) (L' := [some (.ref 6952), some (vI p1), some (vI p2), some (vL 0), none, some (vI p1)]) D280_39 (Or.inr rfl) (Nat.le_of_ble_eq_true rfl) rfl ?_
        exact hP.wk ⟨rfl, rfl, rfl, rfl, trivial⟩
      · replace hP := hP.2 (Decidable.not_not.mp hc12)
        refine im_lconst (q := 35) (z := 0) D280_34 rfl ?_
        exact im_lret (q := 36) D280_35 rfl hP
set_option maxRecDepth 20000 in
set_option maxHeartbeats 4000000 in
theorem b_nameOf_41 {g : im_g} {d : Nat} {e : im_E} {M : im_M} {K : im_K} {p2 p3 p5 : Int} (hd : 1 ≤ d) (hP : (im_i32 p5) ∧ (im_i32 p2) ∧ ((p2 ≤ p5 → K (.inl (some (vL p3))) e M) ∧ (p5 < p2 → (0 ≤ p5 ∧ p5 < 16384) ∧ im_T g (d - 1) 268 0 [some (vL (M 6959 p5)), none, some (vL 97), none, some (vL 122), none] [] e M (im_ri (fun x7 e_ M6 => e = e_ ∧ (im_i32 x7) ∧ ((¬ x7 = 0 → im_T g d 280 41 [some (.ref 6952), none, some (vI p2), some (vL (xlor (xlshl p3 8) (M6 6959 p5))), none, some (vI (p5 + 1))] [] e M6 K) ∧ (x7 = 0 → im_T g (d - 1) 268 0 [some (vL (M6 6959 p5)), none, some (vL 48), none, some (vL 57), none] [] e M6 (im_ri (fun x13 e_ M12 => e = e_ ∧ (im_i32 x13) ∧ ((¬ x13 = 0 → im_T g d 280 41 [some (.ref 6952), none, some (vI p2), some (vL (xlor (xlshl p3 8) (M12 6959 p5))), none, some (vI (p5 + 1))] [] e M12 K) ∧ (x13 = 0 → K (.inl (some (vL 0))) e M12))))))))))) : im_T g d 280 41 [some (.ref 6952), none, some (vI p2), some (vL p3), none, some (vI p5)] [] e M K := by
  refine im_ld (q := 43) (i := 5) D280_41 rfl rfl rfl ?_
  refine im_ld (q := 44) (i := 2) D280_43 rfl rfl rfl ?_
  obtain ⟨hg1, hP⟩ := hP
  obtain ⟨hg2, hP⟩ := hP
  refine im_icmp (q := 47) (t := 109) D280_44 rfl hg1 hg2 (fun hc3 => ?_) (fun hc3 => ?_)
  · replace hP := hP.1 hc3
    refine im_ld (q := 110) (i := 3) D280_109 rfl rfl rfl ?_
    exact im_lret (q := 111) D280_110 rfl hP
  · replace hP := hP.2 (Int.not_le.mp hc3)
    refine im_ld (q := 48) (i := 0) D280_47 rfl rfl rfl ?_
    refine im_gfR (q := 51) (b := 6959) D280_48 (im_fl cn_280 fl_12_30) sf_6952 rfl rfl tR_12_12 rf_6952_12 ?_
    refine im_ld (q := 53) (i := 5) D280_51 rfl rfl rfl ?_
    obtain ⟨hg4, hP⟩ := hP
    refine im_rng (j := p5) sf_6959 hg4.1 hg4.2 (fun hr5 => ?_)
    refine im_iald (q := 54) D280_53 sf_6959 hg4.1 hg4.2 (by decide) rfl ?_
    refine im_i2l (q := 55) D280_54 hr5 ?_
    refine im_ldc2 (q := 58) (n := 97) D280_55 rfl ?_
    refine im_ldc2 (q := 61) (n := 122) D280_58 rfl ?_
    refine im_callS (q := 64) (kd := 0) (y := 268) (n := 3) (z := 12) (vs := [vL (M 6959 p5), vL 97, vL 122]) (r := []) (L2 := [some (vL (M 6959 p5)), none, some (vL 97), none, some (vL 122), none]) D280_61 rfl (im_cal cn_280 cl_12_428) (Or.inl rfl) rfl rfl rfl rfl rfl hd ⟨rfl, rfl, rfl, trivial⟩ ?_
    refine hP.mono ?_
    rintro _ e18 M6 ⟨x7, rfl, rfl, hP⟩
    refine im_bkS ?_
    obtain ⟨hg8, hP⟩ := hP
    refine im_ifc (q := 67) (t := 89) D280_64 rfl hg8 (fun hc9 => ?_) (fun hc9 => ?_)
    · replace hP := hP.1 hc9
      refine im_ld (q := 90) (i := 3) D280_89 rfl rfl rfl ?_
      refine im_bipush (q := 92) D280_90 rfl ?_
      refine im_lshl (q := 93) D280_92 ?_
      refine im_ld (q := 94) (i := 0) D280_93 rfl rfl rfl ?_
      refine im_gfR (q := 97) (b := 6959) D280_94 (im_fl cn_280 fl_12_30) sf_6952 rfl rfl tR_12_12 rf_6952_12 ?_
      refine im_ld (q := 99) (i := 5) D280_97 rfl rfl rfl ?_
      refine im_rng (j := p5) sf_6959 hg4.1 hg4.2 (fun hr11 => ?_)
      refine im_iald (q := 100) D280_99 sf_6959 hg4.1 hg4.2 (by decide) rfl ?_
      refine im_i2l (q := 101) D280_100 hr11 ?_
      refine im_lor (q := 102) D280_101 ?_
      refine im_st2 (q := 103) (i := 3) (L' := [some (.ref 6952), none, some (vI p2), some (vL (xlor (xlshl p3 8) (M6 6959 p5))), none, some (vI p5)]) D280_102 (Or.inl ⟨_, rfl, rfl⟩) (Nat.le_of_ble_eq_true rfl) rfl ?_
      refine im_iinc (q := 106) (i := 5) (L' := [some (.ref 6952), none, some (vI p2), some (vL (xlor (xlshl p3 8) (M6 6959 p5))), none, some (vI (p5 + 1))]) D280_103 rfl (Nat.le_of_ble_eq_true rfl) rfl ?_
      refine im_goto (q := 109) (t := 41) D280_106 rfl ?_
      exact hP.wk ⟨rfl, rfl, rfl, rfl, trivial⟩
    · replace hP := hP.2 (Decidable.not_not.mp hc9)
      refine im_ld (q := 68) (i := 0) D280_67 rfl rfl rfl ?_
      refine im_gfR (q := 71) (b := 6959) D280_68 (im_fl cn_280 fl_12_30) sf_6952 rfl rfl tR_12_12 rf_6952_12 ?_
      refine im_ld (q := 73) (i := 5) D280_71 rfl rfl rfl ?_
      refine im_rng (j := p5) sf_6959 hg4.1 hg4.2 (fun hr10 => ?_)
      refine im_iald (q := 74) D280_73 sf_6959 hg4.1 hg4.2 (by decide) rfl ?_
      refine im_i2l (q := 75) D280_74 hr10 ?_
      refine im_ldc2 (q := 78) (n := 48) D280_75 rfl ?_
      refine im_ldc2 (q := 81) (n := 57) D280_78 rfl ?_
      refine im_callS (q := 84) (kd := 0) (y := 268) (n := 3) (z := 12) (vs := [vL (M6 6959 p5), vL 48, vL 57]) (r := []) (L2 := [some (vL (M6 6959 p5)), none, some (vL 48), none, some (vL 57), none]) D280_81 rfl (im_cal cn_280 cl_12_428) (Or.inl rfl) rfl rfl rfl rfl rfl hd ⟨rfl, rfl, rfl, trivial⟩ ?_
      refine hP.mono ?_
      rintro _ e17 M12 ⟨x13, rfl, rfl, hP⟩
      refine im_bkS ?_
      obtain ⟨hg14, hP⟩ := hP
      refine im_ifc (q := 87) (t := 89) D280_84 rfl hg14 (fun hc15 => ?_) (fun hc15 => ?_)
      · replace hP := hP.1 hc15
        refine im_ld (q := 90) (i := 3) D280_89 rfl rfl rfl ?_
        refine im_bipush (q := 92) D280_90 rfl ?_
        refine im_lshl (q := 93) D280_92 ?_
        refine im_ld (q := 94) (i := 0) D280_93 rfl rfl rfl ?_
        refine im_gfR (q := 97) (b := 6959) D280_94 (im_fl cn_280 fl_12_30) sf_6952 rfl rfl tR_12_12 rf_6952_12 ?_
        refine im_ld (q := 99) (i := 5) D280_97 rfl rfl rfl ?_
        refine im_rng (j := p5) sf_6959 hg4.1 hg4.2 (fun hr16 => ?_)
        refine im_iald (q := 100) D280_99 sf_6959 hg4.1 hg4.2 (by decide) rfl ?_
        refine im_i2l (q := 101) D280_100 hr16 ?_
        refine im_lor (q := 102) D280_101 ?_
        refine im_st2 (q := 103) (i := 3) (L' := [some (.ref 6952), none, some (vI p2), some (vL (xlor (xlshl p3 8) (M12 6959 p5))), none, some (vI p5)]) D280_102 (Or.inl ⟨_, rfl, rfl⟩) (Nat.le_of_ble_eq_true rfl) rfl ?_
        refine im_iinc (q := 106) (i := 5) (L' := [some (.ref 6952), none, some (vI p2), some (vL (xlor (xlshl p3 8) (M12 6959 p5))), none, some (vI (p5 + 1))]) D280_103 rfl (Nat.le_of_ble_eq_true rfl) rfl ?_
        refine im_goto (q := 109) (t := 41) D280_106 rfl ?_
        exact hP.wk ⟨rfl, rfl, rfl, rfl, trivial⟩
      · replace hP := hP.2 (Decidable.not_not.mp hc15)
        refine im_lconst (q := 88) (z := 0) D280_87 rfl ?_
        exact im_lret (q := 89) D280_88 rfl hP
set_option maxRecDepth 20000 in
set_option maxHeartbeats 4000000 in
theorem b_isKeyword_0 {g : im_g} {d : Nat} {e : im_E} {M : im_M} {K : im_K} {p0 : Int} (hP : (im_i64 p0) ∧ ((((¬ p0 = 427021005669 → ((¬ p0 = 7364985 → ((¬ p0 = 29807 → ((¬ p0 = 1768846447 → ((¬ p0 = 26982 → ((¬ p0 = 2003330414 → ((¬ p0 = 1667330917 → ((¬ p0 = 28259031251642740 → ((¬ p0 = 109300196926309 → ((¬ p0 = 121424973489785 → ((¬ p0 = 7103860 → ((¬ p0 = 107148485161588 → ((((¬ p0 = 1751477348 → ((¬ p0 = 7234919 → ((¬ p0 = 6382692 → ((¬ p0 = 7566690 → ((¬ p0 = 7173484 → ((¬ p0 = 6580598 → ((¬ p0 = 109300197582190 → ((¬ p0 = 495873782388 → ((¬ p0 = 6647396 → ((¬ p0 = 7697253 → ((¬ p0 = 1668247140 → ((((0 = 0 → ((0 = 0 → ((¬ p0 = 6385252 → ((¬ p0 = 28530 → ((¬ p0 = 7237492 → ((¬ p0 = 426953896805 → ((¬ p0 = 26469 → ((¬ p0 = 26484 → ((¬ p0 = 27749 → ((¬ p0 = 27764 → ((¬ p0 = 25969 → ((¬ p0 = 1953658213 → ((¬ p0 = 439721161573 → K (.inl (some (vI 0))) e M))))))))))))))))))))))))))) ∧ ((((¬ 0 = 0)) ∨ ((0 = 0) ∧ (¬ 0 = 0)) ∨ ((0 = 0) ∧ (0 = 0) ∧ (p0 = 6385252)) ∨ ((0 = 0) ∧ (0 = 0) ∧ (¬ p0 = 6385252) ∧ (p0 = 28530)) ∨ ((0 = 0) ∧ (0 = 0) ∧ (¬ p0 = 6385252) ∧ (¬ p0 = 28530) ∧ (p0 = 7237492)) ∨ ((0 = 0) ∧ (0 = 0) ∧ (¬ p0 = 6385252) ∧ (¬ p0 = 28530) ∧ (¬ p0 = 7237492) ∧ (p0 = 426953896805)) ∨ ((0 = 0) ∧ (0 = 0) ∧ (¬ p0 = 6385252) ∧ (¬ p0 = 28530) ∧ (¬ p0 = 7237492) ∧ (¬ p0 = 426953896805) ∧ (p0 = 26469)) ∨ ((0 = 0) ∧ (0 = 0) ∧ (¬ p0 = 6385252) ∧ (¬ p0 = 28530) ∧ (¬ p0 = 7237492) ∧ (¬ p0 = 426953896805) ∧ (¬ p0 = 26469) ∧ (p0 = 26484)) ∨ ((0 = 0) ∧ (0 = 0) ∧ (¬ p0 = 6385252) ∧ (¬ p0 = 28530) ∧ (¬ p0 = 7237492) ∧ (¬ p0 = 426953896805) ∧ (¬ p0 = 26469) ∧ (¬ p0 = 26484) ∧ (p0 = 27749)) ∨ ((0 = 0) ∧ (0 = 0) ∧ (¬ p0 = 6385252) ∧ (¬ p0 = 28530) ∧ (¬ p0 = 7237492) ∧ (¬ p0 = 426953896805) ∧ (¬ p0 = 26469) ∧ (¬ p0 = 26484) ∧ (¬ p0 = 27749) ∧ (p0 = 27764)) ∨ ((0 = 0) ∧ (0 = 0) ∧ (¬ p0 = 6385252) ∧ (¬ p0 = 28530) ∧ (¬ p0 = 7237492) ∧ (¬ p0 = 426953896805) ∧ (¬ p0 = 26469) ∧ (¬ p0 = 26484) ∧ (¬ p0 = 27749) ∧ (¬ p0 = 27764) ∧ (p0 = 25969)) ∨ ((0 = 0) ∧ (0 = 0) ∧ (¬ p0 = 6385252) ∧ (¬ p0 = 28530) ∧ (¬ p0 = 7237492) ∧ (¬ p0 = 426953896805) ∧ (¬ p0 = 26469) ∧ (¬ p0 = 26484) ∧ (¬ p0 = 27749) ∧ (¬ p0 = 27764) ∧ (¬ p0 = 25969) ∧ (p0 = 1953658213)) ∨ ((0 = 0) ∧ (0 = 0) ∧ (¬ p0 = 6385252) ∧ (¬ p0 = 28530) ∧ (¬ p0 = 7237492) ∧ (¬ p0 = 426953896805) ∧ (¬ p0 = 26469) ∧ (¬ p0 = 26484) ∧ (¬ p0 = 27749) ∧ (¬ p0 = 27764) ∧ (¬ p0 = 25969) ∧ (¬ p0 = 1953658213) ∧ (p0 = 439721161573))) → K (.inl (some (vI 1))) e M))))))))))))))))))))))))) ∧ ((((p0 = 1751477348)) ∨ ((¬ p0 = 1751477348) ∧ (p0 = 7234919)) ∨ ((¬ p0 = 1751477348) ∧ (¬ p0 = 7234919) ∧ (p0 = 6382692)) ∨ ((¬ p0 = 1751477348) ∧ (¬ p0 = 7234919) ∧ (¬ p0 = 6382692) ∧ (p0 = 7566690)) ∨ ((¬ p0 = 1751477348) ∧ (¬ p0 = 7234919) ∧ (¬ p0 = 6382692) ∧ (¬ p0 = 7566690) ∧ (p0 = 7173484)) ∨ ((¬ p0 = 1751477348) ∧ (¬ p0 = 7234919) ∧ (¬ p0 = 6382692) ∧ (¬ p0 = 7566690) ∧ (¬ p0 = 7173484) ∧ (p0 = 6580598)) ∨ ((¬ p0 = 1751477348) ∧ (¬ p0 = 7234919) ∧ (¬ p0 = 6382692) ∧ (¬ p0 = 7566690) ∧ (¬ p0 = 7173484) ∧ (¬ p0 = 6580598) ∧ (p0 = 109300197582190)) ∨ ((¬ p0 = 1751477348) ∧ (¬ p0 = 7234919) ∧ (¬ p0 = 6382692) ∧ (¬ p0 = 7566690) ∧ (¬ p0 = 7173484) ∧ (¬ p0 = 6580598) ∧ (¬ p0 = 109300197582190) ∧ (p0 = 495873782388)) ∨ ((¬ p0 = 1751477348) ∧ (¬ p0 = 7234919) ∧ (¬ p0 = 6382692) ∧ (¬ p0 = 7566690) ∧ (¬ p0 = 7173484) ∧ (¬ p0 = 6580598) ∧ (¬ p0 = 109300197582190) ∧ (¬ p0 = 495873782388) ∧ (p0 = 6647396)) ∨ ((¬ p0 = 1751477348) ∧ (¬ p0 = 7234919) ∧ (¬ p0 = 6382692) ∧ (¬ p0 = 7566690) ∧ (¬ p0 = 7173484) ∧ (¬ p0 = 6580598) ∧ (¬ p0 = 109300197582190) ∧ (¬ p0 = 495873782388) ∧ (¬ p0 = 6647396) ∧ (p0 = 7697253)) ∨ ((¬ p0 = 1751477348) ∧ (¬ p0 = 7234919) ∧ (¬ p0 = 6382692) ∧ (¬ p0 = 7566690) ∧ (¬ p0 = 7173484) ∧ (¬ p0 = 6580598) ∧ (¬ p0 = 109300197582190) ∧ (¬ p0 = 495873782388) ∧ (¬ p0 = 6647396) ∧ (¬ p0 = 7697253) ∧ (p0 = 1668247140))) → ((((0 = 0 → ((1 = 0 → ((¬ p0 = 6385252 → ((¬ p0 = 28530 → ((¬ p0 = 7237492 → ((¬ p0 = 426953896805 → ((¬ p0 = 26469 → ((¬ p0 = 26484 → ((¬ p0 = 27749 → ((¬ p0 = 27764 → ((¬ p0 = 25969 → ((¬ p0 = 1953658213 → ((¬ p0 = 439721161573 → K (.inl (some (vI 0))) e M))))))))))))))))))))))))))) ∧ ((((¬ 0 = 0)) ∨ ((0 = 0) ∧ (¬ 1 = 0)) ∨ ((0 = 0) ∧ (1 = 0) ∧ (p0 = 6385252)) ∨ ((0 = 0) ∧ (1 = 0) ∧ (¬ p0 = 6385252) ∧ (p0 = 28530)) ∨ ((0 = 0) ∧ (1 = 0) ∧ (¬ p0 = 6385252) ∧ (¬ p0 = 28530) ∧ (p0 = 7237492)) ∨ ((0 = 0) ∧ (1 = 0) ∧ (¬ p0 = 6385252) ∧ (¬ p0 = 28530) ∧ (¬ p0 = 7237492) ∧ (p0 = 426953896805)) ∨ ((0 = 0) ∧ (1 = 0) ∧ (¬ p0 = 6385252) ∧ (¬ p0 = 28530) ∧ (¬ p0 = 7237492) ∧ (¬ p0 = 426953896805) ∧ (p0 = 26469)) ∨ ((0 = 0) ∧ (1 = 0) ∧ (¬ p0 = 6385252) ∧ (¬ p0 = 28530) ∧ (¬ p0 = 7237492) ∧ (¬ p0 = 426953896805) ∧ (¬ p0 = 26469) ∧ (p0 = 26484)) ∨ ((0 = 0) ∧ (1 = 0) ∧ (¬ p0 = 6385252) ∧ (¬ p0 = 28530) ∧ (¬ p0 = 7237492) ∧ (¬ p0 = 426953896805) ∧ (¬ p0 = 26469) ∧ (¬ p0 = 26484) ∧ (p0 = 27749)) ∨ ((0 = 0) ∧ (1 = 0) ∧ (¬ p0 = 6385252) ∧ (¬ p0 = 28530) ∧ (¬ p0 = 7237492) ∧ (¬ p0 = 426953896805) ∧ (¬ p0 = 26469) ∧ (¬ p0 = 26484) ∧ (¬ p0 = 27749) ∧ (p0 = 27764)) ∨ ((0 = 0) ∧ (1 = 0) ∧ (¬ p0 = 6385252) ∧ (¬ p0 = 28530) ∧ (¬ p0 = 7237492) ∧ (¬ p0 = 426953896805) ∧ (¬ p0 = 26469) ∧ (¬ p0 = 26484) ∧ (¬ p0 = 27749) ∧ (¬ p0 = 27764) ∧ (p0 = 25969)) ∨ ((0 = 0) ∧ (1 = 0) ∧ (¬ p0 = 6385252) ∧ (¬ p0 = 28530) ∧ (¬ p0 = 7237492) ∧ (¬ p0 = 426953896805) ∧ (¬ p0 = 26469) ∧ (¬ p0 = 26484) ∧ (¬ p0 = 27749) ∧ (¬ p0 = 27764) ∧ (¬ p0 = 25969) ∧ (p0 = 1953658213)) ∨ ((0 = 0) ∧ (1 = 0) ∧ (¬ p0 = 6385252) ∧ (¬ p0 = 28530) ∧ (¬ p0 = 7237492) ∧ (¬ p0 = 426953896805) ∧ (¬ p0 = 26469) ∧ (¬ p0 = 26484) ∧ (¬ p0 = 27749) ∧ (¬ p0 = 27764) ∧ (¬ p0 = 25969) ∧ (¬ p0 = 1953658213) ∧ (p0 = 439721161573))) → K (.inl (some (vI 1))) e M))))))))))))))))))))))))))))) ∧ ((((p0 = 427021005669)) ∨ ((¬ p0 = 427021005669) ∧ (p0 = 7364985)) ∨ ((¬ p0 = 427021005669) ∧ (¬ p0 = 7364985) ∧ (p0 = 29807)) ∨ ((¬ p0 = 427021005669) ∧ (¬ p0 = 7364985) ∧ (¬ p0 = 29807) ∧ (p0 = 1768846447)) ∨ ((¬ p0 = 427021005669) ∧ (¬ p0 = 7364985) ∧ (¬ p0 = 29807) ∧ (¬ p0 = 1768846447) ∧ (p0 = 26982)) ∨ ((¬ p0 = 427021005669) ∧ (¬ p0 = 7364985) ∧ (¬ p0 = 29807) ∧ (¬ p0 = 1768846447) ∧ (¬ p0 = 26982) ∧ (p0 = 2003330414)) ∨ ((¬ p0 = 427021005669) ∧ (¬ p0 = 7364985) ∧ (¬ p0 = 29807) ∧ (¬ p0 = 1768846447) ∧ (¬ p0 = 26982) ∧ (¬ p0 = 2003330414) ∧ (p0 = 1667330917)) ∨ ((¬ p0 = 427021005669) ∧ (¬ p0 = 7364985) ∧ (¬ p0 = 29807) ∧ (¬ p0 = 1768846447) ∧ (¬ p0 = 26982) ∧ (¬ p0 = 2003330414) ∧ (¬ p0 = 1667330917) ∧ (p0 = 28259031251642740)) ∨ ((¬ p0 = 427021005669) ∧ (¬ p0 = 7364985) ∧ (¬ p0 = 29807) ∧ (¬ p0 = 1768846447) ∧ (¬ p0 = 26982) ∧ (¬ p0 = 2003330414) ∧ (¬ p0 = 1667330917) ∧ (¬ p0 = 28259031251642740) ∧ (p0 = 109300196926309)) ∨ ((¬ p0 = 427021005669) ∧ (¬ p0 = 7364985) ∧ (¬ p0 = 29807) ∧ (¬ p0 = 1768846447) ∧ (¬ p0 = 26982) ∧ (¬ p0 = 2003330414) ∧ (¬ p0 = 1667330917) ∧ (¬ p0 = 28259031251642740) ∧ (¬ p0 = 109300196926309) ∧ (p0 = 121424973489785)) ∨ ((¬ p0 = 427021005669) ∧ (¬ p0 = 7364985) ∧ (¬ p0 = 29807) ∧ (¬ p0 = 1768846447) ∧ (¬ p0 = 26982) ∧ (¬ p0 = 2003330414) ∧ (¬ p0 = 1667330917) ∧ (¬ p0 = 28259031251642740) ∧ (¬ p0 = 109300196926309) ∧ (¬ p0 = 121424973489785) ∧ (p0 = 7103860)) ∨ ((¬ p0 = 427021005669) ∧ (¬ p0 = 7364985) ∧ (¬ p0 = 29807) ∧ (¬ p0 = 1768846447) ∧ (¬ p0 = 26982) ∧ (¬ p0 = 2003330414) ∧ (¬ p0 = 1667330917) ∧ (¬ p0 = 28259031251642740) ∧ (¬ p0 = 109300196926309) ∧ (¬ p0 = 121424973489785) ∧ (¬ p0 = 7103860) ∧ (p0 = 107148485161588))) → ((((¬ p0 = 1751477348 → ((¬ p0 = 7234919 → ((¬ p0 = 6382692 → ((¬ p0 = 7566690 → ((¬ p0 = 7173484 → ((¬ p0 = 6580598 → ((¬ p0 = 109300197582190 → ((¬ p0 = 495873782388 → ((¬ p0 = 6647396 → ((¬ p0 = 7697253 → ((¬ p0 = 1668247140 → ((((1 = 0 → ((0 = 0 → ((¬ p0 = 6385252 → ((¬ p0 = 28530 → ((¬ p0 = 7237492 → ((¬ p0 = 426953896805 → ((¬ p0 = 26469 → ((¬ p0 = 26484 → ((¬ p0 = 27749 → ((¬ p0 = 27764 → ((¬ p0 = 25969 → ((¬ p0 = 1953658213 → ((¬ p0 = 439721161573 → K (.inl (some (vI 0))) e M))))))))))))))))))))))))))) ∧ ((((¬ 1 = 0)) ∨ ((1 = 0) ∧ (¬ 0 = 0)) ∨ ((1 = 0) ∧ (0 = 0) ∧ (p0 = 6385252)) ∨ ((1 = 0) ∧ (0 = 0) ∧ (¬ p0 = 6385252) ∧ (p0 = 28530)) ∨ ((1 = 0) ∧ (0 = 0) ∧ (¬ p0 = 6385252) ∧ (¬ p0 = 28530) ∧ (p0 = 7237492)) ∨ ((1 = 0) ∧ (0 = 0) ∧ (¬ p0 = 6385252) ∧ (¬ p0 = 28530) ∧ (¬ p0 = 7237492) ∧ (p0 = 426953896805)) ∨ ((1 = 0) ∧ (0 = 0) ∧ (¬ p0 = 6385252) ∧ (¬ p0 = 28530) ∧ (¬ p0 = 7237492) ∧ (¬ p0 = 426953896805) ∧ (p0 = 26469)) ∨ ((1 = 0) ∧ (0 = 0) ∧ (¬ p0 = 6385252) ∧ (¬ p0 = 28530) ∧ (¬ p0 = 7237492) ∧ (¬ p0 = 426953896805) ∧ (¬ p0 = 26469) ∧ (p0 = 26484)) ∨ ((1 = 0) ∧ (0 = 0) ∧ (¬ p0 = 6385252) ∧ (¬ p0 = 28530) ∧ (¬ p0 = 7237492) ∧ (¬ p0 = 426953896805) ∧ (¬ p0 = 26469) ∧ (¬ p0 = 26484) ∧ (p0 = 27749)) ∨ ((1 = 0) ∧ (0 = 0) ∧ (¬ p0 = 6385252) ∧ (¬ p0 = 28530) ∧ (¬ p0 = 7237492) ∧ (¬ p0 = 426953896805) ∧ (¬ p0 = 26469) ∧ (¬ p0 = 26484) ∧ (¬ p0 = 27749) ∧ (p0 = 27764)) ∨ ((1 = 0) ∧ (0 = 0) ∧ (¬ p0 = 6385252) ∧ (¬ p0 = 28530) ∧ (¬ p0 = 7237492) ∧ (¬ p0 = 426953896805) ∧ (¬ p0 = 26469) ∧ (¬ p0 = 26484) ∧ (¬ p0 = 27749) ∧ (¬ p0 = 27764) ∧ (p0 = 25969)) ∨ ((1 = 0) ∧ (0 = 0) ∧ (¬ p0 = 6385252) ∧ (¬ p0 = 28530) ∧ (¬ p0 = 7237492) ∧ (¬ p0 = 426953896805) ∧ (¬ p0 = 26469) ∧ (¬ p0 = 26484) ∧ (¬ p0 = 27749) ∧ (¬ p0 = 27764) ∧ (¬ p0 = 25969) ∧ (p0 = 1953658213)) ∨ ((1 = 0) ∧ (0 = 0) ∧ (¬ p0 = 6385252) ∧ (¬ p0 = 28530) ∧ (¬ p0 = 7237492) ∧ (¬ p0 = 426953896805) ∧ (¬ p0 = 26469) ∧ (¬ p0 = 26484) ∧ (¬ p0 = 27749) ∧ (¬ p0 = 27764) ∧ (¬ p0 = 25969) ∧ (¬ p0 = 1953658213) ∧ (p0 = 439721161573))) → K (.inl (some (vI 1))) e M))))))))))))))))))))))))) ∧ ((((p0 = 1751477348)) ∨ ((¬ p0 = 1751477348) ∧ (p0 = 7234919)) ∨ ((¬ p0 = 1751477348) ∧ (¬ p0 = 7234919) ∧ (p0 = 6382692)) ∨ ((¬ p0 = 1751477348) ∧ (¬ p0 = 7234919) ∧ (¬ p0 = 6382692) ∧ (p0 = 7566690)) ∨ ((¬ p0 = 1751477348) ∧ (¬ p0 = 7234919) ∧ (¬ p0 = 6382692) ∧ (¬ p0 = 7566690) ∧ (p0 = 7173484)) ∨ ((¬ p0 = 1751477348) ∧ (¬ p0 = 7234919) ∧ (¬ p0 = 6382692) ∧ (¬ p0 = 7566690) ∧ (¬ p0 = 7173484) ∧ (p0 = 6580598)) ∨ ((¬ p0 = 1751477348) ∧ (¬ p0 = 7234919) ∧ (¬ p0 = 6382692) ∧ (¬ p0 = 7566690) ∧ (¬ p0 = 7173484) ∧ (¬ p0 = 6580598) ∧ (p0 = 109300197582190)) ∨ ((¬ p0 = 1751477348) ∧ (¬ p0 = 7234919) ∧ (¬ p0 = 6382692) ∧ (¬ p0 = 7566690) ∧ (¬ p0 = 7173484) ∧ (¬ p0 = 6580598) ∧ (¬ p0 = 109300197582190) ∧ (p0 = 495873782388)) ∨ ((¬ p0 = 1751477348) ∧ (¬ p0 = 7234919) ∧ (¬ p0 = 6382692) ∧ (¬ p0 = 7566690) ∧ (¬ p0 = 7173484) ∧ (¬ p0 = 6580598) ∧ (¬ p0 = 109300197582190) ∧ (¬ p0 = 495873782388) ∧ (p0 = 6647396)) ∨ ((¬ p0 = 1751477348) ∧ (¬ p0 = 7234919) ∧ (¬ p0 = 6382692) ∧ (¬ p0 = 7566690) ∧ (¬ p0 = 7173484) ∧ (¬ p0 = 6580598) ∧ (¬ p0 = 109300197582190) ∧ (¬ p0 = 495873782388) ∧ (¬ p0 = 6647396) ∧ (p0 = 7697253)) ∨ ((¬ p0 = 1751477348) ∧ (¬ p0 = 7234919) ∧ (¬ p0 = 6382692) ∧ (¬ p0 = 7566690) ∧ (¬ p0 = 7173484) ∧ (¬ p0 = 6580598) ∧ (¬ p0 = 109300197582190) ∧ (¬ p0 = 495873782388) ∧ (¬ p0 = 6647396) ∧ (¬ p0 = 7697253) ∧ (p0 = 1668247140))) → ((((1 = 0 → ((1 = 0 → ((¬ p0 = 6385252 → ((¬ p0 = 28530 → ((¬ p0 = 7237492 → ((¬ p0 = 426953896805 → ((¬ p0 = 26469 → ((¬ p0 = 26484 → ((¬ p0 = 27749 → ((¬ p0 = 27764 → ((¬ p0 = 25969 → ((¬ p0 = 1953658213 → ((¬ p0 = 439721161573 → K (.inl (some (vI 0))) e M))))))))))))))))))))))))))) ∧ ((((¬ 1 = 0)) ∨ ((1 = 0) ∧ (¬ 1 = 0)) ∨ ((1 = 0) ∧ (1 = 0) ∧ (p0 = 6385252)) ∨ ((1 = 0) ∧ (1 = 0) ∧ (¬ p0 = 6385252) ∧ (p0 = 28530)) ∨ ((1 = 0) ∧ (1 = 0) ∧ (¬ p0 = 6385252) ∧ (¬ p0 = 28530) ∧ (p0 = 7237492)) ∨ ((1 = 0) ∧ (1 = 0) ∧ (¬ p0 = 6385252) ∧ (¬ p0 = 28530) ∧ (¬ p0 = 7237492) ∧ (p0 = 426953896805)) ∨ ((1 = 0) ∧ (1 = 0) ∧ (¬ p0 = 6385252) ∧ (¬ p0 = 28530) ∧ (¬ p0 = 7237492) ∧ (¬ p0 = 426953896805) ∧ (p0 = 26469)) ∨ ((1 = 0) ∧ (1 = 0) ∧ (¬ p0 = 6385252) ∧ (¬ p0 = 28530) ∧ (¬ p0 = 7237492) ∧ (¬ p0 = 426953896805) ∧ (¬ p0 = 26469) ∧ (p0 = 26484)) ∨ ((1 = 0) ∧ (1 = 0) ∧ (¬ p0 = 6385252) ∧ (¬ p0 = 28530) ∧ (¬ p0 = 7237492) ∧ (¬ p0 = 426953896805) ∧ (¬ p0 = 26469) ∧ (¬ p0 = 26484) ∧ (p0 = 27749)) ∨ ((1 = 0) ∧ (1 = 0) ∧ (¬ p0 = 6385252) ∧ (¬ p0 = 28530) ∧ (¬ p0 = 7237492) ∧ (¬ p0 = 426953896805) ∧ (¬ p0 = 26469) ∧ (¬ p0 = 26484) ∧ (¬ p0 = 27749) ∧ (p0 = 27764)) ∨ ((1 = 0) ∧ (1 = 0) ∧ (¬ p0 = 6385252) ∧ (¬ p0 = 28530) ∧ (¬ p0 = 7237492) ∧ (¬ p0 = 426953896805) ∧ (¬ p0 = 26469) ∧ (¬ p0 = 26484) ∧ (¬ p0 = 27749) ∧ (¬ p0 = 27764) ∧ (p0 = 25969)) ∨ ((1 = 0) ∧ (1 = 0) ∧ (¬ p0 = 6385252) ∧ (¬ p0 = 28530) ∧ (¬ p0 = 7237492) ∧ (¬ p0 = 426953896805) ∧ (¬ p0 = 26469) ∧ (¬ p0 = 26484) ∧ (¬ p0 = 27749) ∧ (¬ p0 = 27764) ∧ (¬ p0 = 25969) ∧ (p0 = 1953658213)) ∨ ((1 = 0) ∧ (1 = 0) ∧ (¬ p0 = 6385252) ∧ (¬ p0 = 28530) ∧ (¬ p0 = 7237492) ∧ (¬ p0 = 426953896805) ∧ (¬ p0 = 26469) ∧ (¬ p0 = 26484) ∧ (¬ p0 = 27749) ∧ (¬ p0 = 27764) ∧ (¬ p0 = 25969) ∧ (¬ p0 = 1953658213) ∧ (p0 = 439721161573))) → K (.inl (some (vI 1))) e M))))))) : im_T g d 281 0 [some (vL p0), none, none, none] [] e M K := by
  refine im_ld (q := 1) (i := 0) D281_0 rfl rfl rfl ?_
  refine im_ldc2 (q := 4) (n := 427021005669) D281_1 rfl ?_
  obtain ⟨hg1, hP⟩ := hP
  obtain ⟨hP, hJ14⟩ := hP
  have kJ15 : (((p0 = 427021005669)) ∨ ((¬ p0 = 427021005669) ∧ (p0 = 7364985)) ∨ ((¬ p0 = 427021005669) ∧ (¬ p0 = 7364985) ∧ (p0 = 29807)) ∨ ((¬ p0 = 427021005669) ∧ (¬ p0 = 7364985) ∧ (¬ p0 = 29807) ∧ (p0 = 1768846447)) ∨ ((¬ p0 = 427021005669) ∧ (¬ p0 = 7364985) ∧ (¬ p0 = 29807) ∧ (¬ p0 = 1768846447) ∧ (p0 = 26982)) ∨ ((¬ p0 = 427021005669) ∧ (¬ p0 = 7364985) ∧ (¬ p0 = 29807) ∧ (¬ p0 = 1768846447) ∧ (¬ p0 = 26982) ∧ (p0 = 2003330414)) ∨ ((¬ p0 = 427021005669) ∧ (¬ p0 = 7364985) ∧ (¬ p0 = 29807) ∧ (¬ p0 = 1768846447) ∧ (¬ p0 = 26982) ∧ (¬ p0 = 2003330414) ∧ (p0 = 1667330917)) ∨ ((¬ p0 = 427021005669) ∧ (¬ p0 = 7364985) ∧ (¬ p0 = 29807) ∧ (¬ p0 = 1768846447) ∧ (¬ p0 = 26982) ∧ (¬ p0 = 2003330414) ∧ (¬ p0 = 1667330917) ∧ (p0 = 28259031251642740)) ∨ ((¬ p0 = 427021005669) ∧ (¬ p0 = 7364985) ∧ (¬ p0 = 29807) ∧ (¬ p0 = 1768846447) ∧ (¬ p0 = 26982) ∧ (¬ p0 = 2003330414) ∧ (¬ p0 = 1667330917) ∧ (¬ p0 = 28259031251642740) ∧ (p0 = 109300196926309)) ∨ ((¬ p0 = 427021005669) ∧ (¬ p0 = 7364985) ∧ (¬ p0 = 29807) ∧ (¬ p0 = 1768846447) ∧ (¬ p0 = 26982) ∧ (¬ p0 = 2003330414) ∧ (¬ p0 = 1667330917) ∧ (¬ p0 = 28259031251642740) ∧ (¬ p0 = 109300196926309) ∧ (p0 = 121424973489785)) ∨ ((¬ p0 = 427021005669) ∧ (¬ p0 = 7364985) ∧ (¬ p0 = 29807) ∧ (¬ p0 = 1768846447) ∧ (¬ p0 = 26982) ∧ (¬ p0 = 2003330414) ∧ (¬ p0 = 1667330917) ∧ (¬ p0 = 28259031251642740) ∧ (¬ p0 = 109300196926309) ∧ (¬ p0 = 121424973489785) ∧ (p0 = 7103860)) ∨ ((¬ p0 = 427021005669) ∧ (¬ p0 = 7364985) ∧ (¬ p0 = 29807) ∧ (¬ p0 = 1768846447) ∧ (¬ p0 = 26982) ∧ (¬ p0 = 2003330414) ∧ (¬ p0 = 1667330917) ∧ (¬ p0 = 28259031251642740) ∧ (¬ p0 = 109300196926309) ∧ (¬ p0 = 121424973489785) ∧ (¬ p0 = 7103860) ∧ (p0 = 107148485161588))) → im_T g d 281 96 [some (vL p0), none, none, none] [] e M K := by
    intro  hx16
    have hP := hJ14  hx16
    refine im_iconst (q := 97) D281_96 ?_
    refine im_goto (q := 100) (t := 101) D281_97 rfl ?_
    refine im_st1 (q := 102) (i := 2) (L' := [some (vL p0), none, some (vI 1), none]) D281_101 (Or.inl ⟨_, rfl, rfl⟩) (Nat.le_of_ble_eq_true rfl) rfl ?_
    refine im_ld (q := 103) (i := 0) D281_102 rfl rfl rfl ?_
    refine im_ldc2 (q := 106) (n := 1751477348) D281_103 rfl ?_
    obtain ⟨hP, hJ28⟩ := hP
    have kJ29 : (((p0 = 1751477348)) ∨ ((¬ p0 = 1751477348) ∧ (p0 = 7234919)) ∨ ((¬ p0 = 1751477348) ∧ (¬ p0 = 7234919) ∧ (p0 = 6382692)) ∨ ((¬ p0 = 1751477348) ∧ (¬ p0 = 7234919) ∧ (¬ p0 = 6382692) ∧ (p0 = 7566690)) ∨ ((¬ p0 = 1751477348) ∧ (¬ p0 = 7234919) ∧ (¬ p0 = 6382692) ∧ (¬ p0 = 7566690) ∧ (p0 = 7173484)) ∨ ((¬ p0 = 1751477348) ∧ (¬ p0 = 7234919) ∧ (¬ p0 = 6382692) ∧ (¬ p0 = 7566690) ∧ (¬ p0 = 7173484) ∧ (p0 = 6580598)) ∨ ((¬ p0 = 1751477348) ∧ (¬ p0 = 7234919) ∧ (¬ p0 = 6382692) ∧ (¬ p0 = 7566690) ∧ (¬ p0 = 7173484) ∧ (¬ p0 = 6580598) ∧ (p0 = 109300197582190)) ∨ ((¬ p0 = 1751477348) ∧ (¬ p0 = 7234919) ∧ (¬ p0 = 6382692) ∧ (¬ p0 = 7566690) ∧ (¬ p0 = 7173484) ∧ (¬ p0 = 6580598) ∧ (¬ p0 = 109300197582190) ∧ (p0 = 495873782388)) ∨ ((¬ p0 = 1751477348) ∧ (¬ p0 = 7234919) ∧ (¬ p0 = 6382692) ∧ (¬ p0 = 7566690) ∧ (¬ p0 = 7173484) ∧ (¬ p0 = 6580598) ∧ (¬ p0 = 109300197582190) ∧ (¬ p0 = 495873782388) ∧ (p0 = 6647396)) ∨ ((¬ p0 = 1751477348) ∧ (¬ p0 = 7234919) ∧ (¬ p0 = 6382692) ∧ (¬ p0 = 7566690) ∧ (¬ p0 = 7173484) ∧ (¬ p0 = 6580598) ∧ (¬ p0 = 109300197582190) ∧ (¬ p0 = 495873782388) ∧ (¬ p0 = 6647396) ∧ (p0 = 7697253)) ∨ ((¬ p0 = 1751477348) ∧ (¬ p0 = 7234919) ∧ (¬ p0 = 6382692) ∧ (¬ p0 = 7566690) ∧ (¬ p0 = 7173484) ∧ (¬ p0 = 6580598) ∧ (¬ p0 = 109300197582190) ∧ (¬ p0 = 495873782388) ∧ (¬ p0 = 6647396) ∧ (¬ p0 = 7697253) ∧ (p0 = 1668247140))) → im_T g d 281 190 [some (vL p0), none, some (vI 1), none] [] e M K := by
      intro  hx30
      have hP := hJ28  hx30
      refine im_iconst (q := 191) D281_190 ?_
      refine im_goto (q := 194) (t := 195) D281_191 rfl ?_
      refine im_st1 (q := 196) (i := 3) (L' := [some (vL p0), none, some (vI 1), some (vI 1)]) D281_195 (Or.inl ⟨_, rfl, rfl⟩) (Nat.le_of_ble_eq_true rfl) rfl ?_
      refine im_ld (q := 197) (i := 2) D281_196 rfl rfl rfl ?_
      obtain ⟨hP, hJ44⟩ := hP
      have kJ45 : (((¬ 1 = 0)) ∨ ((1 = 0) ∧ (¬ 1 = 0)) ∨ ((1 = 0) ∧ (1 = 0) ∧ (p0 = 6385252)) ∨ ((1 = 0) ∧ (1 = 0) ∧ (¬ p0 = 6385252) ∧ (p0 = 28530)) ∨ ((1 = 0) ∧ (1 = 0) ∧ (¬ p0 = 6385252) ∧ (¬ p0 = 28530) ∧ (p0 = 7237492)) ∨ ((1 = 0) ∧ (1 = 0) ∧ (¬ p0 = 6385252) ∧ (¬ p0 = 28530) ∧ (¬ p0 = 7237492) ∧ (p0 = 426953896805)) ∨ ((1 = 0) ∧ (1 = 0) ∧ (¬ p0 = 6385252) ∧ (¬ p0 = 28530) ∧ (¬ p0 = 7237492) ∧ (¬ p0 = 426953896805) ∧ (p0 = 26469)) ∨ ((1 = 0) ∧ (1 = 0) ∧ (¬ p0 = 6385252) ∧ (¬ p0 = 28530) ∧ (¬ p0 = 7237492) ∧ (¬ p0 = 426953896805) ∧ (¬ p0 = 26469) ∧ (p0 = 26484)) ∨ ((1 = 0) ∧ (1 = 0) ∧ (¬ p0 = 6385252) ∧ (¬ p0 = 28530) ∧ (¬ p0 = 7237492) ∧ (¬ p0 = 426953896805) ∧ (¬ p0 = 26469) ∧ (¬ p0 = 26484) ∧ (p0 = 27749)) ∨ ((1 = 0) ∧ (1 = 0) ∧ (¬ p0 = 6385252) ∧ (¬ p0 = 28530) ∧ (¬ p0 = 7237492) ∧ (¬ p0 = 426953896805) ∧ (¬ p0 = 26469) ∧ (¬ p0 = 26484) ∧ (¬ p0 = 27749) ∧ (p0 = 27764)) ∨ ((1 = 0) ∧ (1 = 0) ∧ (¬ p0 = 6385252) ∧ (¬ p0 = 28530) ∧ (¬ p0 = 7237492) ∧ (¬ p0 = 426953896805) ∧ (¬ p0 = 26469) ∧ (¬ p0 = 26484) ∧ (¬ p0 = 27749) ∧ (¬ p0 = 27764) ∧ (p0 = 25969)) ∨ ((1 = 0) ∧ (1 = 0) ∧ (¬ p0 = 6385252) ∧ (¬ p0 = 28530) ∧ (¬ p0 = 7237492) ∧ (¬ p0 = 426953896805) ∧ (¬ p0 = 26469) ∧ (¬ p0 = 26484) ∧ (¬ p0 = 27749) ∧ (¬ p0 = 27764) ∧ (¬ p0 = 25969) ∧ (p0 = 1953658213)) ∨ ((1 = 0) ∧ (1 = 0) ∧ (¬ p0 = 6385252) ∧ (¬ p0 = 28530) ∧ (¬ p0 = 7237492) ∧ (¬ p0 = 426953896805) ∧ (¬ p0 = 26469) ∧ (¬ p0 = 26484) ∧ (¬ p0 = 27749) ∧ (¬ p0 = 27764) ∧ (¬ p0 = 25969) ∧ (¬ p0 = 1953658213) ∧ (p0 = 439721161573))) → im_T g d 281 292 [none, none, none, none] [] e M K := by
        intro  hx46
        have hP := hJ44  hx46
        refine im_iconst (q := 293) D281_292 ?_
        refine im_goto (q := 296) (t := 297) D281_293 rfl ?_
        exact im_zret (q := 298) D281_297 rfl (by decide) hP
      refine im_ifc (q := 200) (t := 292) D281_197 rfl (by decide) (fun hc31 => ?_) (fun hc31 => ?_)
      · exact (kJ45  (Or.inl hc31)).wk trivial
      · replace hP := hP (Decidable.not_not.mp hc31)
        refine im_ld (q := 201) (i := 3) D281_200 rfl rfl rfl ?_
        refine im_ifc (q := 204) (t := 292) D281_201 rfl (by decide) (fun hc32 => ?_) (fun hc32 => ?_)
        · exact (kJ45  (Or.inr (Or.inl ⟨(Decidable.not_not.mp hc31), hc32⟩))).wk trivial
        · replace hP := hP (Decidable.not_not.mp hc32)
          refine im_ld (q := 205) (i := 0) D281_204 rfl rfl rfl ?_
          refine im_ldc2 (q := 208) (n := 6385252) D281_205 rfl ?_
          refine im_lif (q := 209) (q2 := 212) (t := 292) D281_208 D281_209 rfl hg1 (by decide) (fun hc33 => ?_) (fun hc33 => ?_)
          · exact (kJ45  (Or.inr (Or.inr (Or.inl ⟨(Decidable.not_not.mp hc31), (Decidable.not_not.mp hc32), hc33⟩)))).wk trivial
          · replace hP := hP hc33
            refine im_ld (q := 213) (i := 0) D281_212 rfl rfl rfl ?_
            refine im_ldc2 (q := 216) (n := 28530) D281_213 rfl ?_
            refine im_lif (q := 217) (q2 := 220) (t := 292) D281_216 D281_217 rfl hg1 (by decide) (fun hc34 => ?_) (fun hc34 => ?_)
            · exact (kJ45  (Or.inr (Or.inr (Or.inr (Or.inl ⟨(Decidable.not_not.mp hc31), (Decidable.not_not.mp hc32), hc33, hc34⟩))))).wk trivial
            · replace hP := hP hc34
              refine im_ld (q := 221) (i := 0) D281_220 rfl rfl rfl ?_
              refine im_ldc2 (q := 224) (n := 7237492) D281_221 rfl ?_
              refine im_lif (q := 225) (q2 := 228) (t := 292) D281_224 D281_225 rfl hg1 (by decide) (fun hc35 => ?_) (fun hc35 => ?_)
              · exact (kJ45  (Or.inr (Or.inr (Or.inr (Or.inr (Or.inl ⟨(Decidable.not_not.mp hc31), (Decidable.not_not.mp hc32), hc33, hc34, hc35⟩)))))).wk trivial
              · replace hP := hP hc35
                refine im_ld (q := 229) (i := 0) D281_228 rfl rfl rfl ?_
                refine im_ldc2 (q := 232) (n := 426953896805) D281_229 rfl ?_
                refine im_lif (q := 233) (q2 := 236) (t := 292) D281_232 D281_233 rfl hg1 (by decide) (fun hc36 => ?_) (fun hc36 => ?_)
                · exact (kJ45  (Or.inr (Or.inr (Or.inr (Or.inr (Or.inr (Or.inl ⟨(Decidable.not_not.mp hc31), (Decidable.not_not.mp hc32), hc33, hc34, hc35, hc36⟩))))))).wk trivial
                · replace hP := hP hc36
                  refine im_ld (q := 237) (i := 0) D281_236 rfl rfl rfl ?_
                  refine im_ldc2 (q := 240) (n := 26469) D281_237 rfl ?_
                  refine im_lif (q := 241) (q2 := 244) (t := 292) D281_240 D281_241 rfl hg1 (by decide) (fun hc37 => ?_) (fun hc37 => ?_)
                  · exact (kJ45  (Or.inr (Or.inr (Or.inr (Or.inr (Or.inr (Or.inr (Or.inl ⟨(Decidable.not_not.mp hc31), (Decidable.not_not.mp hc32), hc33, hc34, hc35, hc36, hc37⟩)))))))).wk trivial
                  · replace hP := hP hc37
                    refine im_ld (q := 245) (i := 0) D281_244 rfl rfl rfl ?_
                    refine im_ldc2 (q := 248) (n := 26484) D281_245 rfl ?_
                    refine im_lif (q := 249) (q2 := 252) (t := 292) D281_248 D281_249 rfl hg1 (by decide) (fun hc38 => ?_) (fun hc38 => ?_)
                    · exact (kJ45  (Or.inr (Or.inr (Or.inr (Or.inr (Or.inr (Or.inr (Or.inr (Or.inl ⟨(Decidable.not_not.mp hc31), (Decidable.not_not.mp hc32), hc33, hc34, hc35, hc36, hc37, hc38⟩))))))))).wk trivial
                    · replace hP := hP hc38
                      refine im_ld (q := 253) (i := 0) D281_252 rfl rfl rfl ?_
                      refine im_ldc2 (q := 256) (n := 27749) D281_253 rfl ?_
                      refine im_lif (q := 257) (q2 := 260) (t := 292) D281_256 D281_257 rfl hg1 (by decide) (fun hc39 => ?_) (fun hc39 => ?_)
                      · exact (kJ45  (Or.inr (Or.inr (Or.inr (Or.inr (Or.inr (Or.inr (Or.inr (Or.inr (Or.inl ⟨(Decidable.not_not.mp hc31), (Decidable.not_not.mp hc32), hc33, hc34, hc35, hc36, hc37, hc38, hc39⟩)))))))))).wk trivial
                      · replace hP := hP hc39
                        refine im_ld (q := 261) (i := 0) D281_260 rfl rfl rfl ?_
                        refine im_ldc2 (q := 264) (n := 27764) D281_261 rfl ?_
                        refine im_lif (q := 265) (q2 := 268) (t := 292) D281_264 D281_265 rfl hg1 (by decide) (fun hc40 => ?_) (fun hc40 => ?_)
                        · exact (kJ45  (Or.inr (Or.inr (Or.inr (Or.inr (Or.inr (Or.inr (Or.inr (Or.inr (Or.inr (Or.inl ⟨(Decidable.not_not.mp hc31), (Decidable.not_not.mp hc32), hc33, hc34, hc35, hc36, hc37, hc38, hc39, hc40⟩))))))))))).wk trivial
                        · replace hP := hP hc40
                          refine im_ld (q := 269) (i := 0) D281_268 rfl rfl rfl ?_
                          refine im_ldc2 (q := 272) (n := 25969) D281_269 rfl ?_
                          refine im_lif (q := 273) (q2 := 276) (t := 292) D281_272 D281_273 rfl hg1 (by decide) (fun hc41 => ?_) (fun hc41 => ?_)
                          · exact (kJ45  (Or.inr (Or.inr (Or.inr (Or.inr (Or.inr (Or.inr (Or.inr (Or.inr (Or.inr (Or.inr (Or.inl ⟨(Decidable.not_not.mp hc31), (Decidable.not_not.mp hc32), hc33, hc34, hc35, hc36, hc37, hc38, hc39, hc40, hc41⟩)))))))))))).wk trivial
                          · replace hP := hP hc41
                            refine im_ld (q := 277) (i := 0) D281_276 rfl rfl rfl ?_
                            refine im_ldc2 (q := 280) (n := 1953658213) D281_277 rfl ?_
                            refine im_lif (q := 281) (q2 := 284) (t := 292) D281_280 D281_281 rfl hg1 (by decide) (fun hc42 => ?_) (fun hc42 => ?_)
                            · exact (kJ45  (Or.inr (Or.inr (Or.inr (Or.inr (Or.inr (Or.inr (Or.inr (Or.inr (Or.inr (Or.inr (Or.inr (Or.inl ⟨(Decidable.not_not.mp hc31), (Decidable.not_not.mp hc32), hc33, hc34, hc35, hc36, hc37, hc38, hc39, hc40, hc41, hc42⟩))))))))))))).wk trivial
                            · replace hP := hP hc42
                              refine im_ld (q := 285) (i := 0) D281_284 rfl rfl rfl ?_
                              refine im_ldc2 (q := 288) (n := 439721161573) D281_285 rfl ?_
                              refine im_lif (q := 289) (q2 := 292) (t := 296) D281_288 D281_289 rfl hg1 (by decide) (fun hc43 => ?_) (fun hc43 => ?_)
                              · replace hP := hP hc43
                                refine im_iconst (q := 297) D281_296 ?_
                                exact im_zret (q := 298) D281_297 rfl (by decide) hP
                              · exact (kJ45  (Or.inr (Or.inr (Or.inr (Or.inr (Or.inr (Or.inr (Or.inr (Or.inr (Or.inr (Or.inr (Or.inr (Or.inr ⟨(Decidable.not_not.mp hc31), (Decidable.not_not.mp hc32), hc33, hc34, hc35, hc36, hc37, hc38, hc39, hc40, hc41, hc42, (Decidable.not_not.mp hc43)⟩))))))))))))).wk trivial
    refine im_lif (q := 107) (q2 := 110) (t := 190) D281_106 D281_107 rfl hg1 (by decide) (fun hc17 => ?_) (fun hc17 => ?_)
    · exact (kJ29  (Or.inl hc17)).wk ⟨rfl, rfl, trivial⟩
    · replace hP := hP hc17
      refine im_ld (q := 111) (i := 0) D281_110 rfl rfl rfl ?_
      refine im_ldc2 (q := 114) (n := 7234919) D281_111 rfl ?_
      refine im_lif (q := 115) (q2 := 118) (t := 190) D281_114 D281_115 rfl hg1 (by decide) (fun hc18 => ?_) (fun hc18 => ?_)
      · exact (kJ29  (Or.inr (Or.inl ⟨hc17, hc18⟩))).wk ⟨rfl, rfl, trivial⟩
      · replace hP := hP hc18
        refine im_ld (q := 119) (i := 0) D281_118 rfl rfl rfl ?_
        refine im_ldc2 (q := 122) (n := 6382692) D281_119 rfl ?_
        refine im_lif (q := 123) (q2 := 126) (t := 190) D281_122 D281_123 rfl hg1 (by decide) (fun hc19 => ?_) (fun hc19 => ?_)
        · exact (kJ29  (Or.inr (Or.inr (Or.inl ⟨hc17, hc18, hc19⟩)))).wk ⟨rfl, rfl, trivial⟩
        · replace hP := hP hc19
          refine im_ld (q := 127) (i := 0) D281_126 rfl rfl rfl ?_
          refine im_ldc2 (q := 130) (n := 7566690) D281_127 rfl ?_
          refine im_lif (q := 131) (q2 := 134) (t := 190) D281_130 D281_131 rfl hg1 (by decide) (fun hc20 => ?_) (fun hc20 => ?_)
          · exact (kJ29  (Or.inr (Or.inr (Or.inr (Or.inl ⟨hc17, hc18, hc19, hc20⟩))))).wk ⟨rfl, rfl, trivial⟩
          · replace hP := hP hc20
            refine im_ld (q := 135) (i := 0) D281_134 rfl rfl rfl ?_
            refine im_ldc2 (q := 138) (n := 7173484) D281_135 rfl ?_
            refine im_lif (q := 139) (q2 := 142) (t := 190) D281_138 D281_139 rfl hg1 (by decide) (fun hc21 => ?_) (fun hc21 => ?_)
            · exact (kJ29  (Or.inr (Or.inr (Or.inr (Or.inr (Or.inl ⟨hc17, hc18, hc19, hc20, hc21⟩)))))).wk ⟨rfl, rfl, trivial⟩
            · replace hP := hP hc21
              refine im_ld (q := 143) (i := 0) D281_142 rfl rfl rfl ?_
              refine im_ldc2 (q := 146) (n := 6580598) D281_143 rfl ?_
              refine im_lif (q := 147) (q2 := 150) (t := 190) D281_146 D281_147 rfl hg1 (by decide) (fun hc22 => ?_) (fun hc22 => ?_)
              · exact (kJ29  (Or.inr (Or.inr (Or.inr (Or.inr (Or.inr (Or.inl ⟨hc17, hc18, hc19, hc20, hc21, hc22⟩))))))).wk ⟨rfl, rfl, trivial⟩
              · replace hP := hP hc22
                refine im_ld (q := 151) (i := 0) D281_150 rfl rfl rfl ?_
                refine im_ldc2 (q := 154) (n := 109300197582190) D281_151 rfl ?_
                refine im_lif (q := 155) (q2 := 158) (t := 190) D281_154 D281_155 rfl hg1 (by decide) (fun hc23 => ?_) (fun hc23 => ?_)
                · exact (kJ29  (Or.inr (Or.inr (Or.inr (Or.inr (Or.inr (Or.inr (Or.inl ⟨hc17, hc18, hc19, hc20, hc21, hc22, hc23⟩)))))))).wk ⟨rfl, rfl, trivial⟩
                · replace hP := hP hc23
                  refine im_ld (q := 159) (i := 0) D281_158 rfl rfl rfl ?_
                  refine im_ldc2 (q := 162) (n := 495873782388) D281_159 rfl ?_
                  refine im_lif (q := 163) (q2 := 166) (t := 190) D281_162 D281_163 rfl hg1 (by decide) (fun hc24 => ?_) (fun hc24 => ?_)
                  · exact (kJ29  (Or.inr (Or.inr (Or.inr (Or.inr (Or.inr (Or.inr (Or.inr (Or.inl ⟨hc17, hc18, hc19, hc20, hc21, hc22, hc23, hc24⟩))))))))).wk ⟨rfl, rfl, trivial⟩
                  · replace hP := hP hc24
                    refine im_ld (q := 167) (i := 0) D281_166 rfl rfl rfl ?_
                    refine im_ldc2 (q := 170) (n := 6647396) D281_167 rfl ?_
                    refine im_lif (q := 171) (q2 := 174) (t := 190) D281_170 D281_171 rfl hg1 (by decide) (fun hc25 => ?_) (fun hc25 => ?_)
                    · exact (kJ29  (Or.inr (Or.inr (Or.inr (Or.inr (Or.inr (Or.inr (Or.inr (Or.inr (Or.inl ⟨hc17, hc18, hc19, hc20, hc21, hc22, hc23, hc24, hc25⟩)))))))))).wk ⟨rfl, rfl, trivial⟩
                    · replace hP := hP hc25
                      refine im_ld (q := 175) (i := 0) D281_174 rfl rfl rfl ?_
                      refine im_ldc2 (q := 178) (n := 7697253) D281_175 rfl ?_
                      refine im_lif (q := 179) (q2 := 182) (t := 190) D281_178 D281_179 rfl hg1 (by decide) (fun hc26 => ?_) (fun hc26 => ?_)
                      · exact (kJ29  (Or.inr (Or.inr (Or.inr (Or.inr (Or.inr (Or.inr (Or.inr (Or.inr (Or.inr (Or.inl ⟨hc17, hc18, hc19, hc20, hc21, hc22, hc23, hc24, hc25, hc26⟩))))))))))).wk ⟨rfl, rfl, trivial⟩
                      · replace hP := hP hc26
                        refine im_ld (q := 183) (i := 0) D281_182 rfl rfl rfl ?_
                        refine im_ldc2 (q := 186) (n := 1668247140) D281_183 rfl ?_
                        refine im_lif (q := 187) (q2 := 190) (t := 194) D281_186 D281_187 rfl hg1 (by decide) (fun hc27 => ?_) (fun hc27 => ?_)
                        · replace hP := hP hc27
                          refine im_iconst (q := 195) D281_194 ?_
                          refine im_st1 (q := 196) (i := 3) (L' := [some (vL p0), none, some (vI 1), some (vI 0)]) D281_195 (Or.inl ⟨_, rfl, rfl⟩) (Nat.le_of_ble_eq_true rfl) rfl ?_
                          refine im_ld (q := 197) (i := 2) D281_196 rfl rfl rfl ?_
                          obtain ⟨hP, hJ60⟩ := hP
                          have kJ61 : (((¬ 1 = 0)) ∨ ((1 = 0) ∧ (¬ 0 = 0)) ∨ ((1 = 0) ∧ (0 = 0) ∧ (p0 = 6385252)) ∨ ((1 = 0) ∧ (0 = 0) ∧ (¬ p0 = 6385252) ∧ (p0 = 28530)) ∨ ((1 = 0) ∧ (0 = 0) ∧ (¬ p0 = 6385252) ∧ (¬ p0 = 28530) ∧ (p0 = 7237492)) ∨ ((1 = 0) ∧ (0 = 0) ∧ (¬ p0 = 6385252) ∧ (¬ p0 = 28530) ∧ (¬ p0 = 7237492) ∧ (p0 = 426953896805)) ∨ ((1 = 0) ∧ (0 = 0) ∧ (¬ p0 = 6385252) ∧ (¬ p0 = 28530) ∧ (¬ p0 = 7237492) ∧ (¬ p0 = 426953896805) ∧ (p0 = 26469)) ∨ ((1 = 0) ∧ (0 = 0) ∧ (¬ p0 = 6385252) ∧ (¬ p0 = 28530) ∧ (¬ p0 = 7237492) ∧ (¬ p0 = 426953896805) ∧ (¬ p0 = 26469) ∧ (p0 = 26484)) ∨ ((1 = 0) ∧ (0 = 0) ∧ (¬ p0 = 6385252) ∧ (¬ p0 = 28530) ∧ (¬ p0 = 7237492) ∧ (¬ p0 = 426953896805) ∧ (¬ p0 = 26469) ∧ (¬ p0 = 26484) ∧ (p0 = 27749)) ∨ ((1 = 0) ∧ (0 = 0) ∧ (¬ p0 = 6385252) ∧ (¬ p0 = 28530) ∧ (¬ p0 = 7237492) ∧ (¬ p0 = 426953896805) ∧ (¬ p0 = 26469) ∧ (¬ p0 = 26484) ∧ (¬ p0 = 27749) ∧ (p0 = 27764)) ∨ ((1 = 0) ∧ (0 = 0) ∧ (¬ p0 = 6385252) ∧ (¬ p0 = 28530) ∧ (¬ p0 = 7237492) ∧ (¬ p0 = 426953896805) ∧ (¬ p0 = 26469) ∧ (¬ p0 = 26484) ∧ (¬ p0 = 27749) ∧ (¬ p0 = 27764) ∧ (p0 = 25969)) ∨ ((1 = 0) ∧ (0 = 0) ∧ (¬ p0 = 6385252) ∧ (¬ p0 = 28530) ∧ (¬ p0 = 7237492) ∧ (¬ p0 = 426953896805) ∧ (¬ p0 = 26469) ∧ (¬ p0 = 26484) ∧ (¬ p0 = 27749) ∧ (¬ p0 = 27764) ∧ (¬ p0 = 25969) ∧ (p0 = 1953658213)) ∨ ((1 = 0) ∧ (0 = 0) ∧ (¬ p0 = 6385252) ∧ (¬ p0 = 28530) ∧ (¬ p0 = 7237492) ∧ (¬ p0 = 426953896805) ∧ (¬ p0 = 26469) ∧ (¬ p0 = 26484) ∧ (¬ p0 = 27749) ∧ (¬ p0 = 27764) ∧ (¬ p0 = 25969) ∧ (¬ p0 = 1953658213) ∧ (p0 = 439721161573))) → im_T g d 281 292 [none, none, none, none] [] e M K := by
                            intro  hx62
                            have hP := hJ60  hx62
                            refine im_iconst (q := 293) D281_292 ?_
                            refine im_goto (q := 296) (t := 297) D281_293 rfl ?_
                            exact im_zret (q := 298) D281_297 rfl (by decide) hP
                          refine im_ifc (q := 200) (t := 292) D281_197 rfl (by decide) (fun hc47 => ?_) (fun hc47 => ?_)
                          · exact (kJ61  (Or.inl hc47)).wk trivial
                          · replace hP := hP (Decidable.not_not.mp hc47)
                            refine im_ld (q := 201) (i := 3) D281_200 rfl rfl rfl ?_
                            refine im_ifc (q := 204) (t := 292) D281_201 rfl (by decide) (fun hc48 => ?_) (fun hc48 => ?_)
                            · exact (kJ61  (Or.inr (Or.inl ⟨(Decidable.not_not.mp hc47), hc48⟩))).wk trivial
                            · replace hP := hP (Decidable.not_not.mp hc48)
                              refine im_ld (q := 205) (i := 0) D281_204 rfl rfl rfl ?_
                              refine im_ldc2 (q := 208) (n := 6385252) D281_205 rfl ?_
                              refine im_lif (q := 209) (q2 := 212) (t := 292) D281_208 D281_209 rfl hg1 (by decide) (fun hc49 => ?_) (fun hc49 => ?_)
                              · exact (kJ61  (Or.inr (Or.inr (Or.inl ⟨(Decidable.not_not.mp hc47), (Decidable.not_not.mp hc48), hc49⟩)))).wk trivial
                              · replace hP := hP hc49
                                refine im_ld (q := 213) (i := 0) D281_212 rfl rfl rfl ?_
                                refine im_ldc2 (q := 216) (n := 28530) D281_213 rfl ?_
                                refine im_lif (q := 217) (q2 := 220) (t := 292) D281_216 D281_217 rfl hg1 (by decide) (fun hc50 => ?_) (fun hc50 => ?_)
                                · exact (kJ61  (Or.inr (Or.inr (Or.inr (Or.inl ⟨(Decidable.not_not.mp hc47), (Decidable.not_not.mp hc48), hc49, hc50⟩))))).wk trivial
                                · replace hP := hP hc50
                                  refine im_ld (q := 221) (i := 0) D281_220 rfl rfl rfl ?_
                                  refine im_ldc2 (q := 224) (n := 7237492) D281_221 rfl ?_
                                  refine im_lif (q := 225) (q2 := 228) (t := 292) D281_224 D281_225 rfl hg1 (by decide) (fun hc51 => ?_) (fun hc51 => ?_)
                                  · exact (kJ61  (Or.inr (Or.inr (Or.inr (Or.inr (Or.inl ⟨(Decidable.not_not.mp hc47), (Decidable.not_not.mp hc48), hc49, hc50, hc51⟩)))))).wk trivial
                                  · replace hP := hP hc51
                                    refine im_ld (q := 229) (i := 0) D281_228 rfl rfl rfl ?_
                                    refine im_ldc2 (q := 232) (n := 426953896805) D281_229 rfl ?_
                                    refine im_lif (q := 233) (q2 := 236) (t := 292) D281_232 D281_233 rfl hg1 (by decide) (fun hc52 => ?_) (fun hc52 => ?_)
                                    · exact (kJ61  (Or.inr (Or.inr (Or.inr (Or.inr (Or.inr (Or.inl ⟨(Decidable.not_not.mp hc47), (Decidable.not_not.mp hc48), hc49, hc50, hc51, hc52⟩))))))).wk trivial
                                    · replace hP := hP hc52
                                      refine im_ld (q := 237) (i := 0) D281_236 rfl rfl rfl ?_
                                      refine im_ldc2 (q := 240) (n := 26469) D281_237 rfl ?_
                                      refine im_lif (q := 241) (q2 := 244) (t := 292) D281_240 D281_241 rfl hg1 (by decide) (fun hc53 => ?_) (fun hc53 => ?_)
                                      · exact (kJ61  (Or.inr (Or.inr (Or.inr (Or.inr (Or.inr (Or.inr (Or.inl ⟨(Decidable.not_not.mp hc47), (Decidable.not_not.mp hc48), hc49, hc50, hc51, hc52, hc53⟩)))))))).wk trivial
                                      · replace hP := hP hc53
                                        refine im_ld (q := 245) (i := 0) D281_244 rfl rfl rfl ?_
                                        refine im_ldc2 (q := 248) (n := 26484) D281_245 rfl ?_
                                        refine im_lif (q := 249) (q2 := 252) (t := 292) D281_248 D281_249 rfl hg1 (by decide) (fun hc54 => ?_) (fun hc54 => ?_)
                                        · exact (kJ61  (Or.inr (Or.inr (Or.inr (Or.inr (Or.inr (Or.inr (Or.inr (Or.inl ⟨(Decidable.not_not.mp hc47), (Decidable.not_not.mp hc48), hc49, hc50, hc51, hc52, hc53, hc54⟩))))))))).wk trivial
                                        · replace hP := hP hc54
                                          refine im_ld (q := 253) (i := 0) D281_252 rfl rfl rfl ?_
                                          refine im_ldc2 (q := 256) (n := 27749) D281_253 rfl ?_
                                          refine im_lif (q := 257) (q2 := 260) (t := 292) D281_256 D281_257 rfl hg1 (by decide) (fun hc55 => ?_) (fun hc55 => ?_)
                                          · exact (kJ61  (Or.inr (Or.inr (Or.inr (Or.inr (Or.inr (Or.inr (Or.inr (Or.inr (Or.inl ⟨(Decidable.not_not.mp hc47), (Decidable.not_not.mp hc48), hc49, hc50, hc51, hc52, hc53, hc54, hc55⟩)))))))))).wk trivial
                                          · replace hP := hP hc55
                                            refine im_ld (q := 261) (i := 0) D281_260 rfl rfl rfl ?_
                                            refine im_ldc2 (q := 264) (n := 27764) D281_261 rfl ?_
                                            refine im_lif (q := 265) (q2 := 268) (t := 292) D281_264 D281_265 rfl hg1 (by decide) (fun hc56 => ?_) (fun hc56 => ?_)
                                            · exact (kJ61  (Or.inr (Or.inr (Or.inr (Or.inr (Or.inr (Or.inr (Or.inr (Or.inr (Or.inr (Or.inl ⟨(Decidable.not_not.mp hc47), (Decidable.not_not.mp hc48), hc49, hc50, hc51, hc52, hc53, hc54, hc55, hc56⟩))))))))))).wk trivial
                                            · replace hP := hP hc56
                                              refine im_ld (q := 269) (i := 0) D281_268 rfl rfl rfl ?_
                                              refine im_ldc2 (q := 272) (n := 25969) D281_269 rfl ?_
                                              refine im_lif (q := 273) (q2 := 276) (t := 292) D281_272 D281_273 rfl hg1 (by decide) (fun hc57 => ?_) (fun hc57 => ?_)
                                              · exact (kJ61  (Or.inr (Or.inr (Or.inr (Or.inr (Or.inr (Or.inr (Or.inr (Or.inr (Or.inr (Or.inr (Or.inl ⟨(Decidable.not_not.mp hc47), (Decidable.not_not.mp hc48), hc49, hc50, hc51, hc52, hc53, hc54, hc55, hc56, hc57⟩)))))))))))).wk trivial
                                              · replace hP := hP hc57
                                                refine im_ld (q := 277) (i := 0) D281_276 rfl rfl rfl ?_
                                                refine im_ldc2 (q := 280) (n := 1953658213) D281_277 rfl ?_
                                                refine im_lif (q := 281) (q2 := 284) (t := 292) D281_280 D281_281 rfl hg1 (by decide) (fun hc58 => ?_) (fun hc58 => ?_)
                                                · exact (kJ61  (Or.inr (Or.inr (Or.inr (Or.inr (Or.inr (Or.inr (Or.inr (Or.inr (Or.inr (Or.inr (Or.inr (Or.inl ⟨(Decidable.not_not.mp hc47), (Decidable.not_not.mp hc48), hc49, hc50, hc51, hc52, hc53, hc54, hc55, hc56, hc57, hc58⟩))))))))))))).wk trivial
                                                · replace hP := hP hc58
                                                  refine im_ld (q := 285) (i := 0) D281_284 rfl rfl rfl ?_
                                                  refine im_ldc2 (q := 288) (n := 439721161573) D281_285 rfl ?_
                                                  refine im_lif (q := 289) (q2 := 292) (t := 296) D281_288 D281_289 rfl hg1 (by decide) (fun hc59 => ?_) (fun hc59 => ?_)
                                                  · replace hP := hP hc59
                                                    refine im_iconst (q := 297) D281_296 ?_
                                                    exact im_zret (q := 298) D281_297 rfl (by decide) hP
                                                  · exact (kJ61  (Or.inr (Or.inr (Or.inr (Or.inr (Or.inr (Or.inr (Or.inr (Or.inr (Or.inr (Or.inr (Or.inr (Or.inr ⟨(Decidable.not_not.mp hc47), (Decidable.not_not.mp hc48), hc49, hc50, hc51, hc52, hc53, hc54, hc55, hc56, hc57, hc58, (Decidable.not_not.mp hc59)⟩))))))))))))).wk trivial
                        · exact (kJ29  (Or.inr (Or.inr (Or.inr (Or.inr (Or.inr (Or.inr (Or.inr (Or.inr (Or.inr (Or.inr ⟨hc17, hc18, hc19, hc20, hc21, hc22, hc23, hc24, hc25, hc26, (Decidable.not_not.mp hc27)⟩))))))))))).wk ⟨rfl, rfl, trivial⟩
  refine im_lif (q := 5) (q2 := 8) (t := 96) D281_4 D281_5 rfl hg1 (by decide) (fun hc2 => ?_) (fun hc2 => ?_)
  · exact (kJ15  (Or.inl hc2)).wk ⟨rfl, trivial⟩
  · replace hP := hP hc2
    refine im_ld (q := 9) (i := 0) D281_8 rfl rfl rfl ?_
    refine im_ldc2 (q := 12) (n := 7364985) D281_9 rfl ?_
    refine im_lif (q := 13) (q2 := 16) (t := 96) D281_12 D281_13 rfl hg1 (by decide) (fun hc3 => ?_) (fun hc3 => ?_)
    · exact (kJ15  (Or.inr (Or.inl ⟨hc2, hc3⟩))).wk ⟨rfl, trivial⟩
    · replace hP := hP hc3
      refine im_ld (q := 17) (i := 0) D281_16 rfl rfl rfl ?_
      refine im_ldc2 (q := 20) (n := 29807) D281_17 rfl ?_
      refine im_lif (q := 21) (q2 := 24) (t := 96) D281_20 D281_21 rfl hg1 (by decide) (fun hc4 => ?_) (fun hc4 => ?_)
      · exact (kJ15  (Or.inr (Or.inr (Or.inl ⟨hc2, hc3, hc4⟩)))).wk ⟨rfl, trivial⟩
      · replace hP := hP hc4
        refine im_ld (q := 25) (i := 0) D281_24 rfl rfl rfl ?_
        refine im_ldc2 (q := 28) (n := 1768846447) D281_25 rfl ?_
        refine im_lif (q := 29) (q2 := 32) (t := 96) D281_28 D281_29 rfl hg1 (by decide) (fun hc5 => ?_) (fun hc5 => ?_)
        · exact (kJ15  (Or.inr (Or.inr (Or.inr (Or.inl ⟨hc2, hc3, hc4, hc5⟩))))).wk ⟨rfl, trivial⟩
        · replace hP := hP hc5
          refine im_ld (q := 33) (i := 0) D281_32 rfl rfl rfl ?_
          refine im_ldc2 (q := 36) (n := 26982) D281_33 rfl ?_
          refine im_lif (q := 37) (q2 := 40) (t := 96) D281_36 D281_37 rfl hg1 (by decide) (fun hc6 => ?_) (fun hc6 => ?_)
          · exact (kJ15  (Or.inr (Or.inr (Or.inr (Or.inr (Or.inl ⟨hc2, hc3, hc4, hc5, hc6⟩)))))).wk ⟨rfl, trivial⟩
          · replace hP := hP hc6
            refine im_ld (q := 41) (i := 0) D281_40 rfl rfl rfl ?_
            refine im_ldc2 (q := 44) (n := 2003330414) D281_41 rfl ?_
            refine im_lif (q := 45) (q2 := 48) (t := 96) D281_44 D281_45 rfl hg1 (by decide) (fun hc7 => ?_) (fun hc7 => ?_)
            · exact (kJ15  (Or.inr (Or.inr (Or.inr (Or.inr (Or.inr (Or.inl ⟨hc2, hc3, hc4, hc5, hc6, hc7⟩))))))).wk ⟨rfl, trivial⟩
            · replace hP := hP hc7
              refine im_ld (q := 49) (i := 0) D281_48 rfl rfl rfl ?_
              refine im_ldc2 (q := 52) (n := 1667330917) D281_49 rfl ?_
              refine im_lif (q := 53) (q2 := 56) (t := 96) D281_52 D281_53 rfl hg1 (by decide) (fun hc8 => ?_) (fun hc8 => ?_)
              · exact (kJ15  (Or.inr (Or.inr (Or.inr (Or.inr (Or.inr (Or.inr (Or.inl ⟨hc2, hc3, hc4, hc5, hc6, hc7, hc8⟩)))))))).wk ⟨rfl, trivial⟩
              · replace hP := hP hc8
                refine im_ld (q := 57) (i := 0) D281_56 rfl rfl rfl ?_
                refine im_ldc2 (q := 60) (n := 28259031251642740) D281_57 rfl ?_
                refine im_lif (q := 61) (q2 := 64) (t := 96) D281_60 D281_61 rfl hg1 (by decide) (fun hc9 => ?_) (fun hc9 => ?_)
                · exact (kJ15  (Or.inr (Or.inr (Or.inr (Or.inr (Or.inr (Or.inr (Or.inr (Or.inl ⟨hc2, hc3, hc4, hc5, hc6, hc7, hc8, hc9⟩))))))))).wk ⟨rfl, trivial⟩
                · replace hP := hP hc9
                  refine im_ld (q := 65) (i := 0) D281_64 rfl rfl rfl ?_
                  refine im_ldc2 (q := 68) (n := 109300196926309) D281_65 rfl ?_
                  refine im_lif (q := 69) (q2 := 72) (t := 96) D281_68 D281_69 rfl hg1 (by decide) (fun hc10 => ?_) (fun hc10 => ?_)
                  · exact (kJ15  (Or.inr (Or.inr (Or.inr (Or.inr (Or.inr (Or.inr (Or.inr (Or.inr (Or.inl ⟨hc2, hc3, hc4, hc5, hc6, hc7, hc8, hc9, hc10⟩)))))))))).wk ⟨rfl, trivial⟩
                  · replace hP := hP hc10
                    refine im_ld (q := 73) (i := 0) D281_72 rfl rfl rfl ?_
                    refine im_ldc2 (q := 76) (n := 121424973489785) D281_73 rfl ?_
                    refine im_lif (q := 77) (q2 := 80) (t := 96) D281_76 D281_77 rfl hg1 (by decide) (fun hc11 => ?_) (fun hc11 => ?_)
                    · exact (kJ15  (Or.inr (Or.inr (Or.inr (Or.inr (Or.inr (Or.inr (Or.inr (Or.inr (Or.inr (Or.inl ⟨hc2, hc3, hc4, hc5, hc6, hc7, hc8, hc9, hc10, hc11⟩))))))))))).wk ⟨rfl, trivial⟩
                    · replace hP := hP hc11
                      refine im_ld (q := 81) (i := 0) D281_80 rfl rfl rfl ?_
                      refine im_ldc2 (q := 84) (n := 7103860) D281_81 rfl ?_
                      refine im_lif (q := 85) (q2 := 88) (t := 96) D281_84 D281_85 rfl hg1 (by decide) (fun hc12 => ?_) (fun hc12 => ?_)
                      · exact (kJ15  (Or.inr (Or.inr (Or.inr (Or.inr (Or.inr (Or.inr (Or.inr (Or.inr (Or.inr (Or.inr (Or.inl ⟨hc2, hc3, hc4, hc5, hc6, hc7, hc8, hc9, hc10, hc11, hc12⟩)))))))))))).wk ⟨rfl, trivial⟩
                      · replace hP := hP hc12
                        refine im_ld (q := 89) (i := 0) D281_88 rfl rfl rfl ?_
                        refine im_ldc2 (q := 92) (n := 107148485161588) D281_89 rfl ?_
                        refine im_lif (q := 93) (q2 := 96) (t := 100) D281_92 D281_93 rfl hg1 (by decide) (fun hc13 => ?_) (fun hc13 => ?_)
                        · replace hP := hP hc13
                          refine im_iconst (q := 101) D281_100 ?_
                          refine im_st1 (q := 102) (i := 2) (L' := [some (vL p0), none, some (vI 0), none]) D281_101 (Or.inl ⟨_, rfl, rfl⟩) (Nat.le_of_ble_eq_true rfl) rfl ?_
                          refine im_ld (q := 103) (i := 0) D281_102 rfl rfl rfl ?_
                          refine im_ldc2 (q := 106) (n := 1751477348) D281_103 rfl ?_
                          obtain ⟨hP, hJ74⟩ := hP
                          have kJ75 : (((p0 = 1751477348)) ∨ ((¬ p0 = 1751477348) ∧ (p0 = 7234919)) ∨ ((¬ p0 = 1751477348) ∧ (¬ p0 = 7234919) ∧ (p0 = 6382692)) ∨ ((¬ p0 = 1751477348) ∧ (¬ p0 = 7234919) ∧ (¬ p0 = 6382692) ∧ (p0 = 7566690)) ∨ ((¬ p0 = 1751477348) ∧ (¬ p0 = 7234919) ∧ (¬ p0 = 6382692) ∧ (¬ p0 = 7566690) ∧ (p0 = 7173484)) ∨ ((¬ p0 = 1751477348) ∧ (¬ p0 = 7234919) ∧ (¬ p0 = 6382692) ∧ (¬ p0 = 7566690) ∧ (¬ p0 = 7173484) ∧ (p0 = 6580598)) ∨ ((¬ p0 = 1751477348) ∧ (¬ p0 = 7234919) ∧ (¬ p0 = 6382692) ∧ (¬ p0 = 7566690) ∧ (¬ p0 = 7173484) ∧ (¬ p0 = 6580598) ∧ (p0 = 109300197582190)) ∨ ((¬ p0 = 1751477348) ∧ (¬ p0 = 7234919) ∧ (¬ p0 = 6382692) ∧ (¬ p0 = 7566690) ∧ (¬ p0 = 7173484) ∧ (¬ p0 = 6580598) ∧ (¬ p0 = 109300197582190) ∧ (p0 = 495873782388)) ∨ ((¬ p0 = 1751477348) ∧ (¬ p0 = 7234919) ∧ (¬ p0 = 6382692) ∧ (¬ p0 = 7566690) ∧ (¬ p0 = 7173484) ∧ (¬ p0 = 6580598) ∧ (¬ p0 = 109300197582190) ∧ (¬ p0 = 495873782388) ∧ (p0 = 6647396)) ∨ ((¬ p0 = 1751477348) ∧ (¬ p0 = 7234919) ∧ (¬ p0 = 6382692) ∧ (¬ p0 = 7566690) ∧ (¬ p0 = 7173484) ∧ (¬ p0 = 6580598) ∧ (¬ p0 = 109300197582190) ∧ (¬ p0 = 495873782388) ∧ (¬ p0 = 6647396) ∧ (p0 = 7697253)) ∨ ((¬ p0 = 1751477348) ∧ (¬ p0 = 7234919) ∧ (¬ p0 = 6382692) ∧ (¬ p0 = 7566690) ∧ (¬ p0 = 7173484) ∧ (¬ p0 = 6580598) ∧ (¬ p0 = 109300197582190) ∧ (¬ p0 = 495873782388) ∧ (¬ p0 = 6647396) ∧ (¬ p0 = 7697253) ∧ (p0 = 1668247140))) → im_T g d 281 190 [some (vL p0), none, some (vI 0), none] [] e M K := by
                            intro  hx76
                            have hP := hJ74  hx76
                            refine im_iconst (q := 191) D281_190 ?_
                            refine im_goto (q := 194) (t := 195) D281_191 rfl ?_
                            refine im_st1 (q := 196) (i := 3) (L' := [some (vL p0), none, some (vI 0), some (vI 1)]) D281_195 (Or.inl ⟨_, rfl, rfl⟩) (Nat.le_of_ble_eq_true rfl) rfl ?_
                            refine im_ld (q := 197) (i := 2) D281_196 rfl rfl rfl ?_
                            obtain ⟨hP, hJ90⟩ := hP
                            have kJ91 : (((¬ 0 = 0)) ∨ ((0 = 0) ∧ (¬ 1 = 0)) ∨ ((0 = 0) ∧ (1 = 0) ∧ (p0 = 6385252)) ∨ ((0 = 0) ∧ (1 = 0) ∧ (¬ p0 = 6385252) ∧ (p0 = 28530)) ∨ ((0 = 0) ∧ (1 = 0) ∧ (¬ p0 = 6385252) ∧ (¬ p0 = 28530) ∧ (p0 = 7237492)) ∨ ((0 = 0) ∧ (1 = 0) ∧ (¬ p0 = 6385252) ∧ (¬ p0 = 28530) ∧ (¬ p0 = 7237492) ∧ (p0 = 426953896805)) ∨ ((0 = 0) ∧ (1 = 0) ∧ (¬ p0 = 6385252) ∧ (¬ p0 = 28530) ∧ (¬ p0 = 7237492) ∧ (¬ p0 = 426953896805) ∧ (p0 = 26469)) ∨ ((0 = 0) ∧ (1 = 0) ∧ (¬ p0 = 6385252) ∧ (¬ p0 = 28530) ∧ (¬ p0 = 7237492) ∧ (¬ p0 = 426953896805) ∧ (¬ p0 = 26469) ∧ (p0 = 26484)) ∨ ((0 = 0) ∧ (1 = 0) ∧ (¬ p0 = 6385252) ∧ (¬ p0 = 28530) ∧ (¬ p0 = 7237492) ∧ (¬ p0 = 426953896805) ∧ (¬ p0 = 26469) ∧ (¬ p0 = 26484) ∧ (p0 = 27749)) ∨ ((0 = 0) ∧ (1 = 0) ∧ (¬ p0 = 6385252) ∧ (¬ p0 = 28530) ∧ (¬ p0 = 7237492) ∧ (¬ p0 = 426953896805) ∧ (¬ p0 = 26469) ∧ (¬ p0 = 26484) ∧ (¬ p0 = 27749) ∧ (p0 = 27764)) ∨ ((0 = 0) ∧ (1 = 0) ∧ (¬ p0 = 6385252) ∧ (¬ p0 = 28530) ∧ (¬ p0 = 7237492) ∧ (¬ p0 = 426953896805) ∧ (¬ p0 = 26469) ∧ (¬ p0 = 26484) ∧ (¬ p0 = 27749) ∧ (¬ p0 = 27764) ∧ (p0 = 25969)) ∨ ((0 = 0) ∧ (1 = 0) ∧ (¬ p0 = 6385252) ∧ (¬ p0 = 28530) ∧ (¬ p0 = 7237492) ∧ (¬ p0 = 426953896805) ∧ (¬ p0 = 26469) ∧ (¬ p0 = 26484) ∧ (¬ p0 = 27749) ∧ (¬ p0 = 27764) ∧ (¬ p0 = 25969) ∧ (p0 = 1953658213)) ∨ ((0 = 0) ∧ (1 = 0) ∧ (¬ p0 = 6385252) ∧ (¬ p0 = 28530) ∧ (¬ p0 = 7237492) ∧ (¬ p0 = 426953896805) ∧ (¬ p0 = 26469) ∧ (¬ p0 = 26484) ∧ (¬ p0 = 27749) ∧ (¬ p0 = 27764) ∧ (¬ p0 = 25969) ∧ (¬ p0 = 1953658213) ∧ (p0 = 439721161573))) → im_T g d 281 292 [none, none, none, none] [] e M K := by
                              intro  hx92
                              have hP := hJ90  hx92
                              refine im_iconst (q := 293) D281_292 ?_
                              refine im_goto (q := 296) (t := 297) D281_293 rfl ?_
                              exact im_zret (q := 298) D281_297 rfl (by decide) hP
                            refine im_ifc (q := 200) (t := 292) D281_197 rfl (by decide) (fun hc77 => ?_) (fun hc77 => ?_)
                            · exact (kJ91  (Or.inl hc77)).wk trivial
                            · replace hP := hP (Decidable.not_not.mp hc77)
                              refine im_ld (q := 201) (i := 3) D281_200 rfl rfl rfl ?_
                              refine im_ifc (q := 204) (t := 292) D281_201 rfl (by decide) (fun hc78 => ?_) (fun hc78 => ?_)
                              · exact (kJ91  (Or.inr (Or.inl ⟨(Decidable.not_not.mp hc77), hc78⟩))).wk trivial
                              · replace hP := hP (Decidable.not_not.mp hc78)
                                refine im_ld (q := 205) (i := 0) D281_204 rfl rfl rfl ?_
                                refine im_ldc2 (q := 208) (n := 6385252) D281_205 rfl ?_
                                refine im_lif (q := 209) (q2 := 212) (t := 292) D281_208 D281_209 rfl hg1 (by decide) (fun hc79 => ?_) (fun hc79 => ?_)
                                · exact (kJ91  (Or.inr (Or.inr (Or.inl ⟨(Decidable.not_not.mp hc77), (Decidable.not_not.mp hc78), hc79⟩)))).wk trivial
                                · replace hP := hP hc79
                                  refine im_ld (q := 213) (i := 0) D281_212 rfl rfl rfl ?_
                                  refine im_ldc2 (q := 216) (n := 28530) D281_213 rfl ?_
                                  refine im_lif (q := 217) (q2 := 220) (t := 292) D281_216 D281_217 rfl hg1 (by decide) (fun hc80 => ?_) (fun hc80 => ?_)
                                  · exact (kJ91  (Or.inr (Or.inr (Or.inr (Or.inl ⟨(Decidable.not_not.mp hc77), (Decidable.not_not.mp hc78), hc79, hc80⟩))))).wk trivial
                                  · replace hP := hP hc80
                                    refine im_ld (q := 221) (i := 0) D281_220 rfl rfl rfl ?_
                                    refine im_ldc2 (q := 224) (n := 7237492) D281_221 rfl ?_
                                    refine im_lif (q := 225) (q2 := 228) (t := 292) D281_224 D281_225 rfl hg1 (by decide) (fun hc81 => ?_) (fun hc81 => ?_)
                                    · exact (kJ91  (Or.inr (Or.inr (Or.inr (Or.inr (Or.inl ⟨(Decidable.not_not.mp hc77), (Decidable.not_not.mp hc78), hc79, hc80, hc81⟩)))))).wk trivial
                                    · replace hP := hP hc81
                                      refine im_ld (q := 229) (i := 0) D281_228 rfl rfl rfl ?_
                                      refine im_ldc2 (q := 232) (n := 426953896805) D281_229 rfl ?_
                                      refine im_lif (q := 233) (q2 := 236) (t := 292) D281_232 D281_233 rfl hg1 (by decide) (fun hc82 => ?_) (fun hc82 => ?_)
                                      · exact (kJ91  (Or.inr (Or.inr (Or.inr (Or.inr (Or.inr (Or.inl ⟨(Decidable.not_not.mp hc77), (Decidable.not_not.mp hc78), hc79, hc80, hc81, hc82⟩))))))).wk trivial
                                      · replace hP := hP hc82
                                        refine im_ld (q := 237) (i := 0) D281_236 rfl rfl rfl ?_
                                        refine im_ldc2 (q := 240) (n := 26469) D281_237 rfl ?_
                                        refine im_lif (q := 241) (q2 := 244) (t := 292) D281_240 D281_241 rfl hg1 (by decide) (fun hc83 => ?_) (fun hc83 => ?_)
                                        · exact (kJ91  (Or.inr (Or.inr (Or.inr (Or.inr (Or.inr (Or.inr (Or.inl ⟨(Decidable.not_not.mp hc77), (Decidable.not_not.mp hc78), hc79, hc80, hc81, hc82, hc83⟩)))))))).wk trivial
                                        · replace hP := hP hc83
                                          refine im_ld (q := 245) (i := 0) D281_244 rfl rfl rfl ?_
                                          refine im_ldc2 (q := 248) (n := 26484) D281_245 rfl ?_
                                          refine im_lif (q := 249) (q2 := 252) (t := 292) D281_248 D281_249 rfl hg1 (by decide) (fun hc84 => ?_) (fun hc84 => ?_)
                                          · exact (kJ91  (Or.inr (Or.inr (Or.inr (Or.inr (Or.inr (Or.inr (Or.inr (Or.inl ⟨(Decidable.not_not.mp hc77), (Decidable.not_not.mp hc78), hc79, hc80, hc81, hc82, hc83, hc84⟩))))))))).wk trivial
                                          · replace hP := hP hc84
                                            refine im_ld (q := 253) (i := 0) D281_252 rfl rfl rfl ?_
                                            refine im_ldc2 (q := 256) (n := 27749) D281_253 rfl ?_
                                            refine im_lif (q := 257) (q2 := 260) (t := 292) D281_256 D281_257 rfl hg1 (by decide) (fun hc85 => ?_) (fun hc85 => ?_)
                                            · exact (kJ91  (Or.inr (Or.inr (Or.inr (Or.inr (Or.inr (Or.inr (Or.inr (Or.inr (Or.inl ⟨(Decidable.not_not.mp hc77), (Decidable.not_not.mp hc78), hc79, hc80, hc81, hc82, hc83, hc84, hc85⟩)))))))))).wk trivial
                                            · replace hP := hP hc85
                                              refine im_ld (q := 261) (i := 0) D281_260 rfl rfl rfl ?_
                                              refine im_ldc2 (q := 264) (n := 27764) D281_261 rfl ?_
                                              refine im_lif (q := 265) (q2 := 268) (t := 292) D281_264 D281_265 rfl hg1 (by decide) (fun hc86 => ?_) (fun hc86 => ?_)
                                              · exact (kJ91  (Or.inr (Or.inr (Or.inr (Or.inr (Or.inr (Or.inr (Or.inr (Or.inr (Or.inr (Or.inl ⟨(Decidable.not_not.mp hc77), (Decidable.not_not.mp hc78), hc79, hc80, hc81, hc82, hc83, hc84, hc85, hc86⟩))))))))))).wk trivial
                                              · replace hP := hP hc86
                                                refine im_ld (q := 269) (i := 0) D281_268 rfl rfl rfl ?_
                                                refine im_ldc2 (q := 272) (n := 25969) D281_269 rfl ?_
                                                refine im_lif (q := 273) (q2 := 276) (t := 292) D281_272 D281_273 rfl hg1 (by decide) (fun hc87 => ?_) (fun hc87 => ?_)
                                                · exact (kJ91  (Or.inr (Or.inr (Or.inr (Or.inr (Or.inr (Or.inr (Or.inr (Or.inr (Or.inr (Or.inr (Or.inl ⟨(Decidable.not_not.mp hc77), (Decidable.not_not.mp hc78), hc79, hc80, hc81, hc82, hc83, hc84, hc85, hc86, hc87⟩)))))))))))).wk trivial
                                                · replace hP := hP hc87
                                                  refine im_ld (q := 277) (i := 0) D281_276 rfl rfl rfl ?_
                                                  refine im_ldc2 (q := 280) (n := 1953658213) D281_277 rfl ?_
                                                  refine im_lif (q := 281) (q2 := 284) (t := 292) D281_280 D281_281 rfl hg1 (by decide) (fun hc88 => ?_) (fun hc88 => ?_)
                                                  · exact (kJ91  (Or.inr (Or.inr (Or.inr (Or.inr (Or.inr (Or.inr (Or.inr (Or.inr (Or.inr (Or.inr (Or.inr (Or.inl ⟨(Decidable.not_not.mp hc77), (Decidable.not_not.mp hc78), hc79, hc80, hc81, hc82, hc83, hc84, hc85, hc86, hc87, hc88⟩))))))))))))).wk trivial
                                                  · replace hP := hP hc88
                                                    refine im_ld (q := 285) (i := 0) D281_284 rfl rfl rfl ?_
                                                    refine im_ldc2 (q := 288) (n := 439721161573) D281_285 rfl ?_
                                                    refine im_lif (q := 289) (q2 := 292) (t := 296) D281_288 D281_289 rfl hg1 (by decide) (fun hc89 => ?_) (fun hc89 => ?_)
                                                    · replace hP := hP hc89
                                                      refine im_iconst (q := 297) D281_296 ?_
                                                      exact im_zret (q := 298) D281_297 rfl (by decide) hP
                                                    · exact (kJ91  (Or.inr (Or.inr (Or.inr (Or.inr (Or.inr (Or.inr (Or.inr (Or.inr (Or.inr (Or.inr (Or.inr (Or.inr ⟨(Decidable.not_not.mp hc77), (Decidable.not_not.mp hc78), hc79, hc80, hc81, hc82, hc83, hc84, hc85, hc86, hc87, hc88, (Decidable.not_not.mp hc89)⟩))))))))))))).wk trivial
                          refine im_lif (q := 107) (q2 := 110) (t := 190) D281_106 D281_107 rfl hg1 (by decide) (fun hc63 => ?_) (fun hc63 => ?_)
                          · exact (kJ75  (Or.inl hc63)).wk ⟨rfl, rfl, trivial⟩
                          · replace hP := hP hc63
                            refine im_ld (q := 111) (i := 0) D281_110 rfl rfl rfl ?_
                            refine im_ldc2 (q := 114) (n := 7234919) D281_111 rfl ?_
                            refine im_lif (q := 115) (q2 := 118) (t := 190) D281_114 D281_115 rfl hg1 (by decide) (fun hc64 => ?_) (fun hc64 => ?_)
                            · exact (kJ75  (Or.inr (Or.inl ⟨hc63, hc64⟩))).wk ⟨rfl, rfl, trivial⟩
                            · replace hP := hP hc64
                              refine im_ld (q := 119) (i := 0) D281_118 rfl rfl rfl ?_
                              refine im_ldc2 (q := 122) (n := 6382692) D281_119 rfl ?_
                              refine im_lif (q := 123) (q2 := 126) (t := 190) D281_122 D281_123 rfl hg1 (by decide) (fun hc65 => ?_) (fun hc65 => ?_)
                              · exact (kJ75  (Or.inr (Or.inr (Or.inl ⟨hc63, hc64, hc65⟩)))).wk ⟨rfl, rfl, trivial⟩
                              · replace hP := hP hc65
                                refine im_ld (q := 127) (i := 0) D281_126 rfl rfl rfl ?_
                                refine im_ldc2 (q := 130) (n := 7566690) D281_127 rfl ?_
                                refine im_lif (q := 131) (q2 := 134) (t := 190) D281_130 D281_131 rfl hg1 (by decide) (fun hc66 => ?_) (fun hc66 => ?_)
                                · exact (kJ75  (Or.inr (Or.inr (Or.inr (Or.inl ⟨hc63, hc64, hc65, hc66⟩))))).wk ⟨rfl, rfl, trivial⟩
                                · replace hP := hP hc66
                                  refine im_ld (q := 135) (i := 0) D281_134 rfl rfl rfl ?_
                                  refine im_ldc2 (q := 138) (n := 7173484) D281_135 rfl ?_
                                  refine im_lif (q := 139) (q2 := 142) (t := 190) D281_138 D281_139 rfl hg1 (by decide) (fun hc67 => ?_) (fun hc67 => ?_)
                                  · exact (kJ75  (Or.inr (Or.inr (Or.inr (Or.inr (Or.inl ⟨hc63, hc64, hc65, hc66, hc67⟩)))))).wk ⟨rfl, rfl, trivial⟩
                                  · replace hP := hP hc67
                                    refine im_ld (q := 143) (i := 0) D281_142 rfl rfl rfl ?_
                                    refine im_ldc2 (q := 146) (n := 6580598) D281_143 rfl ?_
                                    refine im_lif (q := 147) (q2 := 150) (t := 190) D281_146 D281_147 rfl hg1 (by decide) (fun hc68 => ?_) (fun hc68 => ?_)
                                    · exact (kJ75  (Or.inr (Or.inr (Or.inr (Or.inr (Or.inr (Or.inl ⟨hc63, hc64, hc65, hc66, hc67, hc68⟩))))))).wk ⟨rfl, rfl, trivial⟩
                                    · replace hP := hP hc68
                                      refine im_ld (q := 151) (i := 0) D281_150 rfl rfl rfl ?_
                                      refine im_ldc2 (q := 154) (n := 109300197582190) D281_151 rfl ?_
                                      refine im_lif (q := 155) (q2 := 158) (t := 190) D281_154 D281_155 rfl hg1 (by decide) (fun hc69 => ?_) (fun hc69 => ?_)
                                      · exact (kJ75  (Or.inr (Or.inr (Or.inr (Or.inr (Or.inr (Or.inr (Or.inl ⟨hc63, hc64, hc65, hc66, hc67, hc68, hc69⟩)))))))).wk ⟨rfl, rfl, trivial⟩
                                      · replace hP := hP hc69
                                        refine im_ld (q := 159) (i := 0) D281_158 rfl rfl rfl ?_
                                        refine im_ldc2 (q := 162) (n := 495873782388) D281_159 rfl ?_
                                        refine im_lif (q := 163) (q2 := 166) (t := 190) D281_162 D281_163 rfl hg1 (by decide) (fun hc70 => ?_) (fun hc70 => ?_)
                                        · exact (kJ75  (Or.inr (Or.inr (Or.inr (Or.inr (Or.inr (Or.inr (Or.inr (Or.inl ⟨hc63, hc64, hc65, hc66, hc67, hc68, hc69, hc70⟩))))))))).wk ⟨rfl, rfl, trivial⟩
                                        · replace hP := hP hc70
                                          refine im_ld (q := 167) (i := 0) D281_166 rfl rfl rfl ?_
                                          refine im_ldc2 (q := 170) (n := 6647396) D281_167 rfl ?_
                                          refine im_lif (q := 171) (q2 := 174) (t := 190) D281_170 D281_171 rfl hg1 (by decide) (fun hc71 => ?_) (fun hc71 => ?_)
                                          · exact (kJ75  (Or.inr (Or.inr (Or.inr (Or.inr (Or.inr (Or.inr (Or.inr (Or.inr (Or.inl ⟨hc63, hc64, hc65, hc66, hc67, hc68, hc69, hc70, hc71⟩)))))))))).wk ⟨rfl, rfl, trivial⟩
                                          · replace hP := hP hc71
                                            refine im_ld (q := 175) (i := 0) D281_174 rfl rfl rfl ?_
                                            refine im_ldc2 (q := 178) (n := 7697253) D281_175 rfl ?_
                                            refine im_lif (q := 179) (q2 := 182) (t := 190) D281_178 D281_179 rfl hg1 (by decide) (fun hc72 => ?_) (fun hc72 => ?_)
                                            · exact (kJ75  (Or.inr (Or.inr (Or.inr (Or.inr (Or.inr (Or.inr (Or.inr (Or.inr (Or.inr (Or.inl ⟨hc63, hc64, hc65, hc66, hc67, hc68, hc69, hc70, hc71, hc72⟩))))))))))).wk ⟨rfl, rfl, trivial⟩
                                            · replace hP := hP hc72
                                              refine im_ld (q := 183) (i := 0) D281_182 rfl rfl rfl ?_
                                              refine im_ldc2 (q := 186) (n := 1668247140) D281_183 rfl ?_
                                              refine im_lif (q := 187) (q2 := 190) (t := 194) D281_186 D281_187 rfl hg1 (by decide) (fun hc73 => ?_) (fun hc73 => ?_)
                                              · replace hP := hP hc73
                                                refine im_iconst (q := 195) D281_194 ?_
                                                refine im_st1 (q := 196) (i := 3) (L' := [some (vL p0), none, some (vI 0), some (vI 0)]) D281_195 (Or.inl ⟨_, rfl, rfl⟩) (Nat.le_of_ble_eq_true rfl) rfl ?_
                                                refine im_ld (q := 197) (i := 2) D281_196 rfl rfl rfl ?_
                                                obtain ⟨hP, hJ106⟩ := hP
                                                have kJ107 : (((¬ 0 = 0)) ∨ ((0 = 0) ∧ (¬ 0 = 0)) ∨ ((0 = 0) ∧ (0 = 0) ∧ (p0 = 6385252)) ∨ ((0 = 0) ∧ (0 = 0) ∧ (¬ p0 = 6385252) ∧ (p0 = 28530)) ∨ ((0 = 0) ∧ (0 = 0) ∧ (¬ p0 = 6385252) ∧ (¬ p0 = 28530) ∧ (p0 = 7237492)) ∨ ((0 = 0) ∧ (0 = 0) ∧ (¬ p0 = 6385252) ∧ (¬ p0 = 28530) ∧ (¬ p0 = 7237492) ∧ (p0 = 426953896805)) ∨ ((0 = 0) ∧ (0 = 0) ∧ (¬ p0 = 6385252) ∧ (¬ p0 = 28530) ∧ (¬ p0 = 7237492) ∧ (¬ p0 = 426953896805) ∧ (p0 = 26469)) ∨ ((0 = 0) ∧ (0 = 0) ∧ (¬ p0 = 6385252) ∧ (¬ p0 = 28530) ∧ (¬ p0 = 7237492) ∧ (¬ p0 = 426953896805) ∧ (¬ p0 = 26469) ∧ (p0 = 26484)) ∨ ((0 = 0) ∧ (0 = 0) ∧ (¬ p0 = 6385252) ∧ (¬ p0 = 28530) ∧ (¬ p0 = 7237492) ∧ (¬ p0 = 426953896805) ∧ (¬ p0 = 26469) ∧ (¬ p0 = 26484) ∧ (p0 = 27749)) ∨ ((0 = 0) ∧ (0 = 0) ∧ (¬ p0 = 6385252) ∧ (¬ p0 = 28530) ∧ (¬ p0 = 7237492) ∧ (¬ p0 = 426953896805) ∧ (¬ p0 = 26469) ∧ (¬ p0 = 26484) ∧ (¬ p0 = 27749) ∧ (p0 = 27764)) ∨ ((0 = 0) ∧ (0 = 0) ∧ (¬ p0 = 6385252) ∧ (¬ p0 = 28530) ∧ (¬ p0 = 7237492) ∧ (¬ p0 = 426953896805) ∧ (¬ p0 = 26469) ∧ (¬ p0 = 26484) ∧ (¬ p0 = 27749) ∧ (¬ p0 = 27764) ∧ (p0 = 25969)) ∨ ((0 = 0) ∧ (0 = 0) ∧ (¬ p0 = 6385252) ∧ (¬ p0 = 28530) ∧ (¬ p0 = 7237492) ∧ (¬ p0 = 426953896805) ∧ (¬ p0 = 26469) ∧ (¬ p0 = 26484) ∧ (¬ p0 = 27749) ∧ (¬ p0 = 27764) ∧ (¬ p0 = 25969) ∧ (p0 = 1953658213)) ∨ ((0 = 0) ∧ (0 = 0) ∧ (¬ p0 = 6385252) ∧ (¬ p0 = 28530) ∧ (¬ p0 = 7237492) ∧ (¬ p0 = 426953896805) ∧ (¬ p0 = 26469) ∧ (¬ p0 = 26484) ∧ (¬ p0 = 27749) ∧ (¬ p0 = 27764) ∧ (¬ p0 = 25969) ∧ (¬ p0 = 1953658213) ∧ (p0 = 439721161573))) → im_T g d 281 292 [none, none, none, none] [] e M K := by
                                                  intro  hx108
                                                  have hP := hJ106  hx108
                                                  refine im_iconst (q := 293) D281_292 ?_
                                                  refine im_goto (q := 296) (t := 297) D281_293 rfl ?_
                                                  exact im_zret (q := 298) D281_297 rfl (by decide) hP
                                                refine im_ifc (q := 200) (t := 292) D281_197 rfl (by decide) (fun hc93 => ?_) (fun hc93 => ?_)
                                                · exact (kJ107  (Or.inl hc93)).wk trivial
                                                · replace hP := hP (Decidable.not_not.mp hc93)
                                                  refine im_ld (q := 201) (i := 3) D281_200 rfl rfl rfl ?_
                                                  refine im_ifc (q := 204) (t := 292) D281_201 rfl (by decide) (fun hc94 => ?_) (fun hc94 => ?_)
                                                  · exact (kJ107  (Or.inr (Or.inl ⟨(Decidable.not_not.mp hc93), hc94⟩))).wk trivial
                                                  · replace hP := hP (Decidable.not_not.mp hc94)
                                                    refine im_ld (q := 205) (i := 0) D281_204 rfl rfl rfl ?_
                                                    refine im_ldc2 (q := 208) (n := 6385252) D281_205 rfl ?_
                                                    refine im_lif (q := 209) (q2 := 212) (t := 292) D281_208 D281_209 rfl hg1 (by decide) (fun hc95 => ?_) (fun hc95 => ?_)
                                                    · exact (kJ107  (Or.inr (Or.inr (Or.inl ⟨(Decidable.not_not.mp hc93), (Decidable.not_not.mp hc94), hc95⟩)))).wk trivial
                                                    · replace hP := hP hc95
                                                      refine im_ld (q := 213) (i := 0) D281_212 rfl rfl rfl ?_
                                                      refine im_ldc2 (q := 216) (n := 28530) D281_213 rfl ?_
                                                      refine im_lif (q := 217) (q2 := 220) (t := 292) D281_216 D281_217 rfl hg1 (by decide) (fun hc96 => ?_) (fun hc96 => ?_)
                                                      · exact (kJ107  (Or.inr (Or.inr (Or.inr (Or.inl ⟨(Decidable.not_not.mp hc93), (Decidable.not_not.mp hc94), hc95, hc96⟩))))).wk trivial
                                                      · replace hP := hP hc96
                                                        refine im_ld (q := 221) (i := 0) D281_220 rfl rfl rfl ?_
                                                        refine im_ldc2 (q := 224) (n := 7237492) D281_221 rfl ?_
                                                        refine im_lif (q := 225) (q2 := 228) (t := 292) D281_224 D281_225 rfl hg1 (by decide) (fun hc97 => ?_) (fun hc97 => ?_)
                                                        · exact (kJ107  (Or.inr (Or.inr (Or.inr (Or.inr (Or.inl ⟨(Decidable.not_not.mp hc93), (Decidable.not_not.mp hc94), hc95, hc96, hc97⟩)))))).wk trivial
                                                        · replace hP := hP hc97
                                                          refine im_ld (q := 229) (i := 0) D281_228 rfl rfl rfl ?_
                                                          refine im_ldc2 (q := 232) (n := 426953896805) D281_229 rfl ?_
                                                          refine im_lif (q := 233) (q2 := 236) (t := 292) D281_232 D281_233 rfl hg1 (by decide) (fun hc98 => ?_) (fun hc98 => ?_)
                                                          · exact (kJ107  (Or.inr (Or.inr (Or.inr (Or.inr (Or.inr (Or.inl ⟨(Decidable.not_not.mp hc93), (Decidable.not_not.mp hc94), hc95, hc96, hc97, hc98⟩))))))).wk trivial
                                                          · replace hP := hP hc98
                                                            refine im_ld (q := 237) (i := 0) D281_236 rfl rfl rfl ?_
                                                            refine im_ldc2 (q := 240) (n := 26469) D281_237 rfl ?_
                                                            refine im_lif (q := 241) (q2 := 244) (t := 292) D281_240 D281_241 rfl hg1 (by decide) (fun hc99 => ?_) (fun hc99 => ?_)
                                                            · exact (kJ107  (Or.inr (Or.inr (Or.inr (Or.inr (Or.inr (Or.inr (Or.inl ⟨(Decidable.not_not.mp hc93), (Decidable.not_not.mp hc94), hc95, hc96, hc97, hc98, hc99⟩)))))))).wk trivial
                                                            · replace hP := hP hc99
                                                              refine im_ld (q := 245) (i := 0) D281_244 rfl rfl rfl ?_
                                                              refine im_ldc2 (q := 248) (n := 26484) D281_245 rfl ?_
                                                              refine im_lif (q := 249) (q2 := 252) (t := 292) D281_248 D281_249 rfl hg1 (by decide) (fun hc100 => ?_) (fun hc100 => ?_)
                                                              · exact (kJ107  (Or.inr (Or.inr (Or.inr (Or.inr (Or.inr (Or.inr (Or.inr (Or.inl ⟨(Decidable.not_not.mp hc93), (Decidable.not_not.mp hc94), hc95, hc96, hc97, hc98, hc99, hc100⟩))))))))).wk trivial
                                                              · replace hP := hP hc100
                                                                refine im_ld (q := 253) (i := 0) D281_252 rfl rfl rfl ?_
                                                                refine im_ldc2 (q := 256) (n := 27749) D281_253 rfl ?_
                                                                refine im_lif (q := 257) (q2 := 260) (t := 292) D281_256 D281_257 rfl hg1 (by decide) (fun hc101 => ?_) (fun hc101 => ?_)
                                                                · exact (kJ107  (Or.inr (Or.inr (Or.inr (Or.inr (Or.inr (Or.inr (Or.inr (Or.inr (Or.inl ⟨(Decidable.not_not.mp hc93), (Decidable.not_not.mp hc94), hc95, hc96, hc97, hc98, hc99, hc100, hc101⟩)))))))))).wk trivial
                                                                · replace hP := hP hc101
                                                                  refine im_ld (q := 261) (i := 0) D281_260 rfl rfl rfl ?_
                                                                  refine im_ldc2 (q := 264) (n := 27764) D281_261 rfl ?_
                                                                  refine im_lif (q := 265) (q2 := 268) (t := 292) D281_264 D281_265 rfl hg1 (by decide) (fun hc102 => ?_) (fun hc102 => ?_)
                                                                  · exact (kJ107  (Or.inr (Or.inr (Or.inr (Or.inr (Or.inr (Or.inr (Or.inr (Or.inr (Or.inr (Or.inl ⟨(Decidable.not_not.mp hc93), (Decidable.not_not.mp hc94), hc95, hc96, hc97, hc98, hc99, hc100, hc101, hc102⟩))))))))))).wk trivial
                                                                  · replace hP := hP hc102
                                                                    refine im_ld (q := 269) (i := 0) D281_268 rfl rfl rfl ?_
                                                                    refine im_ldc2 (q := 272) (n := 25969) D281_269 rfl ?_
                                                                    refine im_lif (q := 273) (q2 := 276) (t := 292) D281_272 D281_273 rfl hg1 (by decide) (fun hc103 => ?_) (fun hc103 => ?_)
                                                                    · exact (kJ107  (Or.inr (Or.inr (Or.inr (Or.inr (Or.inr (Or.inr (Or.inr (Or.inr (Or.inr (Or.inr (Or.inl ⟨(Decidable.not_not.mp hc93), (Decidable.not_not.mp hc94), hc95, hc96, hc97, hc98, hc99, hc100, hc101, hc102, hc103⟩)))))))))))).wk trivial
                                                                    · replace hP := hP hc103
                                                                      refine im_ld (q := 277) (i := 0) D281_276 rfl rfl rfl ?_
                                                                      refine im_ldc2 (q := 280) (n := 1953658213) D281_277 rfl ?_
                                                                      refine im_lif (q := 281) (q2 := 284) (t := 292) D281_280 D281_281 rfl hg1 (by decide) (fun hc104 => ?_) (fun hc104 => ?_)
                                                                      · exact (kJ107  (Or.inr (Or.inr (Or.inr (Or.inr (Or.inr (Or.inr (Or.inr (Or.inr (Or.inr (Or.inr (Or.inr (Or.inl ⟨(Decidable.not_not.mp hc93), (Decidable.not_not.mp hc94), hc95, hc96, hc97, hc98, hc99, hc100, hc101, hc102, hc103, hc104⟩))))))))))))).wk trivial
                                                                      · replace hP := hP hc104
                                                                        refine im_ld (q := 285) (i := 0) D281_284 rfl rfl rfl ?_
                                                                        refine im_ldc2 (q := 288) (n := 439721161573) D281_285 rfl ?_
                                                                        refine im_lif (q := 289) (q2 := 292) (t := 296) D281_288 D281_289 rfl hg1 (by decide) (fun hc105 => ?_) (fun hc105 => ?_)
                                                                        · replace hP := hP hc105
                                                                          refine im_iconst (q := 297) D281_296 ?_
                                                                          exact im_zret (q := 298) D281_297 rfl (by decide) hP
                                                                        · exact (kJ107  (Or.inr (Or.inr (Or.inr (Or.inr (Or.inr (Or.inr (Or.inr (Or.inr (Or.inr (Or.inr (Or.inr (Or.inr ⟨(Decidable.not_not.mp hc93), (Decidable.not_not.mp hc94), hc95, hc96, hc97, hc98, hc99, hc100, hc101, hc102, hc103, hc104, (Decidable.not_not.mp hc105)⟩))))))))))))).wk trivial
                                              · exact (kJ75  (Or.inr (Or.inr (Or.inr (Or.inr (Or.inr (Or.inr (Or.inr (Or.inr (Or.inr (Or.inr ⟨hc63, hc64, hc65, hc66, hc67, hc68, hc69, hc70, hc71, hc72, (Decidable.not_not.mp hc73)⟩))))))))))).wk ⟨rfl, rfl, trivial⟩
                        · exact (kJ15  (Or.inr (Or.inr (Or.inr (Or.inr (Or.inr (Or.inr (Or.inr (Or.inr (Or.inr (Or.inr (Or.inr ⟨hc2, hc3, hc4, hc5, hc6, hc7, hc8, hc9, hc10, hc11, hc12, (Decidable.not_not.mp hc13)⟩)))))))))))).wk ⟨rfl, trivial⟩
set_option maxRecDepth 20000 in
set_option maxHeartbeats 4000000 in
theorem b_use_0 {g : im_g} {d : Nat} {e : im_E} {M : im_M} {K : im_K} (hP : K (.inl none) e (im_u M 6952 14 (M 6952 17))) : im_T g d 282 0 [some (.ref 6952)] [] e M K := by
  refine im_ld (q := 1) (i := 0) D282_0 rfl rfl rfl ?_
  refine im_ld (q := 2) (i := 0) D282_1 rfl rfl rfl ?_
  refine im_rng (j := 17) sf_6952 (by decide) (by decide) (fun hr1 => ?_)
  refine im_gfI (q := 5) D282_2 (im_fl cn_282 fl_12_588) sf_6952 rfl rfl tI_12_17 rfl ?_
  refine im_pfI (q := 8) D282_5 (im_fl cn_282 fl_12_601) sf_6952 rfl rfl ti_12_14 hr1 ?_
  exact im_vret (q := 9) D282_8 rfl hP

/-! blocks of the reference -/
theorem D408_0 {g : im_g} : im_D g 408 0 (.aload_n 0) 1 := im_D.of (by decide +kernel)
theorem D408_1 {g : im_g} : im_D g 408 1 (.getfield 33) 4 := im_D.of (by decide +kernel)
theorem D408_4 {g : im_g} : im_D g 408 4 (.aload_n 0) 5 := im_D.of (by decide +kernel)
theorem D408_5 {g : im_g} : im_D g 408 5 (.getfield 858) 8 := im_D.of (by decide +kernel)
theorem D408_8 {g : im_g} : im_D g 408 8 (.iaload) 9 := im_D.of (by decide +kernel)
theorem D408_9 {g : im_g} : im_D g 408 9 (.iconst 5) 10 := im_D.of (by decide +kernel)
theorem D408_10 {g : im_g} : im_D g 408 10 (.if_icmp .ne 15) 13 := im_D.of (by decide +kernel)
theorem D408_13 {g : im_g} : im_D g 408 13 (.aload_n 0) 14 := im_D.of (by decide +kernel)
theorem D408_14 {g : im_g} : im_D g 408 14 (.getfield 45) 17 := im_D.of (by decide +kernel)
theorem D408_17 {g : im_g} : im_D g 408 17 (.aload_n 0) 18 := im_D.of (by decide +kernel)
theorem D408_18 {g : im_g} : im_D g 408 18 (.getfield 858) 21 := im_D.of (by decide +kernel)
theorem D408_21 {g : im_g} : im_D g 408 21 (.iaload) 22 := im_D.of (by decide +kernel)
theorem D408_22 {g : im_g} : im_D g 408 22 (.goto 4) 25 := im_D.of (by decide +kernel)
theorem D408_25 {g : im_g} : im_D g 408 25 (.iconst (-1)) 26 := im_D.of (by decide +kernel)
theorem D408_26 {g : im_g} : im_D g 408 26 (.istore_n 2) 27 := im_D.of (by decide +kernel)
theorem D408_27 {g : im_g} : im_D g 408 27 (.iload_n 2) 28 := im_D.of (by decide +kernel)
theorem D408_28 {g : im_g} : im_D g 408 28 (.iconst (-1)) 29 := im_D.of (by decide +kernel)
theorem D408_29 {g : im_g} : im_D g 408 29 (.if_icmp .eq 29) 32 := im_D.of (by decide +kernel)
theorem D408_32 {g : im_g} : im_D g 408 32 (.aload_n 0) 33 := im_D.of (by decide +kernel)
theorem D408_33 {g : im_g} : im_D g 408 33 (.getfield 855) 36 := im_D.of (by decide +kernel)
theorem D408_36 {g : im_g} : im_D g 408 36 (.ifCond .ne 22) 39 := im_D.of (by decide +kernel)
theorem D408_39 {g : im_g} : im_D g 408 39 (.aload_n 0) 40 := im_D.of (by decide +kernel)
theorem D408_40 {g : im_g} : im_D g 408 40 (.iload_n 2) 41 := im_D.of (by decide +kernel)
theorem D408_41 {g : im_g} : im_D g 408 41 (.iload_n 1) 42 := im_D.of (by decide +kernel)
theorem D408_42 {g : im_g} : im_D g 408 42 (.invokevirtual 1017) 45 := im_D.of (by decide +kernel)
theorem D408_45 {g : im_g} : im_D g 408 45 (.ifCond .ne 13) 48 := im_D.of (by decide +kernel)
theorem D408_48 {g : im_g} : im_D g 408 48 (.aload_n 0) 49 := im_D.of (by decide +kernel)
theorem D408_49 {g : im_g} : im_D g 408 49 (.getfield 54) 52 := im_D.of (by decide +kernel)
theorem D408_52 {g : im_g} : im_D g 408 52 (.iload_n 2) 53 := im_D.of (by decide +kernel)
theorem D408_53 {g : im_g} : im_D g 408 53 (.iaload) 54 := im_D.of (by decide +kernel)
theorem D408_54 {g : im_g} : im_D g 408 54 (.istore_n 2) 55 := im_D.of (by decide +kernel)
theorem D408_55 {g : im_g} : im_D g 408 55 (.goto (-28)) 58 := im_D.of (by decide +kernel)
theorem D408_58 {g : im_g} : im_D g 408 58 (.aload_n 0) 59 := im_D.of (by decide +kernel)
theorem D408_59 {g : im_g} : im_D g 408 59 (.getfield 855) 62 := im_D.of (by decide +kernel)
theorem D408_62 {g : im_g} : im_D g 408 62 (.ifCond .ge 4) 65 := im_D.of (by decide +kernel)
theorem D408_65 {g : im_g} : im_D g 408 65 (.return_) 66 := im_D.of (by decide +kernel)
theorem D408_66 {g : im_g} : im_D g 408 66 (.iload_n 2) 67 := im_D.of (by decide +kernel)
theorem D408_67 {g : im_g} : im_D g 408 67 (.iconst (-1)) 68 := im_D.of (by decide +kernel)
theorem D408_68 {g : im_g} : im_D g 408 68 (.if_icmp .ne 10) 71 := im_D.of (by decide +kernel)
theorem D408_71 {g : im_g} : im_D g 408 71 (.aload_n 0) 72 := im_D.of (by decide +kernel)
theorem D408_72 {g : im_g} : im_D g 408 72 (.bipush (-5)) 74 := im_D.of (by decide +kernel)
theorem D408_74 {g : im_g} : im_D g 408 74 (.invokevirtual 959) 77 := im_D.of (by decide +kernel)
theorem D408_77 {g : im_g} : im_D g 408 77 (.return_) 78 := im_D.of (by decide +kernel)
theorem D408_78 {g : im_g} : im_D g 408 78 (.aload_n 0) 79 := im_D.of (by decide +kernel)
theorem D408_79 {g : im_g} : im_D g 408 79 (.getfield 33) 82 := im_D.of (by decide +kernel)
theorem D408_82 {g : im_g} : im_D g 408 82 (.iload_n 2) 83 := im_D.of (by decide +kernel)
theorem D408_83 {g : im_g} : im_D g 408 83 (.iaload) 84 := im_D.of (by decide +kernel)
theorem D408_84 {g : im_g} : im_D g 408 84 (.bipush 8) 86 := im_D.of (by decide +kernel)
theorem D408_86 {g : im_g} : im_D g 408 86 (.if_icmp .ne 49) 89 := im_D.of (by decide +kernel)
theorem D408_89 {g : im_g} : im_D g 408 89 (.aload_n 0) 90 := im_D.of (by decide +kernel)
theorem D408_90 {g : im_g} : im_D g 408 90 (.getfield 17) 93 := im_D.of (by decide +kernel)
theorem D408_93 {g : im_g} : im_D g 408 93 (.aload_n 0) 94 := im_D.of (by decide +kernel)
theorem D408_94 {g : im_g} : im_D g 408 94 (.getfield 103) 97 := im_D.of (by decide +kernel)
theorem D408_97 {g : im_g} : im_D g 408 97 (.iload_n 1) 98 := im_D.of (by decide +kernel)
theorem D408_98 {g : im_g} : im_D g 408 98 (.iaload) 99 := im_D.of (by decide +kernel)
theorem D408_99 {g : im_g} : im_D g 408 99 (.iaload) 100 := im_D.of (by decide +kernel)
theorem D408_100 {g : im_g} : im_D g 408 100 (.ifCond .gt 35) 103 := im_D.of (by decide +kernel)
theorem D408_103 {g : im_g} : im_D g 408 103 (.aload_n 0) 104 := im_D.of (by decide +kernel)
theorem D408_104 {g : im_g} : im_D g 408 104 (.iconst 1) 105 := im_D.of (by decide +kernel)
theorem D408_105 {g : im_g} : im_D g 408 105 (.aload_n 0) 106 := im_D.of (by decide +kernel)
theorem D408_106 {g : im_g} : im_D g 408 106 (.getfield 36) 109 := im_D.of (by decide +kernel)
theorem D408_109 {g : im_g} : im_D g 408 109 (.iload_n 2) 110 := im_D.of (by decide +kernel)
theorem D408_110 {g : im_g} : im_D g 408 110 (.laload) 111 := im_D.of (by decide +kernel)
theorem D408_111 {g : im_g} : im_D g 408 111 (.aload_n 0) 112 := im_D.of (by decide +kernel)
theorem D408_112 {g : im_g} : im_D g 408 112 (.getfield 39) 115 := im_D.of (by decide +kernel)
theorem D408_115 {g : im_g} : im_D g 408 115 (.iload_n 2) 116 := im_D.of (by decide +kernel)
theorem D408_116 {g : im_g} : im_D g 408 116 (.laload) 117 := im_D.of (by decide +kernel)
theorem D408_117 {g : im_g} : im_D g 408 117 (.aload_n 0) 118 := im_D.of (by decide +kernel)
theorem D408_118 {g : im_g} : im_D g 408 118 (.getfield 42) 121 := im_D.of (by decide +kernel)
theorem D408_121 {g : im_g} : im_D g 408 121 (.iload_n 2) 122 := im_D.of (by decide +kernel)
theorem D408_122 {g : im_g} : im_D g 408 122 (.laload) 123 := im_D.of (by decide +kernel)
theorem D408_123 {g : im_g} : im_D g 408 123 (.aload_n 0) 124 := im_D.of (by decide +kernel)
theorem D408_124 {g : im_g} : im_D g 408 124 (.getfield 103) 127 := im_D.of (by decide +kernel)
theorem D408_127 {g : im_g} : im_D g 408 127 (.iload_n 1) 128 := im_D.of (by decide +kernel)
theorem D408_128 {g : im_g} : im_D g 408 128 (.iaload) 129 := im_D.of (by decide +kernel)
theorem D408_129 {g : im_g} : im_D g 408 129 (.invokevirtual 987) 132 := im_D.of (by decide +kernel)
theorem D408_132 {g : im_g} : im_D g 408 132 (.goto 84) 135 := im_D.of (by decide +kernel)
theorem D408_135 {g : im_g} : im_D g 408 135 (.aload_n 0) 136 := im_D.of (by decide +kernel)
theorem D408_136 {g : im_g} : im_D g 408 136 (.getfield 33) 139 := im_D.of (by decide +kernel)
theorem D408_139 {g : im_g} : im_D g 408 139 (.iload_n 2) 140 := im_D.of (by decide +kernel)
theorem D408_140 {g : im_g} : im_D g 408 140 (.iaload) 141 := im_D.of (by decide +kernel)
theorem D408_141 {g : im_g} : im_D g 408 141 (.bipush 8) 143 := im_D.of (by decide +kernel)
theorem D408_143 {g : im_g} : im_D g 408 143 (.if_icmp .ne 57) 146 := im_D.of (by decide +kernel)
theorem D408_146 {g : im_g} : im_D g 408 146 (.aload_n 0) 147 := im_D.of (by decide +kernel)
theorem D408_147 {g : im_g} : im_D g 408 147 (.aload_n 0) 148 := im_D.of (by decide +kernel)
theorem D408_148 {g : im_g} : im_D g 408 148 (.getfield 39) 151 := im_D.of (by decide +kernel)
theorem D408_151 {g : im_g} : im_D g 408 151 (.iload_n 2) 152 := im_D.of (by decide +kernel)
theorem D408_152 {g : im_g} : im_D g 408 152 (.laload) 153 := im_D.of (by decide +kernel)
theorem D408_153 {g : im_g} : im_D g 408 153 (.aload_n 0) 154 := im_D.of (by decide +kernel)
theorem D408_154 {g : im_g} : im_D g 408 154 (.getfield 42) 157 := im_D.of (by decide +kernel)
theorem D408_157 {g : im_g} : im_D g 408 157 (.iload_n 2) 158 := im_D.of (by decide +kernel)
theorem D408_158 {g : im_g} : im_D g 408 158 (.laload) 159 := im_D.of (by decide +kernel)
theorem D408_159 {g : im_g} : im_D g 408 159 (.aload_n 0) 160 := im_D.of (by decide +kernel)
theorem D408_160 {g : im_g} : im_D g 408 160 (.getfield 103) 163 := im_D.of (by decide +kernel)
theorem D408_163 {g : im_g} : im_D g 408 163 (.iload_n 1) 164 := im_D.of (by decide +kernel)
theorem D408_164 {g : im_g} : im_D g 408 164 (.iaload) 165 := im_D.of (by decide +kernel)
theorem D408_165 {g : im_g} : im_D g 408 165 (.invokevirtual 1020) 168 := im_D.of (by decide +kernel)
theorem D408_168 {g : im_g} : im_D g 408 168 (.aload_n 0) 169 := im_D.of (by decide +kernel)
theorem D408_169 {g : im_g} : im_D g 408 169 (.getfield 855) 172 := im_D.of (by decide +kernel)
theorem D408_172 {g : im_g} : im_D g 408 172 (.ifCond .ne 44) 175 := im_D.of (by decide +kernel)
theorem D408_175 {g : im_g} : im_D g 408 175 (.aload_n 0) 176 := im_D.of (by decide +kernel)
theorem D408_176 {g : im_g} : im_D g 408 176 (.aload_n 0) 177 := im_D.of (by decide +kernel)
theorem D408_177 {g : im_g} : im_D g 408 177 (.getfield 36) 180 := im_D.of (by decide +kernel)
theorem D408_180 {g : im_g} : im_D g 408 180 (.iload_n 2) 181 := im_D.of (by decide +kernel)
theorem D408_181 {g : im_g} : im_D g 408 181 (.laload) 182 := im_D.of (by decide +kernel)
theorem D408_182 {g : im_g} : im_D g 408 182 (.aload_n 0) 183 := im_D.of (by decide +kernel)
theorem D408_183 {g : im_g} : im_D g 408 183 (.getfield 42) 186 := im_D.of (by decide +kernel)
theorem D408_186 {g : im_g} : im_D g 408 186 (.iload_n 2) 187 := im_D.of (by decide +kernel)
theorem D408_187 {g : im_g} : im_D g 408 187 (.laload) 188 := im_D.of (by decide +kernel)
theorem D408_188 {g : im_g} : im_D g 408 188 (.aload_n 0) 189 := im_D.of (by decide +kernel)
theorem D408_189 {g : im_g} : im_D g 408 189 (.getfield 103) 192 := im_D.of (by decide +kernel)
theorem D408_192 {g : im_g} : im_D g 408 192 (.iload_n 1) 193 := im_D.of (by decide +kernel)
theorem D408_193 {g : im_g} : im_D g 408 193 (.iaload) 194 := im_D.of (by decide +kernel)
theorem D408_194 {g : im_g} : im_D g 408 194 (.invokevirtual 978) 197 := im_D.of (by decide +kernel)
theorem D408_197 {g : im_g} : im_D g 408 197 (.goto 19) 200 := im_D.of (by decide +kernel)
theorem D408_200 {g : im_g} : im_D g 408 200 (.aload_n 0) 201 := im_D.of (by decide +kernel)
theorem D408_201 {g : im_g} : im_D g 408 201 (.getfield 33) 204 := im_D.of (by decide +kernel)
theorem D408_204 {g : im_g} : im_D g 408 204 (.iload_n 2) 205 := im_D.of (by decide +kernel)
theorem D408_205 {g : im_g} : im_D g 408 205 (.iaload) 206 := im_D.of (by decide +kernel)
theorem D408_206 {g : im_g} : im_D g 408 206 (.bipush 9) 208 := im_D.of (by decide +kernel)
theorem D408_208 {g : im_g} : im_D g 408 208 (.if_icmp .ne 8) 211 := im_D.of (by decide +kernel)
theorem D408_211 {g : im_g} : im_D g 408 211 (.aload_n 0) 212 := im_D.of (by decide +kernel)
theorem D408_212 {g : im_g} : im_D g 408 212 (.iload_n 1) 213 := im_D.of (by decide +kernel)
theorem D408_213 {g : im_g} : im_D g 408 213 (.invokevirtual 1023) 216 := im_D.of (by decide +kernel)
theorem D408_216 {g : im_g} : im_D g 408 216 (.aload_n 0) 217 := im_D.of (by decide +kernel)
theorem D408_217 {g : im_g} : im_D g 408 217 (.aload_n 0) 218 := im_D.of (by decide +kernel)
theorem D408_218 {g : im_g} : im_D g 408 218 (.getfield 48) 221 := im_D.of (by decide +kernel)
theorem D408_221 {g : im_g} : im_D g 408 221 (.iload_n 2) 222 := im_D.of (by decide +kernel)
theorem D408_222 {g : im_g} : im_D g 408 222 (.iaload) 223 := im_D.of (by decide +kernel)
theorem D408_223 {g : im_g} : im_D g 408 223 (.putfield 858) 226 := im_D.of (by decide +kernel)
theorem D408_226 {g : im_g} : im_D g 408 226 (.return_) 227 := im_D.of (by decide +kernel)
theorem D409_0 {g : im_g} : im_D g 409 0 (.aload_n 0) 1 := im_D.of (by decide +kernel)
theorem D409_1 {g : im_g} : im_D g 409 1 (.getfield 33) 4 := im_D.of (by decide +kernel)
theorem D409_4 {g : im_g} : im_D g 409 4 (.iload_n 1) 5 := im_D.of (by decide +kernel)
theorem D409_5 {g : im_g} : im_D g 409 5 (.iaload) 6 := im_D.of (by decide +kernel)
theorem D409_6 {g : im_g} : im_D g 409 6 (.aload_n 0) 7 := im_D.of (by decide +kernel)
theorem D409_7 {g : im_g} : im_D g 409 7 (.getfield 91) 10 := im_D.of (by decide +kernel)
theorem D409_10 {g : im_g} : im_D g 409 10 (.iload_n 2) 11 := im_D.of (by decide +kernel)
theorem D409_11 {g : im_g} : im_D g 409 11 (.iaload) 12 := im_D.of (by decide +kernel)
theorem D409_12 {g : im_g} : im_D g 409 12 (.if_icmp .eq 5) 15 := im_D.of (by decide +kernel)
theorem D409_15 {g : im_g} : im_D g 409 15 (.iconst 0) 16 := im_D.of (by decide +kernel)
theorem D409_16 {g : im_g} : im_D g 409 16 (.ireturn) 17 := im_D.of (by decide +kernel)
theorem D409_17 {g : im_g} : im_D g 409 17 (.aload_n 0) 18 := im_D.of (by decide +kernel)
theorem D409_18 {g : im_g} : im_D g 409 18 (.getfield 33) 21 := im_D.of (by decide +kernel)
theorem D409_21 {g : im_g} : im_D g 409 21 (.iload_n 1) 22 := im_D.of (by decide +kernel)
theorem D409_22 {g : im_g} : im_D g 409 22 (.iaload) 23 := im_D.of (by decide +kernel)
theorem D409_23 {g : im_g} : im_D g 409 23 (.bipush 10) 25 := im_D.of (by decide +kernel)
theorem D409_25 {g : im_g} : im_D g 409 25 (.if_icmp .ne 52) 28 := im_D.of (by decide +kernel)
theorem D409_28 {g : im_g} : im_D g 409 28 (.aload_n 0) 29 := im_D.of (by decide +kernel)
theorem D409_29 {g : im_g} : im_D g 409 29 (.getfield 449) 32 := im_D.of (by decide +kernel)
theorem D409_32 {g : im_g} : im_D g 409 32 (.istore_n 3) 33 := im_D.of (by decide +kernel)
theorem D409_33 {g : im_g} : im_D g 409 33 (.aload_n 0) 34 := im_D.of (by decide +kernel)
theorem D409_34 {g : im_g} : im_D g 409 34 (.aload_n 0) 35 := im_D.of (by decide +kernel)
theorem D409_35 {g : im_g} : im_D g 409 35 (.getfield 45) 38 := im_D.of (by decide +kernel)
theorem D409_38 {g : im_g} : im_D g 409 38 (.iload_n 1) 39 := im_D.of (by decide +kernel)
theorem D409_39 {g : im_g} : im_D g 409 39 (.iaload) 40 := im_D.of (by decide +kernel)
theorem D409_40 {g : im_g} : im_D g 409 40 (.invokevirtual 984) 43 := im_D.of (by decide +kernel)
theorem D409_43 {g : im_g} : im_D g 409 43 (.iconst 1) 44 := im_D.of (by decide +kernel)
theorem D409_44 {g : im_g} : im_D g 409 44 (.if_icmp .ne 7) 47 := im_D.of (by decide +kernel)
theorem D409_47 {g : im_g} : im_D g 409 47 (.iconst 1) 48 := im_D.of (by decide +kernel)
theorem D409_48 {g : im_g} : im_D g 409 48 (.goto 4) 51 := im_D.of (by decide +kernel)
theorem D409_51 {g : im_g} : im_D g 409 51 (.iconst 0) 52 := im_D.of (by decide +kernel)
theorem D409_52 {g : im_g} : im_D g 409 52 (.istore 4) 54 := im_D.of (by decide +kernel)
theorem D409_54 {g : im_g} : im_D g 409 54 (.aload_n 0) 55 := im_D.of (by decide +kernel)
theorem D409_55 {g : im_g} : im_D g 409 55 (.iload_n 3) 56 := im_D.of (by decide +kernel)
theorem D409_56 {g : im_g} : im_D g 409 56 (.putfield 449) 59 := im_D.of (by decide +kernel)
theorem D409_59 {g : im_g} : im_D g 409 59 (.iload 4) 61 := im_D.of (by decide +kernel)
theorem D409_61 {g : im_g} : im_D g 409 61 (.ifCond .eq 14) 64 := im_D.of (by decide +kernel)
theorem D409_64 {g : im_g} : im_D g 409 64 (.aload_n 0) 65 := im_D.of (by decide +kernel)
theorem D409_65 {g : im_g} : im_D g 409 65 (.getfield 855) 68 := im_D.of (by decide +kernel)
theorem D409_68 {g : im_g} : im_D g 409 68 (.ifCond .ne 7) 71 := im_D.of (by decide +kernel)
theorem D409_71 {g : im_g} : im_D g 409 71 (.iconst 1) 72 := im_D.of (by decide +kernel)
theorem D409_72 {g : im_g} : im_D g 409 72 (.goto 4) 75 := im_D.of (by decide +kernel)
theorem D409_75 {g : im_g} : im_D g 409 75 (.iconst 0) 76 := im_D.of (by decide +kernel)
theorem D409_76 {g : im_g} : im_D g 409 76 (.ireturn) 77 := im_D.of (by decide +kernel)
theorem D409_77 {g : im_g} : im_D g 409 77 (.aload_n 0) 78 := im_D.of (by decide +kernel)
theorem D409_78 {g : im_g} : im_D g 409 78 (.getfield 36) 81 := im_D.of (by decide +kernel)
theorem D409_81 {g : im_g} : im_D g 409 81 (.iload_n 1) 82 := im_D.of (by decide +kernel)
theorem D409_82 {g : im_g} : im_D g 409 82 (.laload) 83 := im_D.of (by decide +kernel)
theorem D409_83 {g : im_g} : im_D g 409 83 (.aload_n 0) 84 := im_D.of (by decide +kernel)
theorem D409_84 {g : im_g} : im_D g 409 84 (.getfield 94) 87 := im_D.of (by decide +kernel)
theorem D409_87 {g : im_g} : im_D g 409 87 (.iload_n 2) 88 := im_D.of (by decide +kernel)
theorem D409_88 {g : im_g} : im_D g 409 88 (.laload) 89 := im_D.of (by decide +kernel)
theorem D409_89 {g : im_g} : im_D g 409 89 (.lcmp) 90 := im_D.of (by decide +kernel)
theorem D409_90 {g : im_g} : im_D g 409 90 (.ifCond .ne 23) 93 := im_D.of (by decide +kernel)
theorem D409_93 {g : im_g} : im_D g 409 93 (.aload_n 0) 94 := im_D.of (by decide +kernel)
theorem D409_94 {g : im_g} : im_D g 409 94 (.getfield 39) 97 := im_D.of (by decide +kernel)
theorem D409_97 {g : im_g} : im_D g 409 97 (.iload_n 1) 98 := im_D.of (by decide +kernel)
theorem D409_98 {g : im_g} : im_D g 409 98 (.laload) 99 := im_D.of (by decide +kernel)
theorem D409_99 {g : im_g} : im_D g 409 99 (.aload_n 0) 100 := im_D.of (by decide +kernel)
theorem D409_100 {g : im_g} : im_D g 409 100 (.getfield 97) 103 := im_D.of (by decide +kernel)
theorem D409_103 {g : im_g} : im_D g 409 103 (.iload_n 2) 104 := im_D.of (by decide +kernel)
theorem D409_104 {g : im_g} : im_D g 409 104 (.laload) 105 := im_D.of (by decide +kernel)
theorem D409_105 {g : im_g} : im_D g 409 105 (.lcmp) 106 := im_D.of (by decide +kernel)
theorem D409_106 {g : im_g} : im_D g 409 106 (.ifCond .ne 7) 109 := im_D.of (by decide +kernel)
theorem D409_109 {g : im_g} : im_D g 409 109 (.iconst 1) 110 := im_D.of (by decide +kernel)
theorem D409_110 {g : im_g} : im_D g 409 110 (.goto 4) 113 := im_D.of (by decide +kernel)
theorem D409_113 {g : im_g} : im_D g 409 113 (.iconst 0) 114 := im_D.of (by decide +kernel)
theorem D409_114 {g : im_g} : im_D g 409 114 (.istore_n 3) 115 := im_D.of (by decide +kernel)
theorem D409_115 {g : im_g} : im_D g 409 115 (.aload_n 0) 116 := im_D.of (by decide +kernel)
theorem D409_116 {g : im_g} : im_D g 409 116 (.getfield 33) 119 := im_D.of (by decide +kernel)
theorem D409_119 {g : im_g} : im_D g 409 119 (.iload_n 1) 120 := im_D.of (by decide +kernel)
theorem D409_120 {g : im_g} : im_D g 409 120 (.iaload) 121 := im_D.of (by decide +kernel)
theorem D409_121 {g : im_g} : im_D g 409 121 (.bipush 9) 123 := im_D.of (by decide +kernel)
theorem D409_123 {g : im_g} : im_D g 409 123 (.if_icmp .ne 27) 126 := im_D.of (by decide +kernel)
theorem D409_126 {g : im_g} : im_D g 409 126 (.iload_n 3) 127 := im_D.of (by decide +kernel)
theorem D409_127 {g : im_g} : im_D g 409 127 (.ifCond .eq 21) 130 := im_D.of (by decide +kernel)
theorem D409_130 {g : im_g} : im_D g 409 130 (.aload_n 0) 131 := im_D.of (by decide +kernel)
theorem D409_131 {g : im_g} : im_D g 409 131 (.iload_n 1) 132 := im_D.of (by decide +kernel)
theorem D409_132 {g : im_g} : im_D g 409 132 (.aload_n 0) 133 := im_D.of (by decide +kernel)
theorem D409_133 {g : im_g} : im_D g 409 133 (.getfield 103) 136 := im_D.of (by decide +kernel)
theorem D409_136 {g : im_g} : im_D g 409 136 (.iload_n 2) 137 := im_D.of (by decide +kernel)
theorem D409_137 {g : im_g} : im_D g 409 137 (.iaload) 138 := im_D.of (by decide +kernel)
theorem D409_138 {g : im_g} : im_D g 409 138 (.invokevirtual 1013) 141 := im_D.of (by decide +kernel)
theorem D409_141 {g : im_g} : im_D g 409 141 (.ifCond .eq 7) 144 := im_D.of (by decide +kernel)
theorem D409_144 {g : im_g} : im_D g 409 144 (.iconst 1) 145 := im_D.of (by decide +kernel)
theorem D409_145 {g : im_g} : im_D g 409 145 (.goto 4) 148 := im_D.of (by decide +kernel)
theorem D409_148 {g : im_g} : im_D g 409 148 (.iconst 0) 149 := im_D.of (by decide +kernel)
theorem D409_149 {g : im_g} : im_D g 409 149 (.ireturn) 150 := im_D.of (by decide +kernel)
theorem D409_150 {g : im_g} : im_D g 409 150 (.iload_n 3) 151 := im_D.of (by decide +kernel)
theorem D409_151 {g : im_g} : im_D g 409 151 (.ifCond .eq 19) 154 := im_D.of (by decide +kernel)
theorem D409_154 {g : im_g} : im_D g 409 154 (.aload_n 0) 155 := im_D.of (by decide +kernel)
theorem D409_155 {g : im_g} : im_D g 409 155 (.getfield 42) 158 := im_D.of (by decide +kernel)
theorem D409_158 {g : im_g} : im_D g 409 158 (.iload_n 1) 159 := im_D.of (by decide +kernel)
theorem D409_159 {g : im_g} : im_D g 409 159 (.laload) 160 := im_D.of (by decide +kernel)
theorem D409_160 {g : im_g} : im_D g 409 160 (.aload_n 0) 161 := im_D.of (by decide +kernel)
theorem D409_161 {g : im_g} : im_D g 409 161 (.getfield 100) 164 := im_D.of (by decide +kernel)
theorem D409_164 {g : im_g} : im_D g 409 164 (.iload_n 2) 165 := im_D.of (by decide +kernel)
theorem D409_165 {g : im_g} : im_D g 409 165 (.laload) 166 := im_D.of (by decide +kernel)
theorem D409_166 {g : im_g} : im_D g 409 166 (.lcmp) 167 := im_D.of (by decide +kernel)
theorem D409_167 {g : im_g} : im_D g 409 167 (.ifCond .eq 5) 170 := im_D.of (by decide +kernel)
theorem D409_170 {g : im_g} : im_D g 409 170 (.iconst 0) 171 := im_D.of (by decide +kernel)
theorem D409_171 {g : im_g} : im_D g 409 171 (.ireturn) 172 := im_D.of (by decide +kernel)
theorem D409_172 {g : im_g} : im_D g 409 172 (.aload_n 0) 173 := im_D.of (by decide +kernel)
theorem D409_173 {g : im_g} : im_D g 409 173 (.getfield 449) 176 := im_D.of (by decide +kernel)
theorem D409_176 {g : im_g} : im_D g 409 176 (.istore 4) 178 := im_D.of (by decide +kernel)
theorem D409_178 {g : im_g} : im_D g 409 178 (.aload_n 0) 179 := im_D.of (by decide +kernel)
theorem D409_179 {g : im_g} : im_D g 409 179 (.aload_n 0) 180 := im_D.of (by decide +kernel)
theorem D409_180 {g : im_g} : im_D g 409 180 (.getfield 45) 183 := im_D.of (by decide +kernel)
theorem D409_183 {g : im_g} : im_D g 409 183 (.iload_n 1) 184 := im_D.of (by decide +kernel)
theorem D409_184 {g : im_g} : im_D g 409 184 (.iaload) 185 := im_D.of (by decide +kernel)
theorem D409_185 {g : im_g} : im_D g 409 185 (.invokevirtual 984) 188 := im_D.of (by decide +kernel)
theorem D409_188 {g : im_g} : im_D g 409 188 (.istore 5) 190 := im_D.of (by decide +kernel)
theorem D409_190 {g : im_g} : im_D g 409 190 (.aload_n 0) 191 := im_D.of (by decide +kernel)
theorem D409_191 {g : im_g} : im_D g 409 191 (.getfield 855) 194 := im_D.of (by decide +kernel)
theorem D409_194 {g : im_g} : im_D g 409 194 (.ifCond .ne 22) 197 := im_D.of (by decide +kernel)
theorem D409_197 {g : im_g} : im_D g 409 197 (.aload_n 0) 198 := im_D.of (by decide +kernel)
theorem D409_198 {g : im_g} : im_D g 409 198 (.iload 5) 200 := im_D.of (by decide +kernel)
theorem D409_200 {g : im_g} : im_D g 409 200 (.aload_n 0) 201 := im_D.of (by decide +kernel)
theorem D409_201 {g : im_g} : im_D g 409 201 (.getfield 103) 204 := im_D.of (by decide +kernel)
theorem D409_204 {g : im_g} : im_D g 409 204 (.iload_n 2) 205 := im_D.of (by decide +kernel)
theorem D409_205 {g : im_g} : im_D g 409 205 (.iaload) 206 := im_D.of (by decide +kernel)
theorem D409_206 {g : im_g} : im_D g 409 206 (.invokevirtual 674) 209 := im_D.of (by decide +kernel)
theorem D409_209 {g : im_g} : im_D g 409 209 (.ifCond .ne 7) 212 := im_D.of (by decide +kernel)
theorem D409_212 {g : im_g} : im_D g 409 212 (.iconst 1) 213 := im_D.of (by decide +kernel)
theorem D409_213 {g : im_g} : im_D g 409 213 (.goto 4) 216 := im_D.of (by decide +kernel)
theorem D409_216 {g : im_g} : im_D g 409 216 (.iconst 0) 217 := im_D.of (by decide +kernel)
theorem D409_217 {g : im_g} : im_D g 409 217 (.istore 6) 219 := im_D.of (by decide +kernel)
theorem D409_219 {g : im_g} : im_D g 409 219 (.aload_n 0) 220 := im_D.of (by decide +kernel)
theorem D409_220 {g : im_g} : im_D g 409 220 (.iload 4) 222 := im_D.of (by decide +kernel)
theorem D409_222 {g : im_g} : im_D g 409 222 (.putfield 449) 225 := im_D.of (by decide +kernel)
theorem D409_225 {g : im_g} : im_D g 409 225 (.iload 6) 227 := im_D.of (by decide +kernel)
theorem D409_227 {g : im_g} : im_D g 409 227 (.ireturn) 228 := im_D.of (by decide +kernel)
theorem D410_0 {g : im_g} : im_D g 410 0 (.iconst 0) 1 := im_D.of (by decide +kernel)
theorem D410_1 {g : im_g} : im_D g 410 1 (.istore_n 3) 2 := im_D.of (by decide +kernel)
theorem D410_2 {g : im_g} : im_D g 410 2 (.aload_n 0) 3 := im_D.of (by decide +kernel)
theorem D410_3 {g : im_g} : im_D g 410 3 (.getfield 67) 6 := im_D.of (by decide +kernel)
theorem D410_6 {g : im_g} : im_D g 410 6 (.iload_n 1) 7 := im_D.of (by decide +kernel)
theorem D410_7 {g : im_g} : im_D g 410 7 (.iaload) 8 := im_D.of (by decide +kernel)
theorem D410_8 {g : im_g} : im_D g 410 8 (.istore 4) 10 := im_D.of (by decide +kernel)
theorem D410_10 {g : im_g} : im_D g 410 10 (.iload 4) 12 := im_D.of (by decide +kernel)
theorem D410_12 {g : im_g} : im_D g 410 12 (.aload_n 0) 13 := im_D.of (by decide +kernel)
theorem D410_13 {g : im_g} : im_D g 410 13 (.getfield 67) 16 := im_D.of (by decide +kernel)
theorem D410_16 {g : im_g} : im_D g 410 16 (.iload_n 1) 17 := im_D.of (by decide +kernel)
theorem D410_17 {g : im_g} : im_D g 410 17 (.iaload) 18 := im_D.of (by decide +kernel)
theorem D410_18 {g : im_g} : im_D g 410 18 (.aload_n 0) 19 := im_D.of (by decide +kernel)
theorem D410_19 {g : im_g} : im_D g 410 19 (.getfield 70) 22 := im_D.of (by decide +kernel)
theorem D410_22 {g : im_g} : im_D g 410 22 (.iload_n 1) 23 := im_D.of (by decide +kernel)
theorem D410_23 {g : im_g} : im_D g 410 23 (.iaload) 24 := im_D.of (by decide +kernel)
theorem D410_24 {g : im_g} : im_D g 410 24 (.iadd) 25 := im_D.of (by decide +kernel)
theorem D410_25 {g : im_g} : im_D g 410 25 (.if_icmp .ge 49) 28 := im_D.of (by decide +kernel)
theorem D410_28 {g : im_g} : im_D g 410 28 (.iload_n 3) 29 := im_D.of (by decide +kernel)
theorem D410_29 {g : im_g} : im_D g 410 29 (.ifCond .ne 33) 32 := im_D.of (by decide +kernel)
theorem D410_32 {g : im_g} : im_D g 410 32 (.aload_n 0) 33 := im_D.of (by decide +kernel)
theorem D410_33 {g : im_g} : im_D g 410 33 (.aload_n 0) 34 := im_D.of (by decide +kernel)
theorem D410_34 {g : im_g} : im_D g 410 34 (.getfield 73) 37 := im_D.of (by decide +kernel)
theorem D410_37 {g : im_g} : im_D g 410 37 (.iload 4) 39 := im_D.of (by decide +kernel)
theorem D410_39 {g : im_g} : im_D g 410 39 (.iaload) 40 := im_D.of (by decide +kernel)
theorem D410_40 {g : im_g} : im_D g 410 40 (.iload_n 2) 41 := im_D.of (by decide +kernel)
theorem D410_41 {g : im_g} : im_D g 410 41 (.invokevirtual 674) 44 := im_D.of (by decide +kernel)
theorem D410_44 {g : im_g} : im_D g 410 44 (.ifCond .gt 22) 47 := im_D.of (by decide +kernel)
theorem D410_47 {g : im_g} : im_D g 410 47 (.aload_n 0) 48 := im_D.of (by decide +kernel)
theorem D410_48 {g : im_g} : im_D g 410 48 (.iload_n 2) 49 := im_D.of (by decide +kernel)
theorem D410_49 {g : im_g} : im_D g 410 49 (.aload_n 0) 50 := im_D.of (by decide +kernel)
theorem D410_50 {g : im_g} : im_D g 410 50 (.getfield 76) 53 := im_D.of (by decide +kernel)
theorem D410_53 {g : im_g} : im_D g 410 53 (.iload 4) 55 := im_D.of (by decide +kernel)
theorem D410_55 {g : im_g} : im_D g 410 55 (.iaload) 56 := im_D.of (by decide +kernel)
theorem D410_56 {g : im_g} : im_D g 410 56 (.invokevirtual 674) 59 := im_D.of (by decide +kernel)
theorem D410_59 {g : im_g} : im_D g 410 59 (.ifCond .gt 7) 62 := im_D.of (by decide +kernel)
theorem D410_62 {g : im_g} : im_D g 410 62 (.iconst 1) 63 := im_D.of (by decide +kernel)
theorem D410_63 {g : im_g} : im_D g 410 63 (.goto 4) 66 := im_D.of (by decide +kernel)
theorem D410_66 {g : im_g} : im_D g 410 66 (.iconst 0) 67 := im_D.of (by decide +kernel)
theorem D410_67 {g : im_g} : im_D g 410 67 (.istore_n 3) 68 := im_D.of (by decide +kernel)
theorem D410_68 {g : im_g} : im_D g 410 68 (.iinc 4 1) 71 := im_D.of (by decide +kernel)
theorem D410_71 {g : im_g} : im_D g 410 71 (.goto (-61)) 74 := im_D.of (by decide +kernel)
theorem D410_74 {g : im_g} : im_D g 410 74 (.iload_n 3) 75 := im_D.of (by decide +kernel)
theorem D410_75 {g : im_g} : im_D g 410 75 (.ireturn) 76 := im_D.of (by decide +kernel)
theorem D411_0 {g : im_g} : im_D g 411 0 (.aload_n 0) 1 := im_D.of (by decide +kernel)
theorem D411_1 {g : im_g} : im_D g 411 1 (.getfield 941) 4 := im_D.of (by decide +kernel)
theorem D411_4 {g : im_g} : im_D g 411 4 (.ifCond .eq 4) 7 := im_D.of (by decide +kernel)
theorem D411_7 {g : im_g} : im_D g 411 7 (.return_) 8 := im_D.of (by decide +kernel)
theorem D411_8 {g : im_g} : im_D g 411 8 (.aload_n 0) 9 := im_D.of (by decide +kernel)
theorem D411_9 {g : im_g} : im_D g 411 9 (.lload_n 1) 10 := im_D.of (by decide +kernel)
theorem D411_10 {g : im_g} : im_D g 411 10 (.lload_n 3) 11 := im_D.of (by decide +kernel)
theorem D411_11 {g : im_g} : im_D g 411 11 (.invokevirtual 968) 14 := im_D.of (by decide +kernel)
theorem D411_14 {g : im_g} : im_D g 411 14 (.istore 6) 16 := im_D.of (by decide +kernel)
theorem D411_16 {g : im_g} : im_D g 411 16 (.iload 6) 18 := im_D.of (by decide +kernel)
theorem D411_18 {g : im_g} : im_D g 411 18 (.iconst (-1)) 19 := im_D.of (by decide +kernel)
theorem D411_19 {g : im_g} : im_D g 411 19 (.if_icmp .eq 19) 22 := im_D.of (by decide +kernel)
theorem D411_22 {g : im_g} : im_D g 411 22 (.aload_n 0) 23 := im_D.of (by decide +kernel)
theorem D411_23 {g : im_g} : im_D g 411 23 (.aload_n 0) 24 := im_D.of (by decide +kernel)
theorem D411_24 {g : im_g} : im_D g 411 24 (.getfield 255) 27 := im_D.of (by decide +kernel)
theorem D411_27 {g : im_g} : im_D g 411 27 (.iload 6) 29 := im_D.of (by decide +kernel)
theorem D411_29 {g : im_g} : im_D g 411 29 (.iaload) 30 := im_D.of (by decide +kernel)
theorem D411_30 {g : im_g} : im_D g 411 30 (.iload 5) 32 := im_D.of (by decide +kernel)
theorem D411_32 {g : im_g} : im_D g 411 32 (.invokevirtual 674) 35 := im_D.of (by decide +kernel)
theorem D411_35 {g : im_g} : im_D g 411 35 (.ifCond .ge 10) 38 := im_D.of (by decide +kernel)
theorem D411_38 {g : im_g} : im_D g 411 38 (.aload_n 0) 39 := im_D.of (by decide +kernel)
theorem D411_39 {g : im_g} : im_D g 411 39 (.bipush (-7)) 41 := im_D.of (by decide +kernel)
theorem D411_41 {g : im_g} : im_D g 411 41 (.invokevirtual 959) 44 := im_D.of (by decide +kernel)
theorem D411_44 {g : im_g} : im_D g 411 44 (.return_) 45 := im_D.of (by decide +kernel)
theorem D411_45 {g : im_g} : im_D g 411 45 (.aload_n 0) 46 := im_D.of (by decide +kernel)
theorem D411_46 {g : im_g} : im_D g 411 46 (.getfield 255) 49 := im_D.of (by decide +kernel)
theorem D411_49 {g : im_g} : im_D g 411 49 (.iload 6) 51 := im_D.of (by decide +kernel)
theorem D411_51 {g : im_g} : im_D g 411 51 (.aload_n 0) 52 := im_D.of (by decide +kernel)
theorem D411_52 {g : im_g} : im_D g 411 52 (.aload_n 0) 53 := im_D.of (by decide +kernel)
theorem D411_53 {g : im_g} : im_D g 411 53 (.getfield 255) 56 := im_D.of (by decide +kernel)
theorem D411_56 {g : im_g} : im_D g 411 56 (.iload 6) 58 := im_D.of (by decide +kernel)
theorem D411_58 {g : im_g} : im_D g 411 58 (.iaload) 59 := im_D.of (by decide +kernel)
theorem D411_59 {g : im_g} : im_D g 411 59 (.iload 5) 61 := im_D.of (by decide +kernel)
theorem D411_61 {g : im_g} : im_D g 411 61 (.iconst (-1)) 62 := im_D.of (by decide +kernel)
theorem D411_62 {g : im_g} : im_D g 411 62 (.invokevirtual 962) 65 := im_D.of (by decide +kernel)
theorem D411_65 {g : im_g} : im_D g 411 65 (.iastore) 66 := im_D.of (by decide +kernel)
theorem D411_66 {g : im_g} : im_D g 411 66 (.aload_n 0) 67 := im_D.of (by decide +kernel)
theorem D411_67 {g : im_g} : im_D g 411 67 (.getfield 17) 70 := im_D.of (by decide +kernel)
theorem D411_70 {g : im_g} : im_D g 411 70 (.aload_n 0) 71 := im_D.of (by decide +kernel)
theorem D411_71 {g : im_g} : im_D g 411 71 (.getfield 255) 74 := im_D.of (by decide +kernel)
theorem D411_74 {g : im_g} : im_D g 411 74 (.iload 6) 76 := im_D.of (by decide +kernel)
theorem D411_76 {g : im_g} : im_D g 411 76 (.iaload) 77 := im_D.of (by decide +kernel)
theorem D411_77 {g : im_g} : im_D g 411 77 (.iaload) 78 := im_D.of (by decide +kernel)
theorem D411_78 {g : im_g} : im_D g 411 78 (.ifCond .ne 61) 81 := im_D.of (by decide +kernel)
theorem D411_81 {g : im_g} : im_D g 411 81 (.aload_n 0) 82 := im_D.of (by decide +kernel)
theorem D411_82 {g : im_g} : im_D g 411 82 (.dup) 83 := im_D.of (by decide +kernel)
theorem D411_83 {g : im_g} : im_D g 411 83 (.getfield 965) 86 := im_D.of (by decide +kernel)
theorem D411_86 {g : im_g} : im_D g 411 86 (.iconst 1) 87 := im_D.of (by decide +kernel)
theorem D411_87 {g : im_g} : im_D g 411 87 (.isub) 88 := im_D.of (by decide +kernel)
theorem D411_88 {g : im_g} : im_D g 411 88 (.putfield 965) 91 := im_D.of (by decide +kernel)
theorem D411_91 {g : im_g} : im_D g 411 91 (.aload_n 0) 92 := im_D.of (by decide +kernel)
theorem D411_92 {g : im_g} : im_D g 411 92 (.getfield 249) 95 := im_D.of (by decide +kernel)
theorem D411_95 {g : im_g} : im_D g 411 95 (.iload 6) 97 := im_D.of (by decide +kernel)
theorem D411_97 {g : im_g} : im_D g 411 97 (.aload_n 0) 98 := im_D.of (by decide +kernel)
theorem D411_98 {g : im_g} : im_D g 411 98 (.getfield 249) 101 := im_D.of (by decide +kernel)
theorem D411_101 {g : im_g} : im_D g 411 101 (.aload_n 0) 102 := im_D.of (by decide +kernel)
theorem D411_102 {g : im_g} : im_D g 411 102 (.getfield 965) 105 := im_D.of (by decide +kernel)
theorem D411_105 {g : im_g} : im_D g 411 105 (.laload) 106 := im_D.of (by decide +kernel)
theorem D411_106 {g : im_g} : im_D g 411 106 (.lastore) 107 := im_D.of (by decide +kernel)
theorem D411_107 {g : im_g} : im_D g 411 107 (.aload_n 0) 108 := im_D.of (by decide +kernel)
theorem D411_108 {g : im_g} : im_D g 411 108 (.getfield 252) 111 := im_D.of (by decide +kernel)
theorem D411_111 {g : im_g} : im_D g 411 111 (.iload 6) 113 := im_D.of (by decide +kernel)
theorem D411_113 {g : im_g} : im_D g 411 113 (.aload_n 0) 114 := im_D.of (by decide +kernel)
theorem D411_114 {g : im_g} : im_D g 411 114 (.getfield 252) 117 := im_D.of (by decide +kernel)
theorem D411_117 {g : im_g} : im_D g 411 117 (.aload_n 0) 118 := im_D.of (by decide +kernel)
theorem D411_118 {g : im_g} : im_D g 411 118 (.getfield 965) 121 := im_D.of (by decide +kernel)
theorem D411_121 {g : im_g} : im_D g 411 121 (.laload) 122 := im_D.of (by decide +kernel)
theorem D411_122 {g : im_g} : im_D g 411 122 (.lastore) 123 := im_D.of (by decide +kernel)
theorem D411_123 {g : im_g} : im_D g 411 123 (.aload_n 0) 124 := im_D.of (by decide +kernel)
theorem D411_124 {g : im_g} : im_D g 411 124 (.getfield 255) 127 := im_D.of (by decide +kernel)
theorem D411_127 {g : im_g} : im_D g 411 127 (.iload 6) 129 := im_D.of (by decide +kernel)
theorem D411_129 {g : im_g} : im_D g 411 129 (.aload_n 0) 130 := im_D.of (by decide +kernel)
theorem D411_130 {g : im_g} : im_D g 411 130 (.getfield 255) 133 := im_D.of (by decide +kernel)
theorem D411_133 {g : im_g} : im_D g 411 133 (.aload_n 0) 134 := im_D.of (by decide +kernel)
theorem D411_134 {g : im_g} : im_D g 411 134 (.getfield 965) 137 := im_D.of (by decide +kernel)
theorem D411_137 {g : im_g} : im_D g 411 137 (.iaload) 138 := im_D.of (by decide +kernel)
theorem D411_138 {g : im_g} : im_D g 411 138 (.iastore) 139 := im_D.of (by decide +kernel)
theorem D411_139 {g : im_g} : im_D g 411 139 (.return_) 140 := im_D.of (by decide +kernel)
theorem D412_0 {g : im_g} : im_D g 412 0 (.aload_n 0) 1 := im_D.of (by decide +kernel)
theorem D412_1 {g : im_g} : im_D g 412 1 (.aload_n 0) 2 := im_D.of (by decide +kernel)
theorem D412_2 {g : im_g} : im_D g 412 2 (.getfield 94) 5 := im_D.of (by decide +kernel)
theorem D412_5 {g : im_g} : im_D g 412 5 (.iload_n 1) 6 := im_D.of (by decide +kernel)
theorem D412_6 {g : im_g} : im_D g 412 6 (.laload) 7 := im_D.of (by decide +kernel)
theorem D412_7 {g : im_g} : im_D g 412 7 (.aload_n 0) 8 := im_D.of (by decide +kernel)
theorem D412_8 {g : im_g} : im_D g 412 8 (.getfield 97) 11 := im_D.of (by decide +kernel)
theorem D412_11 {g : im_g} : im_D g 412 11 (.iload_n 1) 12 := im_D.of (by decide +kernel)
theorem D412_12 {g : im_g} : im_D g 412 12 (.laload) 13 := im_D.of (by decide +kernel)
theorem D412_13 {g : im_g} : im_D g 412 13 (.invokevirtual 880) 16 := im_D.of (by decide +kernel)
theorem D412_16 {g : im_g} : im_D g 412 16 (.istore_n 2) 17 := im_D.of (by decide +kernel)
theorem D412_17 {g : im_g} : im_D g 412 17 (.aload_n 0) 18 := im_D.of (by decide +kernel)
theorem D412_18 {g : im_g} : im_D g 412 18 (.aload_n 0) 19 := im_D.of (by decide +kernel)
theorem D412_19 {g : im_g} : im_D g 412 19 (.getfield 94) 22 := im_D.of (by decide +kernel)
theorem D412_22 {g : im_g} : im_D g 412 22 (.iload_n 1) 23 := im_D.of (by decide +kernel)
theorem D412_23 {g : im_g} : im_D g 412 23 (.laload) 24 := im_D.of (by decide +kernel)
theorem D412_24 {g : im_g} : im_D g 412 24 (.aload_n 0) 25 := im_D.of (by decide +kernel)
theorem D412_25 {g : im_g} : im_D g 412 25 (.getfield 97) 28 := im_D.of (by decide +kernel)
theorem D412_28 {g : im_g} : im_D g 412 28 (.iload_n 1) 29 := im_D.of (by decide +kernel)
theorem D412_29 {g : im_g} : im_D g 412 29 (.laload) 30 := im_D.of (by decide +kernel)
theorem D412_30 {g : im_g} : im_D g 412 30 (.invokevirtual 899) 33 := im_D.of (by decide +kernel)
theorem D412_33 {g : im_g} : im_D g 412 33 (.ifCond .eq 16) 36 := im_D.of (by decide +kernel)
theorem D412_36 {g : im_g} : im_D g 412 36 (.aload_n 0) 37 := im_D.of (by decide +kernel)
theorem D412_37 {g : im_g} : im_D g 412 37 (.getfield 204) 40 := im_D.of (by decide +kernel)
theorem D412_40 {g : im_g} : im_D g 412 40 (.iload_n 2) 41 := im_D.of (by decide +kernel)
theorem D412_41 {g : im_g} : im_D g 412 41 (.aload_n 0) 42 := im_D.of (by decide +kernel)
theorem D412_42 {g : im_g} : im_D g 412 42 (.getfield 103) 45 := im_D.of (by decide +kernel)
theorem D412_45 {g : im_g} : im_D g 412 45 (.iload_n 1) 46 := im_D.of (by decide +kernel)
theorem D412_46 {g : im_g} : im_D g 412 46 (.iaload) 47 := im_D.of (by decide +kernel)
theorem D412_47 {g : im_g} : im_D g 412 47 (.iastore) 48 := im_D.of (by decide +kernel)
theorem D412_48 {g : im_g} : im_D g 412 48 (.return_) 49 := im_D.of (by decide +kernel)
theorem D412_49 {g : im_g} : im_D g 412 49 (.aload_n 0) 50 := im_D.of (by decide +kernel)
theorem D412_50 {g : im_g} : im_D g 412 50 (.getfield 867) 53 := im_D.of (by decide +kernel)
theorem D412_53 {g : im_g} : im_D g 412 53 (.bipush 40) 55 := im_D.of (by decide +kernel)
theorem D412_55 {g : im_g} : im_D g 412 55 (.if_icmp .ne 10) 58 := im_D.of (by decide +kernel)
theorem D412_58 {g : im_g} : im_D g 412 58 (.aload_n 0) 59 := im_D.of (by decide +kernel)
theorem D412_59 {g : im_g} : im_D g 412 59 (.bipush (-9)) 61 := im_D.of (by decide +kernel)
theorem D412_61 {g : im_g} : im_D g 412 61 (.invokevirtual 959) 64 := im_D.of (by decide +kernel)
theorem D412_64 {g : im_g} : im_D g 412 64 (.return_) 65 := im_D.of (by decide +kernel)
theorem D412_65 {g : im_g} : im_D g 412 65 (.aload_n 0) 66 := im_D.of (by decide +kernel)
theorem D412_66 {g : im_g} : im_D g 412 66 (.getfield 867) 69 := im_D.of (by decide +kernel)
theorem D412_69 {g : im_g} : im_D g 412 69 (.istore_n 3) 70 := im_D.of (by decide +kernel)
theorem D412_70 {g : im_g} : im_D g 412 70 (.iload_n 3) 71 := im_D.of (by decide +kernel)
theorem D412_71 {g : im_g} : im_D g 412 71 (.iload_n 2) 72 := im_D.of (by decide +kernel)
theorem D412_72 {g : im_g} : im_D g 412 72 (.if_icmp .le 51) 75 := im_D.of (by decide +kernel)
theorem D412_75 {g : im_g} : im_D g 412 75 (.aload_n 0) 76 := im_D.of (by decide +kernel)
theorem D412_76 {g : im_g} : im_D g 412 76 (.getfield 198) 79 := im_D.of (by decide +kernel)
theorem D412_79 {g : im_g} : im_D g 412 79 (.iload_n 3) 80 := im_D.of (by decide +kernel)
theorem D412_80 {g : im_g} : im_D g 412 80 (.aload_n 0) 81 := im_D.of (by decide +kernel)
theorem D412_81 {g : im_g} : im_D g 412 81 (.getfield 198) 84 := im_D.of (by decide +kernel)
theorem D412_84 {g : im_g} : im_D g 412 84 (.iload_n 3) 85 := im_D.of (by decide +kernel)
theorem D412_85 {g : im_g} : im_D g 412 85 (.iconst 1) 86 := im_D.of (by decide +kernel)
theorem D412_86 {g : im_g} : im_D g 412 86 (.isub) 87 := im_D.of (by decide +kernel)
theorem D412_87 {g : im_g} : im_D g 412 87 (.laload) 88 := im_D.of (by decide +kernel)
theorem D412_88 {g : im_g} : im_D g 412 88 (.lastore) 89 := im_D.of (by decide +kernel)
theorem D412_89 {g : im_g} : im_D g 412 89 (.aload_n 0) 90 := im_D.of (by decide +kernel)
theorem D412_90 {g : im_g} : im_D g 412 90 (.getfield 201) 93 := im_D.of (by decide +kernel)
theorem D412_93 {g : im_g} : im_D g 412 93 (.iload_n 3) 94 := im_D.of (by decide +kernel)
theorem D412_94 {g : im_g} : im_D g 412 94 (.aload_n 0) 95 := im_D.of (by decide +kernel)
theorem D412_95 {g : im_g} : im_D g 412 95 (.getfield 201) 98 := im_D.of (by decide +kernel)
theorem D412_98 {g : im_g} : im_D g 412 98 (.iload_n 3) 99 := im_D.of (by decide +kernel)
theorem D412_99 {g : im_g} : im_D g 412 99 (.iconst 1) 100 := im_D.of (by decide +kernel)
theorem D412_100 {g : im_g} : im_D g 412 100 (.isub) 101 := im_D.of (by decide +kernel)
theorem D412_101 {g : im_g} : im_D g 412 101 (.laload) 102 := im_D.of (by decide +kernel)
theorem D412_102 {g : im_g} : im_D g 412 102 (.lastore) 103 := im_D.of (by decide +kernel)
theorem D412_103 {g : im_g} : im_D g 412 103 (.aload_n 0) 104 := im_D.of (by decide +kernel)
theorem D412_104 {g : im_g} : im_D g 412 104 (.getfield 204) 107 := im_D.of (by decide +kernel)
theorem D412_107 {g : im_g} : im_D g 412 107 (.iload_n 3) 108 := im_D.of (by decide +kernel)
theorem D412_108 {g : im_g} : im_D g 412 108 (.aload_n 0) 109 := im_D.of (by decide +kernel)
theorem D412_109 {g : im_g} : im_D g 412 109 (.getfield 204) 112 := im_D.of (by decide +kernel)
theorem D412_112 {g : im_g} : im_D g 412 112 (.iload_n 3) 113 := im_D.of (by decide +kernel)
theorem D412_113 {g : im_g} : im_D g 412 113 (.iconst 1) 114 := im_D.of (by decide +kernel)
theorem D412_114 {g : im_g} : im_D g 412 114 (.isub) 115 := im_D.of (by decide +kernel)
theorem D412_115 {g : im_g} : im_D g 412 115 (.iaload) 116 := im_D.of (by decide +kernel)
theorem D412_116 {g : im_g} : im_D g 412 116 (.iastore) 117 := im_D.of (by decide +kernel)
theorem D412_117 {g : im_g} : im_D g 412 117 (.iinc 3 (-1)) 120 := im_D.of (by decide +kernel)
theorem D412_120 {g : im_g} : im_D g 412 120 (.goto (-50)) 123 := im_D.of (by decide +kernel)
theorem D412_123 {g : im_g} : im_D g 412 123 (.aload_n 0) 124 := im_D.of (by decide +kernel)
theorem D412_124 {g : im_g} : im_D g 412 124 (.dup) 125 := im_D.of (by decide +kernel)
theorem D412_125 {g : im_g} : im_D g 412 125 (.getfield 867) 128 := im_D.of (by decide +kernel)
theorem D412_128 {g : im_g} : im_D g 412 128 (.iconst 1) 129 := im_D.of (by decide +kernel)
theorem D412_129 {g : im_g} : im_D g 412 129 (.iadd) 130 := im_D.of (by decide +kernel)
theorem D412_130 {g : im_g} : im_D g 412 130 (.putfield 867) 133 := im_D.of (by decide +kernel)
theorem D412_133 {g : im_g} : im_D g 412 133 (.aload_n 0) 134 := im_D.of (by decide +kernel)
theorem D412_134 {g : im_g} : im_D g 412 134 (.getfield 198) 137 := im_D.of (by decide +kernel)
theorem D412_137 {g : im_g} : im_D g 412 137 (.iload_n 2) 138 := im_D.of (by decide +kernel)
theorem D412_138 {g : im_g} : im_D g 412 138 (.aload_n 0) 139 := im_D.of (by decide +kernel)
theorem D412_139 {g : im_g} : im_D g 412 139 (.getfield 94) 142 := im_D.of (by decide +kernel)
theorem D412_142 {g : im_g} : im_D g 412 142 (.iload_n 1) 143 := im_D.of (by decide +kernel)
theorem D412_143 {g : im_g} : im_D g 412 143 (.laload) 144 := im_D.of (by decide +kernel)
theorem D412_144 {g : im_g} : im_D g 412 144 (.lastore) 145 := im_D.of (by decide +kernel)
theorem D412_145 {g : im_g} : im_D g 412 145 (.aload_n 0) 146 := im_D.of (by decide +kernel)
theorem D412_146 {g : im_g} : im_D g 412 146 (.getfield 201) 149 := im_D.of (by decide +kernel)
theorem D412_149 {g : im_g} : im_D g 412 149 (.iload_n 2) 150 := im_D.of (by decide +kernel)
theorem D412_150 {g : im_g} : im_D g 412 150 (.aload_n 0) 151 := im_D.of (by decide +kernel)
theorem D412_151 {g : im_g} : im_D g 412 151 (.getfield 97) 154 := im_D.of (by decide +kernel)
theorem D412_154 {g : im_g} : im_D g 412 154 (.iload_n 1) 155 := im_D.of (by decide +kernel)
theorem D412_155 {g : im_g} : im_D g 412 155 (.laload) 156 := im_D.of (by decide +kernel)
theorem D412_156 {g : im_g} : im_D g 412 156 (.lastore) 157 := im_D.of (by decide +kernel)
theorem D412_157 {g : im_g} : im_D g 412 157 (.aload_n 0) 158 := im_D.of (by decide +kernel)
theorem D412_158 {g : im_g} : im_D g 412 158 (.getfield 204) 161 := im_D.of (by decide +kernel)
theorem D412_161 {g : im_g} : im_D g 412 161 (.iload_n 2) 162 := im_D.of (by decide +kernel)
theorem D412_162 {g : im_g} : im_D g 412 162 (.aload_n 0) 163 := im_D.of (by decide +kernel)
theorem D412_163 {g : im_g} : im_D g 412 163 (.getfield 103) 166 := im_D.of (by decide +kernel)
theorem D412_166 {g : im_g} : im_D g 412 166 (.iload_n 1) 167 := im_D.of (by decide +kernel)
theorem D412_167 {g : im_g} : im_D g 412 167 (.iaload) 168 := im_D.of (by decide +kernel)
theorem D412_168 {g : im_g} : im_D g 412 168 (.iastore) 169 := im_D.of (by decide +kernel)
theorem D412_169 {g : im_g} : im_D g 412 169 (.return_) 170 := im_D.of (by decide +kernel)
theorem D413_0 {g : im_g} : im_D g 413 0 (.aload_n 0) 1 := im_D.of (by decide +kernel)
theorem D413_1 {g : im_g} : im_D g 413 1 (.iload_n 1) 2 := im_D.of (by decide +kernel)
theorem D413_2 {g : im_g} : im_D g 413 2 (.invokevirtual 1053) 5 := im_D.of (by decide +kernel)
theorem D413_5 {g : im_g} : im_D g 413 5 (.aload_n 0) 6 := im_D.of (by decide +kernel)
theorem D413_6 {g : im_g} : im_D g 413 6 (.invokevirtual 1056) 9 := im_D.of (by decide +kernel)
theorem D413_9 {g : im_g} : im_D g 413 9 (.aload_n 0) 10 := im_D.of (by decide +kernel)
theorem D413_10 {g : im_g} : im_D g 413 10 (.invokevirtual 1059) 13 := im_D.of (by decide +kernel)
theorem D413_13 {g : im_g} : im_D g 413 13 (.iconst 0) 14 := im_D.of (by decide +kernel)
theorem D413_14 {g : im_g} : im_D g 413 14 (.ireturn) 15 := im_D.of (by decide +kernel)
theorem D414_0 {g : im_g} : im_D g 414 0 (.aload_n 0) 1 := im_D.of (by decide +kernel)
theorem D414_1 {g : im_g} : im_D g 414 1 (.getfield 139) 4 := im_D.of (by decide +kernel)
theorem D414_4 {g : im_g} : im_D g 414 4 (.iload_n 1) 5 := im_D.of (by decide +kernel)
theorem D414_5 {g : im_g} : im_D g 414 5 (.aload_n 0) 6 := im_D.of (by decide +kernel)
theorem D414_6 {g : im_g} : im_D g 414 6 (.getfield 858) 9 := im_D.of (by decide +kernel)
theorem D414_9 {g : im_g} : im_D g 414 9 (.iastore) 10 := im_D.of (by decide +kernel)
theorem D414_10 {g : im_g} : im_D g 414 10 (.aload_n 0) 11 := im_D.of (by decide +kernel)
theorem D414_11 {g : im_g} : im_D g 414 11 (.getfield 142) 14 := im_D.of (by decide +kernel)
theorem D414_14 {g : im_g} : im_D g 414 14 (.iload_n 1) 15 := im_D.of (by decide +kernel)
theorem D414_15 {g : im_g} : im_D g 414 15 (.aload_n 0) 16 := im_D.of (by decide +kernel)
theorem D414_16 {g : im_g} : im_D g 414 16 (.getfield 861) 19 := im_D.of (by decide +kernel)
theorem D414_19 {g : im_g} : im_D g 414 19 (.lastore) 20 := im_D.of (by decide +kernel)
theorem D414_20 {g : im_g} : im_D g 414 20 (.aload_n 0) 21 := im_D.of (by decide +kernel)
theorem D414_21 {g : im_g} : im_D g 414 21 (.getfield 145) 24 := im_D.of (by decide +kernel)
theorem D414_24 {g : im_g} : im_D g 414 24 (.iload_n 1) 25 := im_D.of (by decide +kernel)
theorem D414_25 {g : im_g} : im_D g 414 25 (.aload_n 0) 26 := im_D.of (by decide +kernel)
theorem D414_26 {g : im_g} : im_D g 414 26 (.getfield 864) 29 := im_D.of (by decide +kernel)
theorem D414_29 {g : im_g} : im_D g 414 29 (.iastore) 30 := im_D.of (by decide +kernel)
theorem D414_30 {g : im_g} : im_D g 414 30 (.iconst 0) 31 := im_D.of (by decide +kernel)
theorem D414_31 {g : im_g} : im_D g 414 31 (.istore_n 2) 32 := im_D.of (by decide +kernel)
theorem D414_32 {g : im_g} : im_D g 414 32 (.iload_n 2) 33 := im_D.of (by decide +kernel)
theorem D414_33 {g : im_g} : im_D g 414 33 (.aload_n 0) 34 := im_D.of (by decide +kernel)
theorem D414_34 {g : im_g} : im_D g 414 34 (.getfield 864) 37 := im_D.of (by decide +kernel)
theorem D414_37 {g : im_g} : im_D g 414 37 (.if_icmp .ge 63) 40 := im_D.of (by decide +kernel)
theorem D414_40 {g : im_g} : im_D g 414 40 (.aload_n 0) 41 := im_D.of (by decide +kernel)
theorem D414_41 {g : im_g} : im_D g 414 41 (.getfield 148) 44 := im_D.of (by decide +kernel)
theorem D414_44 {g : im_g} : im_D g 414 44 (.bipush 40) 46 := im_D.of (by decide +kernel)
theorem D414_46 {g : im_g} : im_D g 414 46 (.iload_n 1) 47 := im_D.of (by decide +kernel)
theorem D414_47 {g : im_g} : im_D g 414 47 (.imul) 48 := im_D.of (by decide +kernel)
theorem D414_48 {g : im_g} : im_D g 414 48 (.iload_n 2) 49 := im_D.of (by decide +kernel)
theorem D414_49 {g : im_g} : im_D g 414 49 (.iadd) 50 := im_D.of (by decide +kernel)
theorem D414_50 {g : im_g} : im_D g 414 50 (.aload_n 0) 51 := im_D.of (by decide +kernel)
theorem D414_51 {g : im_g} : im_D g 414 51 (.getfield 189) 54 := im_D.of (by decide +kernel)
theorem D414_54 {g : im_g} : im_D g 414 54 (.iload_n 2) 55 := im_D.of (by decide +kernel)
theorem D414_55 {g : im_g} : im_D g 414 55 (.laload) 56 := im_D.of (by decide +kernel)
theorem D414_56 {g : im_g} : im_D g 414 56 (.lastore) 57 := im_D.of (by decide +kernel)
theorem D414_57 {g : im_g} : im_D g 414 57 (.aload_n 0) 58 := im_D.of (by decide +kernel)
theorem D414_58 {g : im_g} : im_D g 414 58 (.getfield 151) 61 := im_D.of (by decide +kernel)
theorem D414_61 {g : im_g} : im_D g 414 61 (.bipush 40) 63 := im_D.of (by decide +kernel)
theorem D414_63 {g : im_g} : im_D g 414 63 (.iload_n 1) 64 := im_D.of (by decide +kernel)
theorem D414_64 {g : im_g} : im_D g 414 64 (.imul) 65 := im_D.of (by decide +kernel)
theorem D414_65 {g : im_g} : im_D g 414 65 (.iload_n 2) 66 := im_D.of (by decide +kernel)
theorem D414_66 {g : im_g} : im_D g 414 66 (.iadd) 67 := im_D.of (by decide +kernel)
theorem D414_67 {g : im_g} : im_D g 414 67 (.aload_n 0) 68 := im_D.of (by decide +kernel)
theorem D414_68 {g : im_g} : im_D g 414 68 (.getfield 192) 71 := im_D.of (by decide +kernel)
theorem D414_71 {g : im_g} : im_D g 414 71 (.iload_n 2) 72 := im_D.of (by decide +kernel)
theorem D414_72 {g : im_g} : im_D g 414 72 (.laload) 73 := im_D.of (by decide +kernel)
theorem D414_73 {g : im_g} : im_D g 414 73 (.lastore) 74 := im_D.of (by decide +kernel)
theorem D414_74 {g : im_g} : im_D g 414 74 (.aload_n 0) 75 := im_D.of (by decide +kernel)
theorem D414_75 {g : im_g} : im_D g 414 75 (.aload_n 0) 76 := im_D.of (by decide +kernel)
theorem D414_76 {g : im_g} : im_D g 414 76 (.getfield 155) 79 := im_D.of (by decide +kernel)
theorem D414_79 {g : im_g} : im_D g 414 79 (.bipush 40) 81 := im_D.of (by decide +kernel)
theorem D414_81 {g : im_g} : im_D g 414 81 (.iload_n 1) 82 := im_D.of (by decide +kernel)
theorem D414_82 {g : im_g} : im_D g 414 82 (.imul) 83 := im_D.of (by decide +kernel)
theorem D414_83 {g : im_g} : im_D g 414 83 (.iload_n 2) 84 := im_D.of (by decide +kernel)
theorem D414_84 {g : im_g} : im_D g 414 84 (.iadd) 85 := im_D.of (by decide +kernel)
theorem D414_85 {g : im_g} : im_D g 414 85 (.aload_n 0) 86 := im_D.of (by decide +kernel)
theorem D414_86 {g : im_g} : im_D g 414 86 (.getfield 195) 89 := im_D.of (by decide +kernel)
theorem D414_89 {g : im_g} : im_D g 414 89 (.iload_n 2) 90 := im_D.of (by decide +kernel)
theorem D414_90 {g : im_g} : im_D g 414 90 (.iaload) 91 := im_D.of (by decide +kernel)
theorem D414_91 {g : im_g} : im_D g 414 91 (.invokevirtual 816) 94 := im_D.of (by decide +kernel)
theorem D414_94 {g : im_g} : im_D g 414 94 (.iinc 2 1) 97 := im_D.of (by decide +kernel)
theorem D414_97 {g : im_g} : im_D g 414 97 (.goto (-65)) 100 := im_D.of (by decide +kernel)
theorem D414_100 {g : im_g} : im_D g 414 100 (.aload_n 0) 101 := im_D.of (by decide +kernel)
theorem D414_101 {g : im_g} : im_D g 414 101 (.getfield 158) 104 := im_D.of (by decide +kernel)
theorem D414_104 {g : im_g} : im_D g 414 104 (.iload_n 1) 105 := im_D.of (by decide +kernel)
theorem D414_105 {g : im_g} : im_D g 414 105 (.aload_n 0) 106 := im_D.of (by decide +kernel)
theorem D414_106 {g : im_g} : im_D g 414 106 (.getfield 867) 109 := im_D.of (by decide +kernel)
theorem D414_109 {g : im_g} : im_D g 414 109 (.iastore) 110 := im_D.of (by decide +kernel)
theorem D414_110 {g : im_g} : im_D g 414 110 (.iconst 0) 111 := im_D.of (by decide +kernel)
theorem D414_111 {g : im_g} : im_D g 414 111 (.istore_n 2) 112 := im_D.of (by decide +kernel)
theorem D414_112 {g : im_g} : im_D g 414 112 (.iload_n 2) 113 := im_D.of (by decide +kernel)
theorem D414_113 {g : im_g} : im_D g 414 113 (.aload_n 0) 114 := im_D.of (by decide +kernel)
theorem D414_114 {g : im_g} : im_D g 414 114 (.getfield 867) 117 := im_D.of (by decide +kernel)
theorem D414_117 {g : im_g} : im_D g 414 117 (.if_icmp .ge 63) 120 := im_D.of (by decide +kernel)
theorem D414_120 {g : im_g} : im_D g 414 120 (.aload_n 0) 121 := im_D.of (by decide +kernel)
theorem D414_121 {g : im_g} : im_D g 414 121 (.getfield 161) 124 := im_D.of (by decide +kernel)
theorem D414_124 {g : im_g} : im_D g 414 124 (.bipush 40) 126 := im_D.of (by decide +kernel)
theorem D414_126 {g : im_g} : im_D g 414 126 (.iload_n 1) 127 := im_D.of (by decide +kernel)
theorem D414_127 {g : im_g} : im_D g 414 127 (.imul) 128 := im_D.of (by decide +kernel)
theorem D414_128 {g : im_g} : im_D g 414 128 (.iload_n 2) 129 := im_D.of (by decide +kernel)
theorem D414_129 {g : im_g} : im_D g 414 129 (.iadd) 130 := im_D.of (by decide +kernel)
theorem D414_130 {g : im_g} : im_D g 414 130 (.aload_n 0) 131 := im_D.of (by decide +kernel)
theorem D414_131 {g : im_g} : im_D g 414 131 (.getfield 198) 134 := im_D.of (by decide +kernel)
theorem D414_134 {g : im_g} : im_D g 414 134 (.iload_n 2) 135 := im_D.of (by decide +kernel)
theorem D414_135 {g : im_g} : im_D g 414 135 (.laload) 136 := im_D.of (by decide +kernel)
theorem D414_136 {g : im_g} : im_D g 414 136 (.lastore) 137 := im_D.of (by decide +kernel)
theorem D414_137 {g : im_g} : im_D g 414 137 (.aload_n 0) 138 := im_D.of (by decide +kernel)
theorem D414_138 {g : im_g} : im_D g 414 138 (.getfield 164) 141 := im_D.of (by decide +kernel)
theorem D414_141 {g : im_g} : im_D g 414 141 (.bipush 40) 143 := im_D.of (by decide +kernel)
theorem D414_143 {g : im_g} : im_D g 414 143 (.iload_n 1) 144 := im_D.of (by decide +kernel)
theorem D414_144 {g : im_g} : im_D g 414 144 (.imul) 145 := im_D.of (by decide +kernel)
theorem D414_145 {g : im_g} : im_D g 414 145 (.iload_n 2) 146 := im_D.of (by decide +kernel)
theorem D414_146 {g : im_g} : im_D g 414 146 (.iadd) 147 := im_D.of (by decide +kernel)
theorem D414_147 {g : im_g} : im_D g 414 147 (.aload_n 0) 148 := im_D.of (by decide +kernel)
theorem D414_148 {g : im_g} : im_D g 414 148 (.getfield 201) 151 := im_D.of (by decide +kernel)
theorem D414_151 {g : im_g} : im_D g 414 151 (.iload_n 2) 152 := im_D.of (by decide +kernel)
theorem D414_152 {g : im_g} : im_D g 414 152 (.laload) 153 := im_D.of (by decide +kernel)
theorem D414_153 {g : im_g} : im_D g 414 153 (.lastore) 154 := im_D.of (by decide +kernel)
theorem D414_154 {g : im_g} : im_D g 414 154 (.aload_n 0) 155 := im_D.of (by decide +kernel)
theorem D414_155 {g : im_g} : im_D g 414 155 (.aload_n 0) 156 := im_D.of (by decide +kernel)
theorem D414_156 {g : im_g} : im_D g 414 156 (.getfield 167) 159 := im_D.of (by decide +kernel)
theorem D414_159 {g : im_g} : im_D g 414 159 (.bipush 40) 161 := im_D.of (by decide +kernel)
theorem D414_161 {g : im_g} : im_D g 414 161 (.iload_n 1) 162 := im_D.of (by decide +kernel)
theorem D414_162 {g : im_g} : im_D g 414 162 (.imul) 163 := im_D.of (by decide +kernel)
theorem D414_163 {g : im_g} : im_D g 414 163 (.iload_n 2) 164 := im_D.of (by decide +kernel)
theorem D414_164 {g : im_g} : im_D g 414 164 (.iadd) 165 := im_D.of (by decide +kernel)
theorem D414_165 {g : im_g} : im_D g 414 165 (.aload_n 0) 166 := im_D.of (by decide +kernel)
theorem D414_166 {g : im_g} : im_D g 414 166 (.getfield 204) 169 := im_D.of (by decide +kernel)
theorem D414_169 {g : im_g} : im_D g 414 169 (.iload_n 2) 170 := im_D.of (by decide +kernel)
theorem D414_170 {g : im_g} : im_D g 414 170 (.iaload) 171 := im_D.of (by decide +kernel)
theorem D414_171 {g : im_g} : im_D g 414 171 (.invokevirtual 816) 174 := im_D.of (by decide +kernel)
theorem D414_174 {g : im_g} : im_D g 414 174 (.iinc 2 1) 177 := im_D.of (by decide +kernel)
theorem D414_177 {g : im_g} : im_D g 414 177 (.goto (-65)) 180 := im_D.of (by decide +kernel)
theorem D414_180 {g : im_g} : im_D g 414 180 (.aload_n 0) 181 := im_D.of (by decide +kernel)
theorem D414_181 {g : im_g} : im_D g 414 181 (.getfield 170) 184 := im_D.of (by decide +kernel)
theorem D414_184 {g : im_g} : im_D g 414 184 (.iload_n 1) 185 := im_D.of (by decide +kernel)
theorem D414_185 {g : im_g} : im_D g 414 185 (.aload_n 0) 186 := im_D.of (by decide +kernel)
theorem D414_186 {g : im_g} : im_D g 414 186 (.getfield 870) 189 := im_D.of (by decide +kernel)
theorem D414_189 {g : im_g} : im_D g 414 189 (.iastore) 190 := im_D.of (by decide +kernel)
theorem D414_190 {g : im_g} : im_D g 414 190 (.iconst 0) 191 := im_D.of (by decide +kernel)
theorem D414_191 {g : im_g} : im_D g 414 191 (.istore_n 2) 192 := im_D.of (by decide +kernel)
theorem D414_192 {g : im_g} : im_D g 414 192 (.iload_n 2) 193 := im_D.of (by decide +kernel)
theorem D414_193 {g : im_g} : im_D g 414 193 (.aload_n 0) 194 := im_D.of (by decide +kernel)
theorem D414_194 {g : im_g} : im_D g 414 194 (.getfield 870) 197 := im_D.of (by decide +kernel)
theorem D414_197 {g : im_g} : im_D g 414 197 (.if_icmp .ge 46) 200 := im_D.of (by decide +kernel)
theorem D414_200 {g : im_g} : im_D g 414 200 (.aload_n 0) 201 := im_D.of (by decide +kernel)
theorem D414_201 {g : im_g} : im_D g 414 201 (.getfield 173) 204 := im_D.of (by decide +kernel)
theorem D414_204 {g : im_g} : im_D g 414 204 (.bipush 40) 206 := im_D.of (by decide +kernel)
theorem D414_206 {g : im_g} : im_D g 414 206 (.iload_n 1) 207 := im_D.of (by decide +kernel)
theorem D414_207 {g : im_g} : im_D g 414 207 (.imul) 208 := im_D.of (by decide +kernel)
theorem D414_208 {g : im_g} : im_D g 414 208 (.iload_n 2) 209 := im_D.of (by decide +kernel)
theorem D414_209 {g : im_g} : im_D g 414 209 (.iadd) 210 := im_D.of (by decide +kernel)
theorem D414_210 {g : im_g} : im_D g 414 210 (.aload_n 0) 211 := im_D.of (by decide +kernel)
theorem D414_211 {g : im_g} : im_D g 414 211 (.getfield 207) 214 := im_D.of (by decide +kernel)
theorem D414_214 {g : im_g} : im_D g 414 214 (.iload_n 2) 215 := im_D.of (by decide +kernel)
theorem D414_215 {g : im_g} : im_D g 414 215 (.laload) 216 := im_D.of (by decide +kernel)
theorem D414_216 {g : im_g} : im_D g 414 216 (.lastore) 217 := im_D.of (by decide +kernel)
theorem D414_217 {g : im_g} : im_D g 414 217 (.aload_n 0) 218 := im_D.of (by decide +kernel)
theorem D414_218 {g : im_g} : im_D g 414 218 (.aload_n 0) 219 := im_D.of (by decide +kernel)
theorem D414_219 {g : im_g} : im_D g 414 219 (.getfield 176) 222 := im_D.of (by decide +kernel)
theorem D414_222 {g : im_g} : im_D g 414 222 (.bipush 40) 224 := im_D.of (by decide +kernel)
theorem D414_224 {g : im_g} : im_D g 414 224 (.iload_n 1) 225 := im_D.of (by decide +kernel)
theorem D414_225 {g : im_g} : im_D g 414 225 (.imul) 226 := im_D.of (by decide +kernel)
theorem D414_226 {g : im_g} : im_D g 414 226 (.iload_n 2) 227 := im_D.of (by decide +kernel)
theorem D414_227 {g : im_g} : im_D g 414 227 (.iadd) 228 := im_D.of (by decide +kernel)
theorem D414_228 {g : im_g} : im_D g 414 228 (.aload_n 0) 229 := im_D.of (by decide +kernel)
theorem D414_229 {g : im_g} : im_D g 414 229 (.getfield 210) 232 := im_D.of (by decide +kernel)
theorem D414_232 {g : im_g} : im_D g 414 232 (.iload_n 2) 233 := im_D.of (by decide +kernel)
theorem D414_233 {g : im_g} : im_D g 414 233 (.iaload) 234 := im_D.of (by decide +kernel)
theorem D414_234 {g : im_g} : im_D g 414 234 (.invokevirtual 816) 237 := im_D.of (by decide +kernel)
theorem D414_237 {g : im_g} : im_D g 414 237 (.iinc 2 1) 240 := im_D.of (by decide +kernel)
theorem D414_240 {g : im_g} : im_D g 414 240 (.goto (-48)) 243 := im_D.of (by decide +kernel)
theorem D414_243 {g : im_g} : im_D g 414 243 (.return_) 244 := im_D.of (by decide +kernel)
theorem D415_0 {g : im_g} : im_D g 415 0 (.aload_n 0) 1 := im_D.of (by decide +kernel)
theorem D415_1 {g : im_g} : im_D g 415 1 (.aload_n 0) 2 := im_D.of (by decide +kernel)
theorem D415_2 {g : im_g} : im_D g 415 2 (.getfield 965) 5 := im_D.of (by decide +kernel)
theorem D415_5 {g : im_g} : im_D g 415 5 (.putfield 1032) 8 := im_D.of (by decide +kernel)
theorem D415_8 {g : im_g} : im_D g 415 8 (.iconst 0) 9 := im_D.of (by decide +kernel)
theorem D415_9 {g : im_g} : im_D g 415 9 (.istore_n 1) 10 := im_D.of (by decide +kernel)
theorem D415_10 {g : im_g} : im_D g 415 10 (.iload_n 1) 11 := im_D.of (by decide +kernel)
theorem D415_11 {g : im_g} : im_D g 415 11 (.aload_n 0) 12 := im_D.of (by decide +kernel)
theorem D415_12 {g : im_g} : im_D g 415 12 (.getfield 965) 15 := im_D.of (by decide +kernel)
theorem D415_15 {g : im_g} : im_D g 415 15 (.if_icmp .ge 48) 18 := im_D.of (by decide +kernel)
theorem D415_18 {g : im_g} : im_D g 415 18 (.aload_n 0) 19 := im_D.of (by decide +kernel)
theorem D415_19 {g : im_g} : im_D g 415 19 (.getfield 282) 22 := im_D.of (by decide +kernel)
theorem D415_22 {g : im_g} : im_D g 415 22 (.iload_n 1) 23 := im_D.of (by decide +kernel)
theorem D415_23 {g : im_g} : im_D g 415 23 (.aload_n 0) 24 := im_D.of (by decide +kernel)
theorem D415_24 {g : im_g} : im_D g 415 24 (.getfield 249) 27 := im_D.of (by decide +kernel)
theorem D415_27 {g : im_g} : im_D g 415 27 (.iload_n 1) 28 := im_D.of (by decide +kernel)
theorem D415_28 {g : im_g} : im_D g 415 28 (.laload) 29 := im_D.of (by decide +kernel)
theorem D415_29 {g : im_g} : im_D g 415 29 (.lastore) 30 := im_D.of (by decide +kernel)
theorem D415_30 {g : im_g} : im_D g 415 30 (.aload_n 0) 31 := im_D.of (by decide +kernel)
theorem D415_31 {g : im_g} : im_D g 415 31 (.getfield 285) 34 := im_D.of (by decide +kernel)
theorem D415_34 {g : im_g} : im_D g 415 34 (.iload_n 1) 35 := im_D.of (by decide +kernel)
theorem D415_35 {g : im_g} : im_D g 415 35 (.aload_n 0) 36 := im_D.of (by decide +kernel)
theorem D415_36 {g : im_g} : im_D g 415 36 (.getfield 252) 39 := im_D.of (by decide +kernel)
theorem D415_39 {g : im_g} : im_D g 415 39 (.iload_n 1) 40 := im_D.of (by decide +kernel)
theorem D415_40 {g : im_g} : im_D g 415 40 (.laload) 41 := im_D.of (by decide +kernel)
theorem D415_41 {g : im_g} : im_D g 415 41 (.lastore) 42 := im_D.of (by decide +kernel)
theorem D415_42 {g : im_g} : im_D g 415 42 (.aload_n 0) 43 := im_D.of (by decide +kernel)
theorem D415_43 {g : im_g} : im_D g 415 43 (.aload_n 0) 44 := im_D.of (by decide +kernel)
theorem D415_44 {g : im_g} : im_D g 415 44 (.getfield 288) 47 := im_D.of (by decide +kernel)
theorem D415_47 {g : im_g} : im_D g 415 47 (.iload_n 1) 48 := im_D.of (by decide +kernel)
theorem D415_48 {g : im_g} : im_D g 415 48 (.aload_n 0) 49 := im_D.of (by decide +kernel)
theorem D415_49 {g : im_g} : im_D g 415 49 (.getfield 255) 52 := im_D.of (by decide +kernel)
theorem D415_52 {g : im_g} : im_D g 415 52 (.iload_n 1) 53 := im_D.of (by decide +kernel)
theorem D415_53 {g : im_g} : im_D g 415 53 (.iaload) 54 := im_D.of (by decide +kernel)
theorem D415_54 {g : im_g} : im_D g 415 54 (.invokevirtual 816) 57 := im_D.of (by decide +kernel)
theorem D415_57 {g : im_g} : im_D g 415 57 (.iinc 1 1) 60 := im_D.of (by decide +kernel)
theorem D415_60 {g : im_g} : im_D g 415 60 (.goto (-50)) 63 := im_D.of (by decide +kernel)
theorem D415_63 {g : im_g} : im_D g 415 63 (.return_) 64 := im_D.of (by decide +kernel)
set_option maxRecDepth 20000 in
set_option maxHeartbeats 4000000 in
theorem b_apply_0 {g : im_g} {d : Nat} {e : im_E} {M : im_M} {K : im_K} {p1 : Int} (hP : (0 ≤ (M 6952 83) ∧ (M 6952 83) < 5100) ∧ ((∀ x7 : Int, (((¬ (M 6960 (M 6952 83)) = 5) ∧ x7 = (-1)) ∨ (((M 6960 (M 6952 83)) = 5) ∧ x7 = (M 6964 (M 6952 83)))) → im_T g d 408 27 [some (.ref 6952), some (vI p1), some (vI x7)] [] e M K))) : im_T g d 408 0 [some (.ref 6952), some (vI p1), none] [] e M K := by
  refine im_ld (q := 1) (i := 0) D408_0 rfl rfl rfl ?_
  refine im_gfR (q := 4) (b := 6960) D408_1 (im_fl cn_408 fl_12_33) sf_6952 rfl rfl tR_12_21 rf_6952_21 ?_
  refine im_ld (q := 5) (i := 0) D408_4 rfl rfl rfl ?_
  refine im_rng (j := 83) sf_6952 (by decide) (by decide) (fun hr1 => ?_)
  refine im_gfI (q := 8) D408_5 (im_fl cn_408 fl_12_858) sf_6952 rfl rfl tI_12_83 rfl ?_
  obtain ⟨hg2, hP⟩ := hP
  refine im_rng (j := (M 6952 83)) sf_6960 hg2.1 hg2.2 (fun hr3 => ?_)
  refine im_iald (q := 9) D408_8 sf_6960 hg2.1 hg2.2 (by decide) rfl ?_
  refine im_iconst (q := 10) D408_9 ?_
  have hJ8 := hP
  have kJ9 : ∀ x7 : Int, (((¬ (M 6960 (M 6952 83)) = 5) ∧ x7 = (-1)) ∨ (((M 6960 (M 6952 83)) = 5) ∧ x7 = (M 6964 (M 6952 83)))) → im_T g d 408 26 [some (.ref 6952), some (vI p1), none] [vI x7] e M K := by
    intro x7 hx10
    have hP := hJ8 x7 hx10
    refine im_st1 (q := 27) (i := 2) (L' := [some (.ref 6952), some (vI p1), some (vI x7)]) D408_26 (Or.inl ⟨_, rfl, rfl⟩) (Nat.le_of_ble_eq_true rfl) rfl ?_
    exact hP.wk ⟨rfl, rfl, rfl, trivial⟩
  refine im_icmp (q := 13) (t := 25) D408_10 rfl hr3 (by decide) (fun hc4 => ?_) (fun hc4 => ?_)
  · refine im_iconst (q := 26) D408_25 ?_
    exact (kJ9 ((-1)) (Or.inl ⟨hc4, rfl⟩)).wk ⟨rfl, rfl, trivial⟩
  · refine im_ld (q := 14) (i := 0) D408_13 rfl rfl rfl ?_
    refine im_gfR (q := 17) (b := 6964) D408_14 (im_fl cn_408 fl_12_45) sf_6952 rfl rfl tR_12_25 rf_6952_25 ?_
    refine im_ld (q := 18) (i := 0) D408_17 rfl rfl rfl ?_
    refine im_gfI (q := 21) D408_18 (im_fl cn_408 fl_12_858) sf_6952 rfl rfl tI_12_83 rfl ?_
    refine im_rng (j := (M 6952 83)) sf_6964 hg2.1 hg2.2 (fun hr6 => ?_)
    refine im_iald (q := 22) D408_21 sf_6964 hg2.1 hg2.2 (by decide) rfl ?_
    refine im_goto (q := 25) (t := 26) D408_22 rfl ?_
    exact (kJ9 ((M 6964 (M 6952 83))) (Or.inr ⟨(Decidable.not_not.mp hc4), rfl⟩)).wk ⟨rfl, rfl, trivial⟩
set_option maxRecDepth 20000 in
set_option maxHeartbeats 4000000 in
theorem b_apply_27 {g : im_g} {d : Nat} {e : im_E} {M : im_M} {K : im_K} {p1 p2 : Int} (hd : 1 ≤ d) (hP : (im_i32 p2) ∧ ((((¬ p2 = (-1) → (((M 6952 101) = 0 → im_T g (d - 1) 409 0 [some (.ref 6952), some (vI p2), some (vI p1), none, none, none, none] [] e M (im_ri (fun x56 e_ M55 => e = e_ ∧ (im_i32 x56) ∧ ((¬ x56 = 0 → ((((0 ≤ (M55 6952 101) → ((¬ p2 = (-1) → (0 ≤ p2 ∧ p2 < 5100) ∧ (((M55 6960 p2) = 8 → (0 ≤ p1 ∧ p1 < 40) ∧ (0 ≤ (M55 6983 p1) ∧ (M55 6983 p1) < 1100000) ∧ (((M55 6955 (M55 6983 p1)) ≤ 0 → im_T g (d - 1) 405 0 [some (.ref 6952), some (vI 1), some (vL (M55 6961 p2)), none, some (vL (M55 6962 p2)), none, some (vL (M55 6963 p2)), none, some (vI (M55 6983 p1))] [] e M55 (im_r0 (fun  e_ M103 => e = e_ ∧ K (.inl none) e (im_u M103 6952 83 (M103 6965 p2))))))))) ∧ (p2 = (-1) → im_T g (d - 1) 368 0 [some (.ref 6952), some (vI (-5))] [] e M55 (im_r0 (fun  e_ M106 => e = e_ ∧ K (.inl none) e M106))))) ∧ ((M55 6952 101) < 0 → K (.inl none) e M55))) ∧ ((((0 ≤ (M55 6952 101)) ∧ (¬ p2 = (-1)) ∧ (¬ (M55 6960 p2) = 8)) ∨ ((0 ≤ (M55 6952 101)) ∧ (¬ p2 = (-1)) ∧ ((M55 6960 p2) = 8) ∧ (0 < (M55 6955 (M55 6983 p1))))) → (0 ≤ p2 ∧ p2 < 5100) ∧ ((¬ (M55 6960 p2) = 8 → ((¬ (M55 6960 p2) = 9 → K (.inl none) e (im_u M55 6952 83 (M55 6965 p2))) ∧ ((M55 6960 p2) = 9 → im_T g (d - 1) 412 0 [some (.ref 6952), some (vI p1), none, none] [] e M55 (im_r0 (fun  e_ M89 => e = e_ ∧ K (.inl none) e (im_u M89 6952 83 (M89 6965 p2))))))) ∧ ((M55 6960 p2) = 8 → (0 ≤ p1 ∧ p1 < 40) ∧ im_T g (d - 1) 411 0 [some (.ref 6952), some (vL (M55 6962 p2)), none, some (vL (M55 6963 p2)), none, some (vI (M55 6983 p1)), none] [] e M55 (im_r0 (fun  e_ M92 => e = e_ ∧ ((¬ (M92 6952 101) = 0 → K (.inl none) e (im_u M92 6952 83 (M92 6965 p2))) ∧ ((M92 6952 101) = 0 → im_T g (d - 1) 374 0 [some (.ref 6952), some (vL (M92 6961 p2)), none, some (vL (M92 6963 p2)), none, some (vI (M92 6983 p1)), none, none] [] e M92 (im_r0 (fun  e_ M99 => e = e_ ∧ K (.inl none) e (im_u M99 6952 83 (M99 6965 p2))))))))))))) ∧ (x56 = 0 → (0 ≤ p2 ∧ p2 < 5100) ∧ im_T g d 408 27 [some (.ref 6952), some (vI p1), some (vI (M55 6967 p2))] [] e M55 K))))))))) ∧ ((((p2 = (-1))) ∨ ((¬ p2 = (-1)) ∧ (¬ (M 6952 101) = 0))) → ((((0 ≤ (M 6952 101) → ((¬ p2 = (-1) → (0 ≤ p2 ∧ p2 < 5100) ∧ (((M 6960 p2) = 8 → (0 ≤ p1 ∧ p1 < 40) ∧ (0 ≤ (M 6983 p1) ∧ (M 6983 p1) < 1100000) ∧ (((M 6955 (M 6983 p1)) ≤ 0 → im_T g (d - 1) 405 0 [some (.ref 6952), some (vI 1), some (vL (M 6961 p2)), none, some (vL (M 6962 p2)), none, some (vL (M 6963 p2)), none, some (vI (M 6983 p1))] [] e M (im_r0 (fun  e_ M50 => e = e_ ∧ K (.inl none) e (im_u M50 6952 83 (M50 6965 p2))))))))) ∧ (p2 = (-1) → im_T g (d - 1) 368 0 [some (.ref 6952), some (vI (-5))] [] e M (im_r0 (fun  e_ M53 => e = e_ ∧ K (.inl none) e M53))))) ∧ ((M 6952 101) < 0 → K (.inl none) e M))) ∧ ((((0 ≤ (M 6952 101)) ∧ (¬ p2 = (-1)) ∧ (¬ (M 6960 p2) = 8)) ∨ ((0 ≤ (M 6952 101)) ∧ (¬ p2 = (-1)) ∧ ((M 6960 p2) = 8) ∧ (0 < (M 6955 (M 6983 p1))))) → (0 ≤ p2 ∧ p2 < 5100) ∧ ((¬ (M 6960 p2) = 8 → ((¬ (M 6960 p2) = 9 → K (.inl none) e (im_u M 6952 83 (M 6965 p2))) ∧ ((M 6960 p2) = 9 → im_T g (d - 1) 412 0 [some (.ref 6952), some (vI p1), none, none] [] e M (im_r0 (fun  e_ M36 => e = e_ ∧ K (.inl none) e (im_u M36 6952 83 (M36 6965 p2))))))) ∧ ((M 6960 p2) = 8 → (0 ≤ p1 ∧ p1 < 40) ∧ im_T g (d - 1) 411 0 [some (.ref 6952), some (vL (M 6962 p2)), none, some (vL (M 6963 p2)), none, some (vI (M 6983 p1)), none] [] e M (im_r0 (fun  e_ M39 => e = e_ ∧ ((¬ (M39 6952 101) = 0 → K (.inl none) e (im_u M39 6952 83 (M39 6965 p2))) ∧ ((M39 6952 101) = 0 → im_T g (d - 1) 374 0 [some (.ref 6952), some (vL (M39 6961 p2)), none, some (vL (M39 6963 p2)), none, some (vI (M39 6983 p1)), none, none] [] e M39 (im_r0 (fun  e_ M46 => e = e_ ∧ K (.inl none) e (im_u M46 6952 83 (M46 6965 p2))))))))))))))) : im_T g d 408 27 [some (.ref 6952), some (vI p1), some (vI p2)] [] e M K := by
  refine im_ld (q := 28) (i := 2) D408_27 rfl rfl rfl ?_
  refine im_iconst (q := 29) D408_28 ?_
  obtain ⟨hg1, hP⟩ := hP
  obtain ⟨hP, hJ5⟩ := hP
  have kJ6 : (((p2 = (-1))) ∨ ((¬ p2 = (-1)) ∧ (¬ (M 6952 101) = 0))) → im_T g d 408 58 [some (.ref 6952), some (vI p1), some (vI p2)] [] e M K := by
    intro  hx7
    have hP := hJ5  hx7
    refine im_ld (q := 59) (i := 0) D408_58 rfl rfl rfl ?_
    refine im_rng (j := 101) sf_6952 (by decide) (by decide) (fun hr8 => ?_)
    refine im_gfI (q := 62) D408_59 (im_fl cn_408 fl_12_855) sf_6952 rfl rfl tI_12_101 rfl ?_
    obtain ⟨hP, hJ23⟩ := hP
    have kJ24 : (((0 ≤ (M 6952 101)) ∧ (¬ p2 = (-1)) ∧ (¬ (M 6960 p2) = 8)) ∨ ((0 ≤ (M 6952 101)) ∧ (¬ p2 = (-1)) ∧ ((M 6960 p2) = 8) ∧ (0 < (M 6955 (M 6983 p1))))) → im_T g d 408 135 [some (.ref 6952), some (vI p1), some (vI p2)] [] e M K := by
      intro  hx25
      have hP := hJ23  hx25
      refine im_ld (q := 136) (i := 0) D408_135 rfl rfl rfl ?_
      refine im_gfR (q := 139) (b := 6960) D408_136 (im_fl cn_408 fl_12_33) sf_6952 rfl rfl tR_12_21 rf_6952_21 ?_
      refine im_ld (q := 140) (i := 2) D408_139 rfl rfl rfl ?_
      obtain ⟨hg26, hP⟩ := hP
      refine im_rng (j := p2) sf_6960 hg26.1 hg26.2 (fun hr27 => ?_)
      refine im_iald (q := 141) D408_140 sf_6960 hg26.1 hg26.2 (by decide) rfl ?_
      refine im_bipush (q := 143) D408_141 rfl ?_
      refine im_icmp (q := 146) (t := 200) D408_143 rfl hr27 (by decide) (fun hc28 => ?_) (fun hc28 => ?_)
      · replace hP := hP.1 hc28
        refine im_ld (q := 201) (i := 0) D408_200 rfl rfl rfl ?_
        refine im_gfR (q := 204) (b := 6960) D408_201 (im_fl cn_408 fl_12_33) sf_6952 rfl rfl tR_12_21 rf_6952_21 ?_
        refine im_ld (q := 205) (i := 2) D408_204 rfl rfl rfl ?_
        refine im_iald (q := 206) D408_205 sf_6960 hg26.1 hg26.2 (by decide) rfl ?_
        refine im_bipush (q := 208) D408_206 rfl ?_
        refine im_icmp (q := 211) (t := 216) D408_208 rfl hr27 (by decide) (fun hc30 => ?_) (fun hc30 => ?_)
        · replace hP := hP.1 hc30
          refine im_ld (q := 217) (i := 0) D408_216 rfl rfl rfl ?_
          refine im_ld (q := 218) (i := 0) D408_217 rfl rfl rfl ?_
          refine im_gfR (q := 221) (b := 6965) D408_218 (im_fl cn_408 fl_12_48) sf_6952 rfl rfl tR_12_26 rf_6952_26 ?_
          refine im_ld (q := 222) (i := 2) D408_221 rfl rfl rfl ?_
          refine im_rng (j := p2) sf_6965 hg26.1 hg26.2 (fun hr35 => ?_)
          refine im_iald (q := 223) D408_222 sf_6965 hg26.1 hg26.2 (by decide) rfl ?_
          refine im_pfI (q := 226) D408_223 (im_fl cn_408 fl_12_858) sf_6952 rfl rfl ti_12_83 hr35 ?_
          exact im_vret (q := 227) D408_226 rfl hP
        · replace hP := hP.2 (Decidable.not_not.mp hc30)
          refine im_ld (q := 212) (i := 0) D408_211 rfl rfl rfl ?_
          refine im_ld (q := 213) (i := 1) D408_212 rfl rfl rfl ?_
          refine im_callV (q := 216) (kd := 1) (y := 412) (n := 1) (ci := 12) (a := 6952) (vs := [.ref 6952, vI p1]) (r := []) (L2 := [some (.ref 6952), some (vI p1), none, none]) D408_213 (im_cal cn_408 cl_12_1023) (Or.inl rfl) rfl sf_6952 rfl rfl rfl rfl hd ⟨rfl, rfl, trivial⟩ ?_
          refine hP.mono ?_
          rintro _ e38 M36 ⟨rfl, rfl, hP⟩
          refine im_bkN ?_
          refine im_ld (q := 217) (i := 0) D408_216 rfl rfl rfl ?_
          refine im_ld (q := 218) (i := 0) D408_217 rfl rfl rfl ?_
          refine im_gfR (q := 221) (b := 6965) D408_218 (im_fl cn_408 fl_12_48) sf_6952 rfl rfl tR_12_26 rf_6952_26 ?_
          refine im_ld (q := 222) (i := 2) D408_221 rfl rfl rfl ?_
          refine im_rng (j := p2) sf_6965 hg26.1 hg26.2 (fun hr37 => ?_)
          refine im_iald (q := 223) D408_222 sf_6965 hg26.1 hg26.2 (by decide) rfl ?_
          refine im_pfI (q := 226) D408_223 (im_fl cn_408 fl_12_858) sf_6952 rfl rfl ti_12_83 hr37 ?_
          exact im_vret (q := 227) D408_226 rfl hP
      · replace hP := hP.2 (Decidable.not_not.mp hc28)
        refine im_ld (q := 147) (i := 0) D408_146 rfl rfl rfl ?_
        refine im_ld (q := 148) (i := 0) D408_147 rfl rfl rfl ?_
        refine im_gfR (q := 151) (b := 6962) D408_148 (im_fl cn_408 fl_12_39) sf_6952 rfl rfl tR_12_23 rf_6952_23 ?_
        refine im_ld (q := 152) (i := 2) D408_151 rfl rfl rfl ?_
        refine im_rng (j := p2) sf_6962 hg26.1 hg26.2 (fun hr31 => ?_)
        refine im_lald (q := 153) D408_152 sf_6962 hg26.1 hg26.2 (by decide) rfl ?_
        refine im_ld (q := 154) (i := 0) D408_153 rfl rfl rfl ?_
        refine im_gfR (q := 157) (b := 6963) D408_154 (im_fl cn_408 fl_12_42) sf_6952 rfl rfl tR_12_24 rf_6952_24 ?_
        refine im_ld (q := 158) (i := 2) D408_157 rfl rfl rfl ?_
        refine im_rng (j := p2) sf_6963 hg26.1 hg26.2 (fun hr32 => ?_)
        refine im_lald (q := 159) D408_158 sf_6963 hg26.1 hg26.2 (by decide) rfl ?_
        refine im_ld (q := 160) (i := 0) D408_159 rfl rfl rfl ?_
        refine im_gfR (q := 163) (b := 6983) D408_160 (im_fl cn_408 fl_12_103) sf_6952 rfl rfl tR_12_51 rf_6952_51 ?_
        refine im_ld (q := 164) (i := 1) D408_163 rfl rfl rfl ?_
        obtain ⟨hg33, hP⟩ := hP
        refine im_rng (j := p1) sf_6983 hg33.1 hg33.2 (fun hr34 => ?_)
        refine im_iald (q := 165) D408_164 sf_6983 hg33.1 hg33.2 (by decide) rfl ?_
        refine im_callV (q := 168) (kd := 1) (y := 411) (n := 3) (ci := 12) (a := 6952) (vs := [.ref 6952, vL (M 6962 p2), vL (M 6963 p2), vI (M 6983 p1)]) (r := []) (L2 := [some (.ref 6952), some (vL (M 6962 p2)), none, some (vL (M 6963 p2)), none, some (vI (M 6983 p1)), none]) D408_165 (im_cal cn_408 cl_12_1020) (Or.inl rfl) rfl sf_6952 rfl rfl rfl rfl hd ⟨rfl, rfl, rfl, rfl, trivial⟩ ?_
        refine hP.mono ?_
        rintro _ e49 M39 ⟨rfl, rfl, hP⟩
        refine im_bkN ?_
        refine im_ld (q := 169) (i := 0) D408_168 rfl rfl rfl ?_
        refine im_rng (j := 101) sf_6952 (by decide) (by decide) (fun hr40 => ?_)
        refine im_gfI (q := 172) D408_169 (im_fl cn_408 fl_12_855) sf_6952 rfl rfl tI_12_101 rfl ?_
        refine im_ifc (q := 175) (t := 216) D408_172 rfl hr40 (fun hc41 => ?_) (fun hc41 => ?_)
        · replace hP := hP.1 hc41
          refine im_ld (q := 217) (i := 0) D408_216 rfl rfl rfl ?_
          refine im_ld (q := 218) (i := 0) D408_217 rfl rfl rfl ?_
          refine im_gfR (q := 221) (b := 6965) D408_218 (im_fl cn_408 fl_12_48) sf_6952 rfl rfl tR_12_26 rf_6952_26 ?_
          refine im_ld (q := 222) (i := 2) D408_221 rfl rfl rfl ?_
          refine im_rng (j := p2) sf_6965 hg26.1 hg26.2 (fun hr45 => ?_)
          refine im_iald (q := 223) D408_222 sf_6965 hg26.1 hg26.2 (by decide) rfl ?_
          refine im_pfI (q := 226) D408_223 (im_fl cn_408 fl_12_858) sf_6952 rfl rfl ti_12_83 hr45 ?_
          exact im_vret (q := 227) D408_226 rfl hP
        · replace hP := hP.2 (Decidable.not_not.mp hc41)
          refine im_ld (q := 176) (i := 0) D408_175 rfl rfl rfl ?_
          refine im_ld (q := 177) (i := 0) D408_176 rfl rfl rfl ?_
          refine im_gfR (q := 180) (b := 6961) D408_177 (im_fl cn_408 fl_12_36) sf_6952 rfl rfl tR_12_22 rf_6952_22 ?_
          refine im_ld (q := 181) (i := 2) D408_180 rfl rfl rfl ?_
          refine im_rng (j := p2) sf_6961 hg26.1 hg26.2 (fun hr42 => ?_)
          refine im_lald (q := 182) D408_181 sf_6961 hg26.1 hg26.2 (by decide) rfl ?_
          refine im_ld (q := 183) (i := 0) D408_182 rfl rfl rfl ?_
          refine im_gfR (q := 186) (b := 6963) D408_183 (im_fl cn_408 fl_12_42) sf_6952 rfl rfl tR_12_24 rf_6952_24 ?_
          refine im_ld (q := 187) (i := 2) D408_186 rfl rfl rfl ?_
          refine im_rng (j := p2) sf_6963 hg26.1 hg26.2 (fun hr43 => ?_)
          refine im_lald (q := 188) D408_187 sf_6963 hg26.1 hg26.2 (by decide) rfl ?_
          refine im_ld (q := 189) (i := 0) D408_188 rfl rfl rfl ?_
          refine im_gfR (q := 192) (b := 6983) D408_189 (im_fl cn_408 fl_12_103) sf_6952 rfl rfl tR_12_51 rf_6952_51 ?_
          refine im_ld (q := 193) (i := 1) D408_192 rfl rfl rfl ?_
          refine im_rng (j := p1) sf_6983 hg33.1 hg33.2 (fun hr44 => ?_)
          refine im_iald (q := 194) D408_193 sf_6983 hg33.1 hg33.2 (by decide) rfl ?_
          refine im_callV (q := 197) (kd := 1) (y := 374) (n := 3) (ci := 12) (a := 6952) (vs := [.ref 6952, vL (M39 6961 p2), vL (M39 6963 p2), vI (M39 6983 p1)]) (r := []) (L2 := [some (.ref 6952), some (vL (M39 6961 p2)), none, some (vL (M39 6963 p2)), none, some (vI (M39 6983 p1)), none, none]) D408_194 (im_cal cn_408 cl_12_978) (Or.inl rfl) rfl sf_6952 rfl rfl rfl rfl hd ⟨rfl, rfl, rfl, rfl, trivial⟩ ?_
          refine hP.mono ?_
          rintro _ e48 M46 ⟨rfl, rfl, hP⟩
          refine im_bkN ?_
          refine im_goto (q := 200) (t := 216) D408_197 rfl ?_
          refine im_ld (q := 217) (i := 0) D408_216 rfl rfl rfl ?_
          refine im_ld (q := 218) (i := 0) D408_217 rfl rfl rfl ?_
          refine im_gfR (q := 221) (b := 6965) D408_218 (im_fl cn_408 fl_12_48) sf_6952 rfl rfl tR_12_26 rf_6952_26 ?_
          refine im_ld (q := 222) (i := 2) D408_221 rfl rfl rfl ?_
          refine im_rng (j := p2) sf_6965 hg26.1 hg26.2 (fun hr47 => ?_)
          refine im_iald (q := 223) D408_222 sf_6965 hg26.1 hg26.2 (by decide) rfl ?_
          refine im_pfI (q := 226) D408_223 (im_fl cn_408 fl_12_858) sf_6952 rfl rfl ti_12_83 hr47 ?_
          exact im_vret (q := 227) D408_226 rfl hP
    refine im_ifc (q := 65) (t := 66) D408_62 rfl hr8 (fun hc9 => ?_) (fun hc9 => ?_)
    · replace hP := hP.1 hc9
      refine im_ld (q := 67) (i := 2) D408_66 rfl rfl rfl ?_
      refine im_iconst (q := 68) D408_67 ?_
      refine im_icmp (q := 71) (t := 78) D408_68 rfl hg1 (by decide) (fun hc10 => ?_) (fun hc10 => ?_)
      · replace hP := hP.1 hc10
        refine im_ld (q := 79) (i := 0) D408_78 rfl rfl rfl ?_
        refine im_gfR (q := 82) (b := 6960) D408_79 (im_fl cn_408 fl_12_33) sf_6952 rfl rfl tR_12_21 rf_6952_21 ?_
        refine im_ld (q := 83) (i := 2) D408_82 rfl rfl rfl ?_
        obtain ⟨hg11, hP⟩ := hP
        refine im_rng (j := p2) sf_6960 hg11.1 hg11.2 (fun hr12 => ?_)
        refine im_iald (q := 84) D408_83 sf_6960 hg11.1 hg11.2 (by decide) rfl ?_
        refine im_bipush (q := 86) D408_84 rfl ?_
        refine im_icmp (q := 89) (t := 135) D408_86 rfl hr12 (by decide) (fun hc13 => ?_) (fun hc13 => ?_)
        · exact (kJ24  (Or.inl ⟨hc9, hc10, hc13⟩)).wk ⟨rfl, rfl, rfl, trivial⟩
        · replace hP := hP (Decidable.not_not.mp hc13)
          refine im_ld (q := 90) (i := 0) D408_89 rfl rfl rfl ?_
          refine im_gfR (q := 93) (b := 6955) D408_90 (im_fl cn_408 fl_12_17) sf_6952 rfl rfl tR_12_5 rf_6952_5 ?_
          refine im_ld (q := 94) (i := 0) D408_93 rfl rfl rfl ?_
          refine im_gfR (q := 97) (b := 6983) D408_94 (im_fl cn_408 fl_12_103) sf_6952 rfl rfl tR_12_51 rf_6952_51 ?_
          refine im_ld (q := 98) (i := 1) D408_97 rfl rfl rfl ?_
          obtain ⟨hg14, hP⟩ := hP
          refine im_rng (j := p1) sf_6983 hg14.1 hg14.2 (fun hr15 => ?_)
          refine im_iald (q := 99) D408_98 sf_6983 hg14.1 hg14.2 (by decide) rfl ?_
          obtain ⟨hg16, hP⟩ := hP
          refine im_rng (j := (M 6983 p1)) sf_6955 hg16.1 hg16.2 (fun hr17 => ?_)
          refine im_iald (q := 100) D408_99 sf_6955 hg16.1 hg16.2 (by decide) rfl ?_
          refine im_ifc (q := 103) (t := 135) D408_100 rfl hr17 (fun hc18 => ?_) (fun hc18 => ?_)
          · exact (kJ24  (Or.inr ⟨hc9, hc10, (Decidable.not_not.mp hc13), hc18⟩)).wk ⟨rfl, rfl, rfl, trivial⟩
          · replace hP := hP (Int.not_lt.mp hc18)
            refine im_ld (q := 104) (i := 0) D408_103 rfl rfl rfl ?_
            refine im_iconst (q := 105) D408_104 ?_
            refine im_ld (q := 106) (i := 0) D408_105 rfl rfl rfl ?_
            refine im_gfR (q := 109) (b := 6961) D408_106 (im_fl cn_408 fl_12_36) sf_6952 rfl rfl tR_12_22 rf_6952_22 ?_
            refine im_ld (q := 110) (i := 2) D408_109 rfl rfl rfl ?_
            refine im_rng (j := p2) sf_6961 hg11.1 hg11.2 (fun hr19 => ?_)
            refine im_lald (q := 111) D408_110 sf_6961 hg11.1 hg11.2 (by decide) rfl ?_
            refine im_ld (q := 112) (i := 0) D408_111 rfl rfl rfl ?_
            refine im_gfR (q := 115) (b := 6962) D408_112 (im_fl cn_408 fl_12_39) sf_6952 rfl rfl tR_12_23 rf_6952_23 ?_
            refine im_ld (q := 116) (i := 2) D408_115 rfl rfl rfl ?_
            refine im_rng (j := p2) sf_6962 hg11.1 hg11.2 (fun hr20 => ?_)
            refine im_lald (q := 117) D408_116 sf_6962 hg11.1 hg11.2 (by decide) rfl ?_
            refine im_ld (q := 118) (i := 0) D408_117 rfl rfl rfl ?_
            refine im_gfR (q := 121) (b := 6963) D408_118 (im_fl cn_408 fl_12_42) sf_6952 rfl rfl tR_12_24 rf_6952_24 ?_
            refine im_ld (q := 122) (i := 2) D408_121 rfl rfl rfl ?_
            refine im_rng (j := p2) sf_6963 hg11.1 hg11.2 (fun hr21 => ?_)
            refine im_lald (q := 123) D408_122 sf_6963 hg11.1 hg11.2 (by decide) rfl ?_
            refine im_ld (q := 124) (i := 0) D408_123 rfl rfl rfl ?_
            refine im_gfR (q := 127) (b := 6983) D408_124 (im_fl cn_408 fl_12_103) sf_6952 rfl rfl tR_12_51 rf_6952_51 ?_
            refine im_ld (q := 128) (i := 1) D408_127 rfl rfl rfl ?_
            refine im_iald (q := 129) D408_128 sf_6983 hg14.1 hg14.2 (by decide) rfl ?_
            refine im_callV (q := 132) (kd := 1) (y := 405) (n := 5) (ci := 12) (a := 6952) (vs := [.ref 6952, vI 1, vL (M 6961 p2), vL (M 6962 p2), vL (M 6963 p2), vI (M 6983 p1)]) (r := []) (L2 := [some (.ref 6952), some (vI 1), some (vL (M 6961 p2)), none, some (vL (M 6962 p2)), none, some (vL (M 6963 p2)), none, some (vI (M 6983 p1))]) D408_129 (im_cal cn_408 cl_12_987) (Or.inl rfl) rfl sf_6952 rfl rfl rfl rfl hd ⟨rfl, rfl, rfl, rfl, rfl, rfl, trivial⟩ ?_
            refine hP.mono ?_
            rintro _ e52 M50 ⟨rfl, rfl, hP⟩
            refine im_bkN ?_
            refine im_goto (q := 135) (t := 216) D408_132 rfl ?_
            refine im_ld (q := 217) (i := 0) D408_216 rfl rfl rfl ?_
            refine im_ld (q := 218) (i := 0) D408_217 rfl rfl rfl ?_
            refine im_gfR (q := 221) (b := 6965) D408_218 (im_fl cn_408 fl_12_48) sf_6952 rfl rfl tR_12_26 rf_6952_26 ?_
            refine im_ld (q := 222) (i := 2) D408_221 rfl rfl rfl ?_
            refine im_rng (j := p2) sf_6965 hg11.1 hg11.2 (fun hr51 => ?_)
            refine im_iald (q := 223) D408_222 sf_6965 hg11.1 hg11.2 (by decide) rfl ?_
            refine im_pfI (q := 226) D408_223 (im_fl cn_408 fl_12_858) sf_6952 rfl rfl ti_12_83 hr51 ?_
            exact im_vret (q := 227) D408_226 rfl hP
      · replace hP := hP.2 (Decidable.not_not.mp hc10)
        refine im_ld (q := 72) (i := 0) D408_71 rfl rfl rfl ?_
        refine im_bipush (q := 74) D408_72 rfl ?_
        refine im_callV (q := 77) (kd := 1) (y := 368) (n := 1) (ci := 12) (a := 6952) (vs := [.ref 6952, vI (-5)]) (r := []) (L2 := [some (.ref 6952), some (vI (-5))]) D408_74 (im_cal cn_408 cl_12_959) (Or.inl rfl) rfl sf_6952 rfl rfl rfl rfl hd ⟨rfl, rfl, trivial⟩ ?_
        refine hP.mono ?_
        rintro _ e54 M53 ⟨rfl, rfl, hP⟩
        refine im_bkN ?_
        exact im_vret (q := 78) D408_77 rfl hP
    · replace hP := hP.2 (Int.not_le.mp hc9)
      exact im_vret (q := 66) D408_65 rfl hP
  refine im_icmp (q := 32) (t := 58) D408_29 rfl hg1 (by decide) (fun hc2 => ?_) (fun hc2 => ?_)
  · exact (kJ6  (Or.inl hc2)).wk ⟨rfl, rfl, rfl, trivial⟩
  · replace hP := hP hc2
    refine im_ld (q := 33) (i := 0) D408_32 rfl rfl rfl ?_
    refine im_rng (j := 101) sf_6952 (by decide) (by decide) (fun hr3 => ?_)
    refine im_gfI (q := 36) D408_33 (im_fl cn_408 fl_12_855) sf_6952 rfl rfl tI_12_101 rfl ?_
    refine im_ifc (q := 39) (t := 58) D408_36 rfl hr3 (fun hc4 => ?_) (fun hc4 => ?_)
    · exact (kJ6  (Or.inr ⟨hc2, hc4⟩)).wk ⟨rfl, rfl, rfl, trivial⟩
    · replace hP := hP (Decidable.not_not.mp hc4)
      refine im_ld (q := 40) (i := 0) D408_39 rfl rfl rfl ?_
      refine im_ld (q := 41) (i := 2) D408_40 rfl rfl rfl ?_
      refine im_ld (q := 42) (i := 1) D408_41 rfl rfl rfl ?_
      refine im_callV (q := 45) (kd := 1) (y := 409) (n := 2) (ci := 12) (a := 6952) (vs := [.ref 6952, vI p2, vI p1]) (r := []) (L2 := [some (.ref 6952), some (vI p2), some (vI p1), none, none, none, none]) D408_42 (im_cal cn_408 cl_12_1017) (Or.inl rfl) rfl sf_6952 rfl rfl rfl rfl hd ⟨rfl, rfl, rfl, trivial⟩ ?_
      refine hP.mono ?_
      rintro _ e108 M55 ⟨x56, rfl, rfl, hP⟩
      refine im_bkS ?_
      obtain ⟨hg57, hP⟩ := hP
      refine im_ifc (q := 48) (t := 58) D408_45 rfl hg57 (fun hc58 => ?_) (fun hc58 => ?_)
      · replace hP := hP.1 hc58
        refine im_ld (q := 59) (i := 0) D408_58 rfl rfl rfl ?_
        refine im_rng (j := 101) sf_6952 (by decide) (by decide) (fun hr61 => ?_)
        refine im_gfI (q := 62) D408_59 (im_fl cn_408 fl_12_855) sf_6952 rfl rfl tI_12_101 rfl ?_
        obtain ⟨hP, hJ76⟩ := hP
        have kJ77 : (((0 ≤ (M55 6952 101)) ∧ (¬ p2 = (-1)) ∧ (¬ (M55 6960 p2) = 8)) ∨ ((0 ≤ (M55 6952 101)) ∧ (¬ p2 = (-1)) ∧ ((M55 6960 p2) = 8) ∧ (0 < (M55 6955 (M55 6983 p1))))) → im_T g d 408 135 [some (.ref 6952), some (vI p1), some (vI p2)] [] e M55 K := by
          intro  hx78
          have hP := hJ76  hx78
          refine im_ld (q := 136) (i := 0) D408_135 rfl rfl rfl ?_
          refine im_gfR (q := 139) (b := 6960) D408_136 (im_fl cn_408 fl_12_33) sf_6952 rfl rfl tR_12_21 rf_6952_21 ?_
          refine im_ld (q := 140) (i := 2) D408_139 rfl rfl rfl ?_
          obtain ⟨hg79, hP⟩ := hP
          refine im_rng (j := p2) sf_6960 hg79.1 hg79.2 (fun hr80 => ?_)
          refine im_iald (q := 141) D408_140 sf_6960 hg79.1 hg79.2 (by decide) rfl ?_
          refine im_bipush (q := 143) D408_141 rfl ?_
          refine im_icmp (q := 146) (t := 200) D408_143 rfl hr80 (by decide) (fun hc81 => ?_) (fun hc81 => ?_)
          · replace hP := hP.1 hc81
            refine im_ld (q := 201) (i := 0) D408_200 rfl rfl rfl ?_
            refine im_gfR (q := 204) (b := 6960) D408_201 (im_fl cn_408 fl_12_33) sf_6952 rfl rfl tR_12_21 rf_6952_21 ?_
            refine im_ld (q := 205) (i := 2) D408_204 rfl rfl rfl ?_
            refine im_iald (q := 206) D408_205 sf_6960 hg79.1 hg79.2 (by decide) rfl ?_
            refine im_bipush (q := 208) D408_206 rfl ?_
            refine im_icmp (q := 211) (t := 216) D408_208 rfl hr80 (by decide) (fun hc83 => ?_) (fun hc83 => ?_)
            · replace hP := hP.1 hc83
              refine im_ld (q := 217) (i := 0) D408_216 rfl rfl rfl ?_
              refine im_ld (q := 218) (i := 0) D408_217 rfl rfl rfl ?_
              refine im_gfR (q := 221) (b := 6965) D408_218 (im_fl cn_408 fl_12_48) sf_6952 rfl rfl tR_12_26 rf_6952_26 ?_
              refine im_ld (q := 222) (i := 2) D408_221 rfl rfl rfl ?_
              refine im_rng (j := p2) sf_6965 hg79.1 hg79.2 (fun hr88 => ?_)
              refine im_iald (q := 223) D408_222 sf_6965 hg79.1 hg79.2 (by decide) rfl ?_
              refine im_pfI (q := 226) D408_223 (im_fl cn_408 fl_12_858) sf_6952 rfl rfl ti_12_83 hr88 ?_
              exact im_vret (q := 227) D408_226 rfl hP
            · replace hP := hP.2 (Decidable.not_not.mp hc83)
              refine im_ld (q := 212) (i := 0) D408_211 rfl rfl rfl ?_
              refine im_ld (q := 213) (i := 1) D408_212 rfl rfl rfl ?_
              refine im_callV (q := 216) (kd := 1) (y := 412) (n := 1) (ci := 12) (a := 6952) (vs := [.ref 6952, vI p1]) (r := []) (L2 := [some (.ref 6952), some (vI p1), none, none]) D408_213 (im_cal cn_408 cl_12_1023) (Or.inl rfl) rfl sf_6952 rfl rfl rfl rfl hd ⟨rfl, rfl, trivial⟩ ?_
              refine hP.mono ?_
              rintro _ e91 M89 ⟨rfl, rfl, hP⟩
              refine im_bkN ?_
              refine im_ld (q := 217) (i := 0) D408_216 rfl rfl rfl ?_
              refine im_ld (q := 218) (i := 0) D408_217 rfl rfl rfl ?_
              refine im_gfR (q := 221) (b := 6965) D408_218 (im_fl cn_408 fl_12_48) sf_6952 rfl rfl tR_12_26 rf_6952_26 ?_
              refine im_ld (q := 222) (i := 2) D408_221 rfl rfl rfl ?_
              refine im_rng (j := p2) sf_6965 hg79.1 hg79.2 (fun hr90 => ?_)
              refine im_iald (q := 223) D408_222 sf_6965 hg79.1 hg79.2 (by decide) rfl ?_
              refine im_pfI (q := 226) D408_223 (im_fl cn_408 fl_12_858) sf_6952 rfl rfl ti_12_83 hr90 ?_
              exact im_vret (q := 227) D408_226 rfl hP
          · replace hP := hP.2 (Decidable.not_not.mp hc81)
            refine im_ld (q := 147) (i := 0) D408_146 rfl rfl rfl ?_
            refine im_ld (q := 148) (i := 0) D408_147 rfl rfl rfl ?_
            refine im_gfR (q := 151) (b := 6962) D408_148 (im_fl cn_408 fl_12_39) sf_6952 rfl rfl tR_12_23 rf_6952_23 ?_
            refine im_ld (q := 152) (i := 2) D408_151 rfl rfl rfl ?_
            refine im_rng (j := p2) sf_6962 hg79.1 hg79.2 (fun hr84 => ?_)
            refine im_lald (q := 153) D408_152 sf_6962 hg79.1 hg79.2 (by decide) rfl ?_
            refine im_ld (q := 154) (i := 0) D408_153 rfl rfl rfl ?_
            refine im_gfR (q := 157) (b := 6963) D408_154 (im_fl cn_408 fl_12_42) sf_6952 rfl rfl tR_12_24 rf_6952_24 ?_
            refine im_ld (q := 158) (i := 2) D408_157 rfl rfl rfl ?_
            refine im_rng (j := p2) sf_6963 hg79.1 hg79.2 (fun hr85 => ?_)
            refine im_lald (q := 159) D408_158 sf_6963 hg79.1 hg79.2 (by decide) rfl ?_
            refine im_ld (q := 160) (i := 0) D408_159 rfl rfl rfl ?_
            refine im_gfR (q := 163) (b := 6983) D408_160 (im_fl cn_408 fl_12_103) sf_6952 rfl rfl tR_12_51 rf_6952_51 ?_
            refine im_ld (q := 164) (i := 1) D408_163 rfl rfl rfl ?_
            obtain ⟨hg86, hP⟩ := hP
            refine im_rng (j := p1) sf_6983 hg86.1 hg86.2 (fun hr87 => ?_)
            refine im_iald (q := 165) D408_164 sf_6983 hg86.1 hg86.2 (by decide) rfl ?_
            refine im_callV (q := 168) (kd := 1) (y := 411) (n := 3) (ci := 12) (a := 6952) (vs := [.ref 6952, vL (M55 6962 p2), vL (M55 6963 p2), vI (M55 6983 p1)]) (r := []) (L2 := [some (.ref 6952), some (vL (M55 6962 p2)), none, some (vL (M55 6963 p2)), none, some (vI (M55 6983 p1)), none]) D408_165 (im_cal cn_408 cl_12_1020) (Or.inl rfl) rfl sf_6952 rfl rfl rfl rfl hd ⟨rfl, rfl, rfl, rfl, trivial⟩ ?_
            refine hP.mono ?_
            rintro _ e102 M92 ⟨rfl, rfl, hP⟩
            refine im_bkN ?_
            refine im_ld (q := 169) (i := 0) D408_168 rfl rfl rfl ?_
            refine im_rng (j := 101) sf_6952 (by decide) (by decide) (fun hr93 => ?_)
            refine im_gfI (q := 172) D408_169 (im_fl cn_408 fl_12_855) sf_6952 rfl rfl tI_12_101 rfl ?_
            refine im_ifc (q := 175) (t := 216) D408_172 rfl hr93 (fun hc94 => ?_) (fun hc94 => ?_)
            · replace hP := hP.1 hc94
              refine im_ld (q := 217) (i := 0) D408_216 rfl rfl rfl ?_
              refine im_ld (q := 218) (i := 0) D408_217 rfl rfl rfl ?_
              refine im_gfR (q := 221) (b := 6965) D408_218 (im_fl cn_408 fl_12_48) sf_6952 rfl rfl tR_12_26 rf_6952_26 ?_
              refine im_ld (q := 222) (i := 2) D408_221 rfl rfl rfl ?_
              refine im_rng (j := p2) sf_6965 hg79.1 hg79.2 (fun hr98 => ?_)
              refine im_iald (q := 223) D408_222 sf_6965 hg79.1 hg79.2 (by decide) rfl ?_
              refine im_pfI (q := 226) D408_223 (im_fl cn_408 fl_12_858) sf_6952 rfl rfl ti_12_83 hr98 ?_
              exact im_vret (q := 227) D408_226 rfl hP
            · replace hP := hP.2 (Decidable.not_not.mp hc94)
              refine im_ld (q := 176) (i := 0) D408_175 rfl rfl rfl ?_
              refine im_ld (q := 177) (i := 0) D408_176 rfl rfl rfl ?_
              refine im_gfR (q := 180) (b := 6961) D408_177 (im_fl cn_408 fl_12_36) sf_6952 rfl rfl tR_12_22 rf_6952_22 ?_
              refine im_ld (q := 181) (i := 2) D408_180 rfl rfl rfl ?_
              refine im_rng (j := p2) sf_6961 hg79.1 hg79.2 (fun hr95 => ?_)
              refine im_lald (q := 182) D408_181 sf_6961 hg79.1 hg79.2 (by decide) rfl ?_
              refine im_ld (q := 183) (i := 0) D408_182 rfl rfl rfl ?_
              refine im_gfR (q := 186) (b := 6963) D408_183 (im_fl cn_408 fl_12_42) sf_6952 rfl rfl tR_12_24 rf_6952_24 ?_
              refine im_ld (q := 187) (i := 2) D408_186 rfl rfl rfl ?_
              refine im_rng (j := p2) sf_6963 hg79.1 hg79.2 (fun hr96 => ?_)
              refine im_lald (q := 188) D408_187 sf_6963 hg79.1 hg79.2 (by decide) rfl ?_
              refine im_ld (q := 189) (i := 0) D408_188 rfl rfl rfl ?_
              refine im_gfR (q := 192) (b := 6983) D408_189 (im_fl cn_408 fl_12_103) sf_6952 rfl rfl tR_12_51 rf_6952_51 ?_
              refine im_ld (q := 193) (i := 1) D408_192 rfl rfl rfl ?_
              refine im_rng (j := p1) sf_6983 hg86.1 hg86.2 (fun hr97 => ?_)
              refine im_iald (q := 194) D408_193 sf_6983 hg86.1 hg86.2 (by decide) rfl ?_
              refine im_callV (q := 197) (kd := 1) (y := 374) (n := 3) (ci := 12) (a := 6952) (vs := [.ref 6952, vL (M92 6961 p2), vL (M92 6963 p2), vI (M92 6983 p1)]) (r := []) (L2 := [some (.ref 6952), some (vL (M92 6961 p2)), none, some (vL (M92 6963 p2)), none, some (vI (M92 6983 p1)), none, none]) D408_194 (im_cal cn_408 cl_12_978) (Or.inl rfl) rfl sf_6952 rfl rfl rfl rfl hd ⟨rfl, rfl, rfl, rfl, trivial⟩ ?_
              refine hP.mono ?_
              rintro _ e101 M99 ⟨rfl, rfl, hP⟩
              refine im_bkN ?_
              refine im_goto (q := 200) (t := 216) D408_197 rfl ?_
              refine im_ld (q := 217) (i := 0) D408_216 rfl rfl rfl ?_
              refine im_ld (q := 218) (i := 0) D408_217 rfl rfl rfl ?_
              refine im_gfR (q := 221) (b := 6965) D408_218 (im_fl cn_408 fl_12_48) sf_6952 rfl rfl tR_12_26 rf_6952_26 ?_
              refine im_ld (q := 222) (i := 2) D408_221 rfl rfl rfl ?_
              refine im_rng (j := p2) sf_6965 hg79.1 hg79.2 (fun hr100 => ?_)
              refine im_iald (q := 223) D408_222 sf_6965 hg79.1 hg79.2 (by decide) rfl ?_
              refine im_pfI (q := 226) D408_223 (im_fl cn_408 fl_12_858) sf_6952 rfl rfl ti_12_83 hr100 ?_
              exact im_vret (q := 227) D408_226 rfl hP
        refine im_ifc (q := 65) (t := 66) D408_62 rfl hr61 (fun hc62 => ?_) (fun hc62 => ?_)
        · replace hP := hP.1 hc62
          refine im_ld (q := 67) (i := 2) D408_66 rfl rfl rfl ?_
          refine im_iconst (q := 68) D408_67 ?_
          refine im_icmp (q := 71) (t := 78) D408_68 rfl hg1 (by decide) (fun hc63 => ?_) (fun hc63 => ?_)
          · replace hP := hP.1 hc63
            refine im_ld (q := 79) (i := 0) D408_78 rfl rfl rfl ?_
            refine im_gfR (q := 82) (b := 6960) D408_79 (im_fl cn_408 fl_12_33) sf_6952 rfl rfl tR_12_21 rf_6952_21 ?_
            refine im_ld (q := 83) (i := 2) D408_82 rfl rfl rfl ?_
            obtain ⟨hg64, hP⟩ := hP
            refine im_rng (j := p2) sf_6960 hg64.1 hg64.2 (fun hr65 => ?_)
            refine im_iald (q := 84) D408_83 sf_6960 hg64.1 hg64.2 (by decide) rfl ?_
            refine im_bipush (q := 86) D408_84 rfl ?_
            refine im_icmp (q := 89) (t := 135) D408_86 rfl hr65 (by decide) (fun hc66 => ?_) (fun hc66 => ?_)
            · exact (kJ77  (Or.inl ⟨hc62, hc63, hc66⟩)).wk ⟨rfl, rfl, rfl, trivial⟩
            · replace hP := hP (Decidable.not_not.mp hc66)
              refine im_ld (q := 90) (i := 0) D408_89 rfl rfl rfl ?_
              refine im_gfR (q := 93) (b := 6955) D408_90 (im_fl cn_408 fl_12_17) sf_6952 rfl rfl tR_12_5 rf_6952_5 ?_
              refine im_ld (q := 94) (i := 0) D408_93 rfl rfl rfl ?_
              refine im_gfR (q := 97) (b := 6983) D408_94 (im_fl cn_408 fl_12_103) sf_6952 rfl rfl tR_12_51 rf_6952_51 ?_
              refine im_ld (q := 98) (i := 1) D408_97 rfl rfl rfl ?_
              obtain ⟨hg67, hP⟩ := hP
              refine im_rng (j := p1) sf_6983 hg67.1 hg67.2 (fun hr68 => ?_)
              refine im_iald (q := 99) D408_98 sf_6983 hg67.1 hg67.2 (by decide) rfl ?_
              obtain ⟨hg69, hP⟩ := hP
              refine im_rng (j := (M55 6983 p1)) sf_6955 hg69.1 hg69.2 (fun hr70 => ?_)
              refine im_iald (q := 100) D408_99 sf_6955 hg69.1 hg69.2 (by decide) rfl ?_
              refine im_ifc (q := 103) (t := 135) D408_100 rfl hr70 (fun hc71 => ?_) (fun hc71 => ?_)
              · exact (kJ77  (Or.inr ⟨hc62, hc63, (Decidable.not_not.mp hc66), hc71⟩)).wk ⟨rfl, rfl, rfl, trivial⟩
              · replace hP := hP (Int.not_lt.mp hc71)
                refine im_ld (q := 104) (i := 0) D408_103 rfl rfl rfl ?_
                refine im_iconst (q := 105) D408_104 ?_
                refine im_ld (q := 106) (i := 0) D408_105 rfl rfl rfl ?_
                refine im_gfR (q := 109) (b := 6961) D408_106 (im_fl cn_408 fl_12_36) sf_6952 rfl rfl tR_12_22 rf_6952_22 ?_
                refine im_ld (q := 110) (i := 2) D408_109 rfl rfl rfl ?_
                refine im_rng (j := p2) sf_6961 hg64.1 hg64.2 (fun hr72 => ?_)
                refine im_lald (q := 111) D408_110 sf_6961 hg64.1 hg64.2 (by decide) rfl ?_
                refine im_ld (q := 112) (i := 0) D408_111 rfl rfl rfl ?_
                refine im_gfR (q := 115) (b := 6962) D408_112 (im_fl cn_408 fl_12_39) sf_6952 rfl rfl tR_12_23 rf_6952_23 ?_
                refine im_ld (q := 116) (i := 2) D408_115 rfl rfl rfl ?_
                refine im_rng (j := p2) sf_6962 hg64.1 hg64.2 (fun hr73 => ?_)
                refine im_lald (q := 117) D408_116 sf_6962 hg64.1 hg64.2 (by decide) rfl ?_
                refine im_ld (q := 118) (i := 0) D408_117 rfl rfl rfl ?_
                refine im_gfR (q := 121) (b := 6963) D408_118 (im_fl cn_408 fl_12_42) sf_6952 rfl rfl tR_12_24 rf_6952_24 ?_
                refine im_ld (q := 122) (i := 2) D408_121 rfl rfl rfl ?_
                refine im_rng (j := p2) sf_6963 hg64.1 hg64.2 (fun hr74 => ?_)
                refine im_lald (q := 123) D408_122 sf_6963 hg64.1 hg64.2 (by decide) rfl ?_
                refine im_ld (q := 124) (i := 0) D408_123 rfl rfl rfl ?_
                refine im_gfR (q := 127) (b := 6983) D408_124 (im_fl cn_408 fl_12_103) sf_6952 rfl rfl tR_12_51 rf_6952_51 ?_
                refine im_ld (q := 128) (i := 1) D408_127 rfl rfl rfl ?_
                refine im_iald (q := 129) D408_128 sf_6983 hg67.1 hg67.2 (by decide) rfl ?_
                refine im_callV (q := 132) (kd := 1) (y := 405) (n := 5) (ci := 12) (a := 6952) (vs := [.ref 6952, vI 1, vL (M55 6961 p2), vL (M55 6962 p2), vL (M55 6963 p2), vI (M55 6983 p1)]) (r := []) (L2 := [some (.ref 6952), some (vI 1), some (vL (M55 6961 p2)), none, some (vL (M55 6962 p2)), none, some (vL (M55 6963 p2)), none, some (vI (M55 6983 p1))]) D408_129 (im_cal cn_408 cl_12_987) (Or.inl rfl) rfl sf_6952 rfl rfl rfl rfl hd ⟨rfl, rfl, rfl, rfl, rfl, rfl, trivial⟩ ?_
                refine hP.mono ?_
                rintro _ e105 M103 ⟨rfl, rfl, hP⟩
                refine im_bkN ?_
                refine im_goto (q := 135) (t := 216) D408_132 rfl ?_
                refine im_ld (q := 217) (i := 0) D408_216 rfl rfl rfl ?_
                refine im_ld (q := 218) (i := 0) D408_217 rfl rfl rfl ?_
                refine im_gfR (q := 221) (b := 6965) D408_218 (im_fl cn_408 fl_12_48) sf_6952 rfl rfl tR_12_26 rf_6952_26 ?_
                refine im_ld (q := 222) (i := 2) D408_221 rfl rfl rfl ?_
                refine im_rng (j := p2) sf_6965 hg64.1 hg64.2 (fun hr104 => ?_)
                refine im_iald (q := 223) D408_222 sf_6965 hg64.1 hg64.2 (by decide) rfl ?_
                refine im_pfI (q := 226) D408_223 (im_fl cn_408 fl_12_858) sf_6952 rfl rfl ti_12_83 hr104 ?_
                exact im_vret (q := 227) D408_226 rfl hP
          · replace hP := hP.2 (Decidable.not_not.mp hc63)
            refine im_ld (q := 72) (i := 0) D408_71 rfl rfl rfl ?_
            refine im_bipush (q := 74) D408_72 rfl ?_
            refine im_callV (q := 77) (kd := 1) (y := 368) (n := 1) (ci := 12) (a := 6952) (vs := [.ref 6952, vI (-5)]) (r := []) (L2 := [some (.ref 6952), some (vI (-5))]) D408_74 (im_cal cn_408 cl_12_959) (Or.inl rfl) rfl sf_6952 rfl rfl rfl rfl hd ⟨rfl, rfl, trivial⟩ ?_
            refine hP.mono ?_
            rintro _ e107 M106 ⟨rfl, rfl, hP⟩
            refine im_bkN ?_
            exact im_vret (q := 78) D408_77 rfl hP
        · replace hP := hP.2 (Int.not_le.mp hc62)
          exact im_vret (q := 66) D408_65 rfl hP
      · replace hP := hP.2 (Decidable.not_not.mp hc58)
        refine im_ld (q := 49) (i := 0) D408_48 rfl rfl rfl ?_
        refine im_gfR (q := 52) (b := 6967) D408_49 (im_fl cn_408 fl_12_54) sf_6952 rfl rfl tR_12_28 rf_6952_28 ?_
        refine im_ld (q := 53) (i := 2) D408_52 rfl rfl rfl ?_
        obtain ⟨hg59, hP⟩ := hP
        refine im_rng (j := p2) sf_6967 hg59.1 hg59.2 (fun hr60 => ?_)
        refine im_iald (q := 54) D408_53 sf_6967 hg59.1 hg59.2 (by decide) rfl ?_
        refine im_st1 (q := 55) (i := 2) (L' := [some (.ref 6952), some (vI p1), some (vI (M55 6967 p2))]) D408_54 (Or.inl ⟨_, rfl, rfl⟩) (Nat.le_of_ble_eq_true rfl) rfl ?_
        refine im_goto (q := 58) (t := 27) D408_55 rfl ?_
        exact hP.wk ⟨rfl, rfl, rfl, trivial⟩
set_option maxRecDepth 20000 in
set_option maxHeartbeats 4000000 in
theorem b_takes_0 {g : im_g} {d : Nat} {e : im_E} {M : im_M} {K : im_K} {p1 p2 : Int} (hd : 1 ≤ d) (hP : (0 ≤ p1 ∧ p1 < 5100) ∧ (0 ≤ p2 ∧ p2 < 40) ∧ (((((M 6960 p1) = (M 6979 p2) → ((¬ (M 6960 p1) = 10 → (((M 6961 p1) = (M 6980 p2) → (((M 6962 p1) = (M 6981 p2) → ((¬ (M 6960 p1) = 9 → (((M 6963 p1) = (M 6982 p2) → im_T g (d - 1) 378 0 [some (.ref 6952), some (vI (M 6964 p1)), none] [] e M (im_ri (fun x33 e_ M32 => e = e_ ∧ ((¬ (M32 6952 101) = 0 → K (.inl (some (vI 0))) e (im_u M32 6952 7 (M 6952 7))) ∧ ((M32 6952 101) = 0 → im_T g (d - 1) 302 0 [some (.ref 6952), some (vI x33), some (vI (M32 6983 p2))] [] e M32 (im_ri (fun x38 e_ M37 => e = e_ ∧ (im_i32 x38) ∧ ((¬ x38 = 0 → K (.inl (some (vI 0))) e (im_u M37 6952 7 (M 6952 7))) ∧ (x38 = 0 → K (.inl (some (vI 1))) e (im_u M37 6952 7 (M 6952 7))))))))))) ∧ (¬ (M 6963 p1) = (M 6982 p2) → K (.inl (some (vI 0))) e M))) ∧ ((M 6960 p1) = 9 → im_T g (d - 1) 410 0 [some (.ref 6952), some (vI p1), some (vI (M 6983 p2)), none, none] [] e M (im_ri (fun x44 e_ M43 => e = e_ ∧ (im_i32 x44) ∧ ((x44 = 0 → K (.inl (some (vI 0))) e M43) ∧ (¬ x44 = 0 → K (.inl (some (vI 1))) e M43))))))))))) ∧ ((M 6960 p1) = 10 → im_T g (d - 1) 378 0 [some (.ref 6952), some (vI (M 6964 p1)), none] [] e M (im_ri (fun x50 e_ M49 => e = e_ ∧ (im_i32 x50) ∧ ((∀ x53 : Int, (((¬ x50 = 1) ∧ x53 = 0) ∨ ((x50 = 1) ∧ x53 = 1)) → ((((¬ x53 = 0 → (((M49 6952 101) = 0 → K (.inl (some (vI 1))) e (im_u M49 6952 7 (M 6952 7))))))) ∧ ((((x53 = 0)) ∨ ((¬ x53 = 0) ∧ (¬ (M49 6952 101) = 0))) → K (.inl (some (vI 0))) e (im_u M49 6952 7 (M 6952 7))))))))))) ∧ (¬ (M 6960 p1) = (M 6979 p2) → K (.inl (some (vI 0))) e M))) ∧ (((((M 6960 p1) = (M 6979 p2)) ∧ (¬ (M 6960 p1) = 10) ∧ (¬ (M 6961 p1) = (M 6980 p2))) ∨ (((M 6960 p1) = (M 6979 p2)) ∧ (¬ (M 6960 p1) = 10) ∧ ((M 6961 p1) = (M 6980 p2)) ∧ (¬ (M 6962 p1) = (M 6981 p2)))) → ((¬ (M 6960 p1) = 9 → K (.inl (some (vI 0))) e M) ∧ ((M 6960 p1) = 9 → K (.inl (some (vI 0))) e M))))) : im_T g d 409 0 [some (.ref 6952), some (vI p1), some (vI p2), none, none, none, none] [] e M K := by
  refine im_ld (q := 1) (i := 0) D409_0 rfl rfl rfl ?_
  refine im_gfR (q := 4) (b := 6960) D409_1 (im_fl cn_409 fl_12_33) sf_6952 rfl rfl tR_12_21 rf_6952_21 ?_
  refine im_ld (q := 5) (i := 1) D409_4 rfl rfl rfl ?_
  obtain ⟨hg1, hP⟩ := hP
  refine im_rng (j := p1) sf_6960 hg1.1 hg1.2 (fun hr2 => ?_)
  refine im_iald (q := 6) D409_5 sf_6960 hg1.1 hg1.2 (by decide) rfl ?_
  refine im_ld (q := 7) (i := 0) D409_6 rfl rfl rfl ?_
  refine im_gfR (q := 10) (b := 6979) D409_7 (im_fl cn_409 fl_12_91) sf_6952 rfl rfl tR_12_47 rf_6952_47 ?_
  refine im_ld (q := 11) (i := 2) D409_10 rfl rfl rfl ?_
  obtain ⟨hg3, hP⟩ := hP
  refine im_rng (j := p2) sf_6979 hg3.1 hg3.2 (fun hr4 => ?_)
  refine im_iald (q := 12) D409_11 sf_6979 hg3.1 hg3.2 (by decide) rfl ?_
  obtain ⟨hP, hJ15⟩ := hP
  have kJ16 : ((((M 6960 p1) = (M 6979 p2)) ∧ (¬ (M 6960 p1) = 10) ∧ (¬ (M 6961 p1) = (M 6980 p2))) ∨ (((M 6960 p1) = (M 6979 p2)) ∧ (¬ (M 6960 p1) = 10) ∧ ((M 6961 p1) = (M 6980 p2)) ∧ (¬ (M 6962 p1) = (M 6981 p2)))) → im_T g d 409 113 [some (.ref 6952), some (vI p1), some (vI p2), none, none, none, none] [] e M K := by
    intro  hx17
    have hP := hJ15  hx17
    refine im_iconst (q := 114) D409_113 ?_
    refine im_st1 (q := 115) (i := 3) (L' := [some (.ref 6952), some (vI p1), some (vI p2), some (vI 0), none, none, none]) D409_114 (Or.inl ⟨_, rfl, rfl⟩) (Nat.le_of_ble_eq_true rfl) rfl ?_
    refine im_ld (q := 116) (i := 0) D409_115 rfl rfl rfl ?_
    refine im_gfR (q := 119) (b := 6960) D409_116 (im_fl cn_409 fl_12_33) sf_6952 rfl rfl tR_12_21 rf_6952_21 ?_
    refine im_ld (q := 120) (i := 1) D409_119 rfl rfl rfl ?_
    refine im_iald (q := 121) D409_120 sf_6960 hg1.1 hg1.2 (by decide) rfl ?_
    refine im_bipush (q := 123) D409_121 rfl ?_
    refine im_icmp (q := 126) (t := 150) D409_123 rfl hr2 (by decide) (fun hc19 => ?_) (fun hc19 => ?_)
    · replace hP := hP.1 hc19
      refine im_ld (q := 151) (i := 3) D409_150 rfl rfl rfl ?_
      refine im_ifc (q := 154) (t := 170) D409_151 rfl (by decide) (fun _ => ?_) (fun hc => absurd (show (0 : Int) = 0 by decide) hc)
      refine im_iconst (q := 171) D409_170 ?_
      exact im_zret (q := 172) D409_171 rfl (by decide) hP
    · replace hP := hP.2 (Decidable.not_not.mp hc19)
      refine im_ld (q := 127) (i := 3) D409_126 rfl rfl rfl ?_
      refine im_ifc (q := 130) (t := 148) D409_127 rfl (by decide) (fun _ => ?_) (fun hc => absurd (show (0 : Int) = 0 by decide) hc)
      refine im_iconst (q := 149) D409_148 ?_
      exact im_zret (q := 150) D409_149 rfl (by decide) hP
  refine im_icmp (q := 15) (t := 17) D409_12 rfl hr2 hr4 (fun hc5 => ?_) (fun hc5 => ?_)
  · replace hP := hP.1 hc5
    refine im_ld (q := 18) (i := 0) D409_17 rfl rfl rfl ?_
    refine im_gfR (q := 21) (b := 6960) D409_18 (im_fl cn_409 fl_12_33) sf_6952 rfl rfl tR_12_21 rf_6952_21 ?_
    refine im_ld (q := 22) (i := 1) D409_21 rfl rfl rfl ?_
    refine im_iald (q := 23) D409_22 sf_6960 hg1.1 hg1.2 (by decide) rfl ?_
    refine im_bipush (q := 25) D409_23 rfl ?_
    refine im_icmp (q := 28) (t := 77) D409_25 rfl hr2 (by decide) (fun hc7 => ?_) (fun hc7 => ?_)
    · replace hP := hP.1 hc7
      refine im_ld (q := 78) (i := 0) D409_77 rfl rfl rfl ?_
      refine im_gfR (q := 81) (b := 6961) D409_78 (im_fl cn_409 fl_12_36) sf_6952 rfl rfl tR_12_22 rf_6952_22 ?_
      refine im_ld (q := 82) (i := 1) D409_81 rfl rfl rfl ?_
      refine im_rng (j := p1) sf_6961 hg1.1 hg1.2 (fun hr8 => ?_)
      refine im_lald (q := 83) D409_82 sf_6961 hg1.1 hg1.2 (by decide) rfl ?_
      refine im_ld (q := 84) (i := 0) D409_83 rfl rfl rfl ?_
      refine im_gfR (q := 87) (b := 6980) D409_84 (im_fl cn_409 fl_12_94) sf_6952 rfl rfl tR_12_48 rf_6952_48 ?_
      refine im_ld (q := 88) (i := 2) D409_87 rfl rfl rfl ?_
      refine im_rng (j := p2) sf_6980 hg3.1 hg3.2 (fun hr9 => ?_)
      refine im_lald (q := 89) D409_88 sf_6980 hg3.1 hg3.2 (by decide) rfl ?_
      refine im_lif (q := 90) (q2 := 93) (t := 113) D409_89 D409_90 rfl hr8 hr9 (fun hc10 => ?_) (fun hc10 => ?_)
      · exact (kJ16  (Or.inl ⟨hc5, hc7, hc10⟩)).wk ⟨rfl, rfl, rfl, trivial⟩
      · replace hP := hP (Decidable.not_not.mp hc10)
        refine im_ld (q := 94) (i := 0) D409_93 rfl rfl rfl ?_
        refine im_gfR (q := 97) (b := 6962) D409_94 (im_fl cn_409 fl_12_39) sf_6952 rfl rfl tR_12_23 rf_6952_23 ?_
        refine im_ld (q := 98) (i := 1) D409_97 rfl rfl rfl ?_
        refine im_rng (j := p1) sf_6962 hg1.1 hg1.2 (fun hr11 => ?_)
        refine im_lald (q := 99) D409_98 sf_6962 hg1.1 hg1.2 (by decide) rfl ?_
        refine im_ld (q := 100) (i := 0) D409_99 rfl rfl rfl ?_
        refine im_gfR (q := 103) (b := 6981) D409_100 (im_fl cn_409 fl_12_97) sf_6952 rfl rfl tR_12_49 rf_6952_49 ?_
        refine im_ld (q := 104) (i := 2) D409_103 rfl rfl rfl ?_
        refine im_rng (j := p2) sf_6981 hg3.1 hg3.2 (fun hr12 => ?_)
        refine im_lald (q := 105) D409_104 sf_6981 hg3.1 hg3.2 (by decide) rfl ?_
        refine im_lif (q := 106) (q2 := 109) (t := 113) D409_105 D409_106 rfl hr11 hr12 (fun hc13 => ?_) (fun hc13 => ?_)
        · exact (kJ16  (Or.inr ⟨hc5, hc7, (Decidable.not_not.mp hc10), hc13⟩)).wk ⟨rfl, rfl, rfl, trivial⟩
        · replace hP := hP (Decidable.not_not.mp hc13)
          refine im_iconst (q := 110) D409_109 ?_
          refine im_goto (q := 113) (t := 114) D409_110 rfl ?_
          refine im_st1 (q := 115) (i := 3) (L' := [some (.ref 6952), some (vI p1), some (vI p2), some (vI 1), none, none, none]) D409_114 (Or.inl ⟨_, rfl, rfl⟩) (Nat.le_of_ble_eq_true rfl) rfl ?_
          refine im_ld (q := 116) (i := 0) D409_115 rfl rfl rfl ?_
          refine im_gfR (q := 119) (b := 6960) D409_116 (im_fl cn_409 fl_12_33) sf_6952 rfl rfl tR_12_21 rf_6952_21 ?_
          refine im_ld (q := 120) (i := 1) D409_119 rfl rfl rfl ?_
          refine im_iald (q := 121) D409_120 sf_6960 hg1.1 hg1.2 (by decide) rfl ?_
          refine im_bipush (q := 123) D409_121 rfl ?_
          refine im_icmp (q := 126) (t := 150) D409_123 rfl hr2 (by decide) (fun hc23 => ?_) (fun hc23 => ?_)
          · replace hP := hP.1 hc23
            refine im_ld (q := 151) (i := 3) D409_150 rfl rfl rfl ?_
            refine im_ifc (q := 154) (t := 170) D409_151 rfl (by decide) (fun hc => absurd hc (show ¬ ((1 : Int) = 0) by decide)) (fun _ => ?_)
            refine im_ld (q := 155) (i := 0) D409_154 rfl rfl rfl ?_
            refine im_gfR (q := 158) (b := 6963) D409_155 (im_fl cn_409 fl_12_42) sf_6952 rfl rfl tR_12_24 rf_6952_24 ?_
            refine im_ld (q := 159) (i := 1) D409_158 rfl rfl rfl ?_
            refine im_rng (j := p1) sf_6963 hg1.1 hg1.2 (fun hr25 => ?_)
            refine im_lald (q := 160) D409_159 sf_6963 hg1.1 hg1.2 (by decide) rfl ?_
            refine im_ld (q := 161) (i := 0) D409_160 rfl rfl rfl ?_
            refine im_gfR (q := 164) (b := 6982) D409_161 (im_fl cn_409 fl_12_100) sf_6952 rfl rfl tR_12_50 rf_6952_50 ?_
            refine im_ld (q := 165) (i := 2) D409_164 rfl rfl rfl ?_
            refine im_rng (j := p2) sf_6982 hg3.1 hg3.2 (fun hr26 => ?_)
            refine im_lald (q := 166) D409_165 sf_6982 hg3.1 hg3.2 (by decide) rfl ?_
            refine im_lif (q := 167) (q2 := 170) (t := 172) D409_166 D409_167 rfl hr25 hr26 (fun hc27 => ?_) (fun hc27 => ?_)
            · replace hP := hP.1 hc27
              refine im_ld (q := 173) (i := 0) D409_172 rfl rfl rfl ?_
              refine im_rng (j := 7) sf_6952 (by decide) (by decide) (fun hr28 => ?_)
              refine im_gfI (q := 176) D409_173 (im_fl cn_409 fl_12_449) sf_6952 rfl rfl tI_12_7 rfl ?_
              refine im_st1 (q := 178) (i := 4) (L' := [some (.ref 6952), some (vI p1), some (vI p2), some (vI 1), some (vI (M 6952 7)), none, none]) D409_176 (Or.inr rfl) (Nat.le_of_ble_eq_true rfl) rfl ?_
              refine im_ld (q := 179) (i := 0) D409_178 rfl rfl rfl ?_
              refine im_ld (q := 180) (i := 0) D409_179 rfl rfl rfl ?_
              refine im_gfR (q := 183) (b := 6964) D409_180 (im_fl cn_409 fl_12_45) sf_6952 rfl rfl tR_12_25 rf_6952_25 ?_
              refine im_ld (q := 184) (i := 1) D409_183 rfl rfl rfl ?_
              refine im_rng (j := p1) sf_6964 hg1.1 hg1.2 (fun hr31 => ?_)
              refine im_iald (q := 185) D409_184 sf_6964 hg1.1 hg1.2 (by decide) rfl ?_
              refine im_callV (q := 188) (kd := 1) (y := 378) (n := 1) (ci := 12) (a := 6952) (vs := [.ref 6952, vI (M 6964 p1)]) (r := []) (L2 := [some (.ref 6952), some (vI (M 6964 p1)), none]) D409_185 (im_cal cn_409 cl_12_984) (Or.inl rfl) rfl sf_6952 rfl rfl rfl rfl hd ⟨rfl, rfl, trivial⟩ ?_
              refine hP.mono ?_
              rintro _ e42 M32 ⟨x33, rfl, rfl, hP⟩
              refine im_bkS ?_
              refine im_st1 (q := 190) (i := 5) (L' := [some (.ref 6952), some (vI p1), some (vI p2), some (vI 1), some (vI (M 6952 7)), some (vI x33), none]) D409_188 (Or.inr rfl) (Nat.le_of_ble_eq_true rfl) rfl ?_
              refine im_ld (q := 191) (i := 0) D409_190 rfl rfl rfl ?_
              refine im_rng (j := 101) sf_6952 (by decide) (by decide) (fun hr34 => ?_)
              refine im_gfI (q := 194) D409_191 (im_fl cn_409 fl_12_855) sf_6952 rfl rfl tI_12_101 rfl ?_
              refine im_ifc (q := 197) (t := 216) D409_194 rfl hr34 (fun hc35 => ?_) (fun hc35 => ?_)
              · replace hP := hP.1 hc35
                refine im_iconst (q := 217) D409_216 ?_
                refine im_st1 (q := 219) (i := 6) (L' := [some (.ref 6952), some (vI p1), some (vI p2), some (vI 1), some (vI (M 6952 7)), some (vI x33), some (vI 0)]) D409_217 (Or.inr rfl) (Nat.le_of_ble_eq_true rfl) rfl ?_
                refine im_ld (q := 220) (i := 0) D409_219 rfl rfl rfl ?_
                refine im_ld (q := 222) (i := 4) D409_220 rfl rfl rfl ?_
                refine im_pfI (q := 225) D409_222 (im_fl cn_409 fl_12_449) sf_6952 rfl rfl ti_12_7 hr28 ?_
                refine im_ld (q := 227) (i := 6) D409_225 rfl rfl rfl ?_
                exact im_zret (q := 228) D409_227 rfl (by decide) hP
              · replace hP := hP.2 (Decidable.not_not.mp hc35)
                refine im_ld (q := 198) (i := 0) D409_197 rfl rfl rfl ?_
                refine im_ld (q := 200) (i := 5) D409_198 rfl rfl rfl ?_
                refine im_ld (q := 201) (i := 0) D409_200 rfl rfl rfl ?_
                refine im_gfR (q := 204) (b := 6983) D409_201 (im_fl cn_409 fl_12_103) sf_6952 rfl rfl tR_12_51 rf_6952_51 ?_
                refine im_ld (q := 205) (i := 2) D409_204 rfl rfl rfl ?_
                refine im_rng (j := p2) sf_6983 hg3.1 hg3.2 (fun hr36 => ?_)
                refine im_iald (q := 206) D409_205 sf_6983 hg3.1 hg3.2 (by decide) rfl ?_
                refine im_callV (q := 209) (kd := 1) (y := 302) (n := 2) (ci := 12) (a := 6952) (vs := [.ref 6952, vI x33, vI (M32 6983 p2)]) (r := []) (L2 := [some (.ref 6952), some (vI x33), some (vI (M32 6983 p2))]) D409_206 (im_cal cn_409 cl_12_674) (Or.inl rfl) rfl sf_6952 rfl rfl rfl rfl hd ⟨rfl, rfl, rfl, trivial⟩ ?_
                refine hP.mono ?_
                rintro _ e41 M37 ⟨x38, rfl, rfl, hP⟩
                refine im_bkS ?_
                obtain ⟨hg39, hP⟩ := hP
                refine im_ifc (q := 212) (t := 216) D409_209 rfl hg39 (fun hc40 => ?_) (fun hc40 => ?_)
                · replace hP := hP.1 hc40
                  refine im_iconst (q := 217) D409_216 ?_
                  refine im_st1 (q := 219) (i := 6) (L' := [some (.ref 6952), some (vI p1), some (vI p2), some (vI 1), some (vI (M 6952 7)), some (vI x33), some (vI 0)]) D409_217 (Or.inr rfl) (Nat.le_of_ble_eq_true rfl) rfl ?_
                  refine im_ld (q := 220) (i := 0) D409_219 rfl rfl rfl ?_
                  refine im_ld (q := 222) (i := 4) D409_220 rfl rfl rfl ?_
                  refine im_pfI (q := 225) D409_222 (im_fl cn_409 fl_12_449) sf_6952 rfl rfl ti_12_7 hr28 ?_
                  refine im_ld (q := 227) (i := 6) D409_225 rfl rfl rfl ?_
                  exact im_zret (q := 228) D409_227 rfl (by decide) hP
                · replace hP := hP.2 (Decidable.not_not.mp hc40)
                  refine im_iconst (q := 213) D409_212 ?_
                  refine im_goto (q := 216) (t := 217) D409_213 rfl ?_
                  refine im_st1 (q := 219) (i := 6) (L' := [some (.ref 6952), some (vI p1), some (vI p2), some (vI 1), some (vI (M 6952 7)), some (vI x33), some (vI 1)]) D409_217 (Or.inr rfl) (Nat.le_of_ble_eq_true rfl) rfl ?_
                  refine im_ld (q := 220) (i := 0) D409_219 rfl rfl rfl ?_
                  refine im_ld (q := 222) (i := 4) D409_220 rfl rfl rfl ?_
                  refine im_pfI (q := 225) D409_222 (im_fl cn_409 fl_12_449) sf_6952 rfl rfl ti_12_7 hr28 ?_
                  refine im_ld (q := 227) (i := 6) D409_225 rfl rfl rfl ?_
                  exact im_zret (q := 228) D409_227 rfl (by decide) hP
            · replace hP := hP.2 hc27
              refine im_iconst (q := 171) D409_170 ?_
              exact im_zret (q := 172) D409_171 rfl (by decide) hP
          · replace hP := hP.2 (Decidable.not_not.mp hc23)
            refine im_ld (q := 127) (i := 3) D409_126 rfl rfl rfl ?_
            refine im_ifc (q := 130) (t := 148) D409_127 rfl (by decide) (fun hc => absurd hc (show ¬ ((1 : Int) = 0) by decide)) (fun _ => ?_)
            refine im_ld (q := 131) (i := 0) D409_130 rfl rfl rfl ?_
            refine im_ld (q := 132) (i := 1) D409_131 rfl rfl rfl ?_
            refine im_ld (q := 133) (i := 0) D409_132 rfl rfl rfl ?_
            refine im_gfR (q := 136) (b := 6983) D409_133 (im_fl cn_409 fl_12_103) sf_6952 rfl rfl tR_12_51 rf_6952_51 ?_
            refine im_ld (q := 137) (i := 2) D409_136 rfl rfl rfl ?_
            refine im_rng (j := p2) sf_6983 hg3.1 hg3.2 (fun hr30 => ?_)
            refine im_iald (q := 138) D409_137 sf_6983 hg3.1 hg3.2 (by decide) rfl ?_
            refine im_callV (q := 141) (kd := 1) (y := 410) (n := 2) (ci := 12) (a := 6952) (vs := [.ref 6952, vI p1, vI (M 6983 p2)]) (r := []) (L2 := [some (.ref 6952), some (vI p1), some (vI (M 6983 p2)), none, none]) D409_138 (im_cal cn_409 cl_12_1013) (Or.inl rfl) rfl sf_6952 rfl rfl rfl rfl hd ⟨rfl, rfl, rfl, trivial⟩ ?_
            refine hP.mono ?_
            rintro _ e47 M43 ⟨x44, rfl, rfl, hP⟩
            refine im_bkS ?_
            obtain ⟨hg45, hP⟩ := hP
            refine im_ifc (q := 144) (t := 148) D409_141 rfl hg45 (fun hc46 => ?_) (fun hc46 => ?_)
            · replace hP := hP.1 hc46
              refine im_iconst (q := 149) D409_148 ?_
              exact im_zret (q := 150) D409_149 rfl (by decide) hP
            · replace hP := hP.2 hc46
              refine im_iconst (q := 145) D409_144 ?_
              refine im_goto (q := 148) (t := 149) D409_145 rfl ?_
              exact im_zret (q := 150) D409_149 rfl (by decide) hP
    · replace hP := hP.2 (Decidable.not_not.mp hc7)
      refine im_ld (q := 29) (i := 0) D409_28 rfl rfl rfl ?_
      refine im_rng (j := 7) sf_6952 (by decide) (by decide) (fun hr14 => ?_)
      refine im_gfI (q := 32) D409_29 (im_fl cn_409 fl_12_449) sf_6952 rfl rfl tI_12_7 rfl ?_
      refine im_st1 (q := 33) (i := 3) (L' := [some (.ref 6952), some (vI p1), some (vI p2), some (vI (M 6952 7)), none, none, none]) D409_32 (Or.inl ⟨_, rfl, rfl⟩) (Nat.le_of_ble_eq_true rfl) rfl ?_
      refine im_ld (q := 34) (i := 0) D409_33 rfl rfl rfl ?_
      refine im_ld (q := 35) (i := 0) D409_34 rfl rfl rfl ?_
      refine im_gfR (q := 38) (b := 6964) D409_35 (im_fl cn_409 fl_12_45) sf_6952 rfl rfl tR_12_25 rf_6952_25 ?_
      refine im_ld (q := 39) (i := 1) D409_38 rfl rfl rfl ?_
      refine im_rng (j := p1) sf_6964 hg1.1 hg1.2 (fun hr48 => ?_)
      refine im_iald (q := 40) D409_39 sf_6964 hg1.1 hg1.2 (by decide) rfl ?_
      refine im_callV (q := 43) (kd := 1) (y := 378) (n := 1) (ci := 12) (a := 6952) (vs := [.ref 6952, vI (M 6964 p1)]) (r := []) (L2 := [some (.ref 6952), some (vI (M 6964 p1)), none]) D409_40 (im_cal cn_409 cl_12_984) (Or.inl rfl) rfl sf_6952 rfl rfl rfl rfl hd ⟨rfl, rfl, trivial⟩ ?_
      refine hP.mono ?_
      rintro _ e63 M49 ⟨x50, rfl, rfl, hP⟩
      refine im_bkS ?_
      refine im_iconst (q := 44) D409_43 ?_
      obtain ⟨hg51, hP⟩ := hP
      have hJ54 := hP
      have kJ55 : ∀ x53 : Int, (((¬ x50 = 1) ∧ x53 = 0) ∨ ((x50 = 1) ∧ x53 = 1)) → im_T g d 409 52 [some (.ref 6952), none, none, some (vI (M 6952 7)), none, none, none] [vI x53] e M49 K := by
        intro x53 hx56
        have hP := hJ54 x53 hx56
        refine im_st1 (q := 54) (i := 4) (L' := [some (.ref 6952), none, none, some (vI (M 6952 7)), some (vI x53), none, none]) D409_52 (Or.inr rfl) (Nat.le_of_ble_eq_true rfl) rfl ?_
        refine im_ld (q := 55) (i := 0) D409_54 rfl rfl rfl ?_
        refine im_ld (q := 56) (i := 3) D409_55 rfl rfl rfl ?_
        refine im_pfI (q := 59) D409_56 (im_fl cn_409 fl_12_449) sf_6952 rfl rfl ti_12_7 hr14 ?_
        refine im_ld (q := 61) (i := 4) D409_59 rfl rfl rfl ?_
        obtain ⟨hP, hJ60⟩ := hP
        have kJ61 : (((x53 = 0)) ∨ ((¬ x53 = 0) ∧ (¬ (M49 6952 101) = 0))) → im_T g d 409 75 [none, none, none, none, none, none, none] [] e (im_u M49 6952 7 (M 6952 7)) K := by
          intro  hx62
          have hP := hJ60  hx62
          refine im_iconst (q := 76) D409_75 ?_
          exact im_zret (q := 77) D409_76 rfl (by decide) hP
        refine im_ifc (q := 64) (t := 75) D409_61 rfl (by omega) (fun hc57 => ?_) (fun hc57 => ?_)
        · exact (kJ61  (Or.inl hc57)).wk trivial
        · replace hP := hP hc57
          refine im_ld (q := 65) (i := 0) D409_64 rfl rfl rfl ?_
          refine im_rng (j := 101) sf_6952 (by decide) (by decide) (fun hr58 => ?_)
          refine im_gfI (q := 68) D409_65 (im_fl cn_409 fl_12_855) sf_6952 rfl rfl tI_12_101 (im_rdk _ _ _ (by decide)) ?_
          refine im_ifc (q := 71) (t := 75) D409_68 rfl (im_rgc hr58 (im_rdk _ _ _ (by decide))) (fun hc59 => ?_) (fun hc59 => ?_)
          · exact (kJ61  (Or.inr ⟨hc57, hc59⟩)).wk trivial
          · replace hP := hP (Decidable.not_not.mp hc59)
            refine im_iconst (q := 72) D409_71 ?_
            refine im_goto (q := 75) (t := 76) D409_72 rfl ?_
            exact im_zret (q := 77) D409_76 rfl (by decide) hP
      refine im_icmp (q := 47) (t := 51) D409_44 rfl hg51 (by decide) (fun hc52 => ?_) (fun hc52 => ?_)
      · refine im_iconst (q := 52) D409_51 ?_
        exact (kJ55 (0) (Or.inl ⟨hc52, rfl⟩)).wk ⟨rfl, rfl, trivial⟩
      · refine im_iconst (q := 48) D409_47 ?_
        refine im_goto (q := 51) (t := 52) D409_48 rfl ?_
        exact (kJ55 (1) (Or.inr ⟨(Decidable.not_not.mp hc52), rfl⟩)).wk ⟨rfl, rfl, trivial⟩
  · replace hP := hP.2 hc5
    refine im_iconst (q := 16) D409_15 ?_
    exact im_zret (q := 17) D409_16 rfl (by decide) hP
set_option maxRecDepth 20000 in
set_option maxHeartbeats 4000000 in
theorem b_isBetween_0 {g : im_g} {d : Nat} {e : im_E} {M : im_M} {K : im_K} {p1 p2 : Int} (hP : (0 ≤ p1 ∧ p1 < 5100) ∧ im_T g d 410 10 [some (.ref 6952), some (vI p1), some (vI p2), some (vI 0), some (vI (M 6971 p1))] [] e M K) : im_T g d 410 0 [some (.ref 6952), some (vI p1), some (vI p2), none, none] [] e M K := by
  refine im_iconst (q := 1) D410_0 ?_
  refine im_st1 (q := 2) (i := 3) (L' := [some (.ref 6952), some (vI p1), some (vI p2), some (vI 0), none]) D410_1 (Or.inl ⟨_, rfl, rfl⟩) (Nat.le_of_ble_eq_true rfl) rfl ?_
  refine im_ld (q := 3) (i := 0) D410_2 rfl rfl rfl ?_
  refine im_gfR (q := 6) (b := 6971) D410_3 (im_fl cn_410 fl_12_67) sf_6952 rfl rfl tR_12_32 rf_6952_32 ?_
  refine im_ld (q := 7) (i := 1) D410_6 rfl rfl rfl ?_
  obtain ⟨hg1, hP⟩ := hP
  refine im_rng (j := p1) sf_6971 hg1.1 hg1.2 (fun hr2 => ?_)
  refine im_iald (q := 8) D410_7 sf_6971 hg1.1 hg1.2 (by decide) rfl ?_
  refine im_st1 (q := 10) (i := 4) (L' := [some (.ref 6952), some (vI p1), some (vI p2), some (vI 0), some (vI (M 6971 p1))]) D410_8 (Or.inr rfl) (Nat.le_of_ble_eq_true rfl) rfl ?_
  exact hP.wk ⟨rfl, rfl, rfl, rfl, rfl, trivial⟩
set_option maxRecDepth 20000 in
set_option maxHeartbeats 4000000 in
theorem b_isBetween_10 {g : im_g} {d : Nat} {e : im_E} {M : im_M} {K : im_K} {p1 p2 p3 p4 : Int} (hd : 1 ≤ d) (hP : (0 ≤ p1 ∧ p1 < 5100) ∧ (im_i32 p4) ∧ (im_i32 ((M 6971 p1) + (M 6972 p1))) ∧ ((((M 6971 p1) + (M 6972 p1)) ≤ p4 → (0 ≤ p3 ∧ p3 ≤ 1) ∧ K (.inl (some (vI p3))) e M) ∧ (p4 < ((M 6971 p1) + (M 6972 p1)) → (im_i32 p3) ∧ ((¬ p3 = 0 → im_T g d 410 10 [some (.ref 6952), some (vI p1), some (vI p2), some (vI 1), some (vI (p4 + 1))] [] e M K) ∧ (p3 = 0 → (0 ≤ p4 ∧ p4 < 20400) ∧ im_T g (d - 1) 302 0 [some (.ref 6952), some (vI (M 6973 p4)), some (vI p2)] [] e M (im_ri (fun x13 e_ M12 => e = e_ ∧ (im_i32 x13) ∧ ((0 < x13 → im_T g d 410 10 [some (.ref 6952), some (vI p1), some (vI p2), some (vI 0), some (vI (p4 + 1))] [] e M12 K) ∧ (x13 ≤ 0 → im_T g (d - 1) 302 0 [some (.ref 6952), some (vI p2), some (vI (M12 6974 p4))] [] e M12 (im_ri (fun x18 e_ M17 => e = e_ ∧ (im_i32 x18) ∧ ((0 < x18 → im_T g d 410 10 [some (.ref 6952), some (vI p1), some (vI p2), some (vI 0), some (vI (p4 + 1))] [] e M17 K) ∧ (x18 ≤ 0 → im_T g d 410 10 [some (.ref 6952), some (vI p1), some (vI p2), some (vI 1), some (vI (p4 + 1))] [] e M17 K))))))))))))) : im_T g d 410 10 [some (.ref 6952), some (vI p1), some (vI p2), some (vI p3), some (vI p4)] [] e M K := by
  refine im_ld (q := 12) (i := 4) D410_10 rfl rfl rfl ?_
  refine im_ld (q := 13) (i := 0) D410_12 rfl rfl rfl ?_
  refine im_gfR (q := 16) (b := 6971) D410_13 (im_fl cn_410 fl_12_67) sf_6952 rfl rfl tR_12_32 rf_6952_32 ?_
  refine im_ld (q := 17) (i := 1) D410_16 rfl rfl rfl ?_
  obtain ⟨hg1, hP⟩ := hP
  refine im_rng (j := p1) sf_6971 hg1.1 hg1.2 (fun hr2 => ?_)
  refine im_iald (q := 18) D410_17 sf_6971 hg1.1 hg1.2 (by decide) rfl ?_
  refine im_ld (q := 19) (i := 0) D410_18 rfl rfl rfl ?_
  refine im_gfR (q := 22) (b := 6972) D410_19 (im_fl cn_410 fl_12_70) sf_6952 rfl rfl tR_12_33 rf_6952_33 ?_
  refine im_ld (q := 23) (i := 1) D410_22 rfl rfl rfl ?_
  refine im_rng (j := p1) sf_6972 hg1.1 hg1.2 (fun hr3 => ?_)
  refine im_iald (q := 24) D410_23 sf_6972 hg1.1 hg1.2 (by decide) rfl ?_
  refine im_iadd (q := 25) D410_24 ?_
  obtain ⟨hg4, hP⟩ := hP
  obtain ⟨hg5, hP⟩ := hP
  refine im_icmp (q := 28) (t := 74) D410_25 rfl hg4 hg5 (fun hc6 => ?_) (fun hc6 => ?_)
  · replace hP := hP.1 hc6
    refine im_ld (q := 75) (i := 3) D410_74 rfl rfl rfl ?_
    obtain ⟨hg11, hP⟩ := hP
    exact im_zret (q := 76) D410_75 rfl hg11 hP
  · replace hP := hP.2 (Int.not_le.mp hc6)
    refine im_ld (q := 29) (i := 3) D410_28 rfl rfl rfl ?_
    obtain ⟨hg7, hP⟩ := hP
    refine im_ifc (q := 32) (t := 62) D410_29 rfl hg7 (fun hc8 => ?_) (fun hc8 => ?_)
    · replace hP := hP.1 hc8
      refine im_iconst (q := 63) D410_62 ?_
      refine im_goto (q := 66) (t := 67) D410_63 rfl ?_
      refine im_st1 (q := 68) (i := 3) (L' := [some (.ref 6952), some (vI p1), some (vI p2), some (vI 1), some (vI p4)]) D410_67 (Or.inl ⟨_, rfl, rfl⟩) (Nat.le_of_ble_eq_true rfl) rfl ?_
      refine im_iinc (q := 71) (i := 4) (L' := [some (.ref 6952), some (vI p1), some (vI p2), some (vI 1), some (vI (p4 + 1))]) D410_68 rfl (Nat.le_of_ble_eq_true rfl) rfl ?_
      refine im_goto (q := 74) (t := 10) D410_71 rfl ?_
      exact hP.wk ⟨rfl, rfl, rfl, rfl, rfl, trivial⟩
    · replace hP := hP.2 (Decidable.not_not.mp hc8)
      refine im_ld (q := 33) (i := 0) D410_32 rfl rfl rfl ?_
      refine im_ld (q := 34) (i := 0) D410_33 rfl rfl rfl ?_
      refine im_gfR (q := 37) (b := 6973) D410_34 (im_fl cn_410 fl_12_73) sf_6952 rfl rfl tR_12_34 rf_6952_34 ?_
      refine im_ld (q := 39) (i := 4) D410_37 rfl rfl rfl ?_
      obtain ⟨hg9, hP⟩ := hP
      refine im_rng (j := p4) sf_6973 hg9.1 hg9.2 (fun hr10 => ?_)
      refine im_iald (q := 40) D410_39 sf_6973 hg9.1 hg9.2 (by decide) rfl ?_
      refine im_ld (q := 41) (i := 2) D410_40 rfl rfl rfl ?_
      refine im_callV (q := 44) (kd := 1) (y := 302) (n := 2) (ci := 12) (a := 6952) (vs := [.ref 6952, vI (M 6973 p4), vI p2]) (r := []) (L2 := [some (.ref 6952), some (vI (M 6973 p4)), some (vI p2)]) D410_41 (im_cal cn_410 cl_12_674) (Or.inl rfl) rfl sf_6952 rfl rfl rfl rfl hd ⟨rfl, rfl, rfl, trivial⟩ ?_
      refine hP.mono ?_
      rintro _ e22 M12 ⟨x13, rfl, rfl, hP⟩
      refine im_bkS ?_
      obtain ⟨hg14, hP⟩ := hP
      refine im_ifc (q := 47) (t := 66) D410_44 rfl hg14 (fun hc15 => ?_) (fun hc15 => ?_)
      · replace hP := hP.1 hc15
        refine im_iconst (q := 67) D410_66 ?_
        refine im_st1 (q := 68) (i := 3) (L' := [some (.ref 6952), some (vI p1), some (vI p2), some (vI 0), some (vI p4)]) D410_67 (Or.inl ⟨_, rfl, rfl⟩) (Nat.le_of_ble_eq_true rfl) rfl ?_
        refine im_iinc (q := 71) (i := 4) (L' := [some (.ref 6952), some (vI p1), some (vI p2), some (vI 0), some (vI (p4 + 1))]) D410_68 rfl (Nat.le_of_ble_eq_true rfl) rfl ?_
        refine im_goto (q := 74) (t := 10) D410_71 rfl ?_
        exact hP.wk ⟨rfl, rfl, rfl, rfl, rfl, trivial⟩
      · replace hP := hP.2 (Int.not_lt.mp hc15)
        refine im_ld (q := 48) (i := 0) D410_47 rfl rfl rfl ?_
        refine im_ld (q := 49) (i := 2) D410_48 rfl rfl rfl ?_
        refine im_ld (q := 50) (i := 0) D410_49 rfl rfl rfl ?_
        refine im_gfR (q := 53) (b := 6974) D410_50 (im_fl cn_410 fl_12_76) sf_6952 rfl rfl tR_12_35 rf_6952_35 ?_
        refine im_ld (q := 55) (i := 4) D410_53 rfl rfl rfl ?_
        refine im_rng (j := p4) sf_6974 hg9.1 hg9.2 (fun hr16 => ?_)
        refine im_iald (q := 56) D410_55 sf_6974 hg9.1 hg9.2 (by decide) rfl ?_
        refine im_callV (q := 59) (kd := 1) (y := 302) (n := 2) (ci := 12) (a := 6952) (vs := [.ref 6952, vI p2, vI (M12 6974 p4)]) (r := []) (L2 := [some (.ref 6952), some (vI p2), some (vI (M12 6974 p4))]) D410_56 (im_cal cn_410 cl_12_674) (Or.inl rfl) rfl sf_6952 rfl rfl rfl rfl hd ⟨rfl, rfl, rfl, trivial⟩ ?_
        refine hP.mono ?_
        rintro _ e21 M17 ⟨x18, rfl, rfl, hP⟩
        refine im_bkS ?_
        obtain ⟨hg19, hP⟩ := hP
        refine im_ifc (q := 62) (t := 66) D410_59 rfl hg19 (fun hc20 => ?_) (fun hc20 => ?_)
        · replace hP := hP.1 hc20
          refine im_iconst (q := 67) D410_66 ?_
          refine im_st1 (q := 68) (i := 3) (L' := [some (.ref 6952), some (vI p1), some (vI p2), some (vI 0), some (vI p4)]) D410_67 (Or.inl ⟨_, rfl, rfl⟩) (Nat.le_of_ble_eq_true rfl) rfl ?_
          refine im_iinc (q := 71) (i := 4) (L' := [some (.ref 6952), some (vI p1), some (vI p2), some (vI 0), some (vI (p4 + 1))]) D410_68 rfl (Nat.le_of_ble_eq_true rfl) rfl ?_
          refine im_goto (q := 74) (t := 10) D410_71 rfl ?_
          exact hP.wk ⟨rfl, rfl, rfl, rfl, rfl, trivial⟩
        · replace hP := hP.2 (Int.not_lt.mp hc20)
          refine im_iconst (q := 63) D410_62 ?_
          refine im_goto (q := 66) (t := 67) D410_63 rfl ?_
          refine im_st1 (q := 68) (i := 3) (L' := [some (.ref 6952), some (vI p1), some (vI p2), some (vI 1), some (vI p4)]) D410_67 (Or.inl ⟨_, rfl, rfl⟩) (Nat.le_of_ble_eq_true rfl) rfl ?_
          refine im_iinc (q := 71) (i := 4) (L' := [some (.ref 6952), some (vI p1), some (vI p2), some (vI 1), some (vI (p4 + 1))]) D410_68 rfl (Nat.le_of_ble_eq_true rfl) rfl ?_
          refine im_goto (q := 74) (t := 10) D410_71 rfl ?_
          exact hP.wk ⟨rfl, rfl, rfl, rfl, rfl, trivial⟩
set_option maxRecDepth 20000 in
set_option maxHeartbeats 4000000 in
theorem b_fromWallet_0 {g : im_g} {d : Nat} {e : im_E} {M : im_M} {K : im_K} {p1 p3 p5 : Int} (hd : 1 ≤ d) (hP : (((M 6952 102) = 0 → im_T g (d - 1) 370 0 [some (.ref 6952), some (vL p1), none, some (vL p3), none, none] [] e M (im_ri (fun x4 e_ M3 => e = e_ ∧ (im_i32 x4) ∧ ((x4 = (-1) → im_T g (d - 1) 368 0 [some (.ref 6952), some (vI (-7))] [] e M3 (im_r0 (fun  e_ M9 => e = e_ ∧ K (.inl none) e M9))) ∧ (¬ x4 = (-1) → (0 ≤ x4 ∧ x4 < 61) ∧ im_T g (d - 1) 302 0 [some (.ref 6952), some (vI (M3 7033 x4)), some (vI p5)] [] e M3 (im_ri (fun x12 e_ M11 => e = e_ ∧ (im_i32 x12) ∧ ((0 ≤ x12 → im_T g (d - 1) 371 0 [some (.ref 6952), some (vI (M11 7033 x4)), some (vI p5), some (vI (-1)), none] [] e M11 (im_ri (fun x17 e_ M16 => e = e_ ∧ (im_i32 x17) ∧ (0 ≤ x17 ∧ x17 < 1100000) ∧ ((¬ (M16 6955 x17) = 0 → K (.inl none) e (im_u M16 7033 x4 x17)) ∧ ((M16 6955 x17) = 0 → (im_i32 ((M16 6952 116) - 1)) ∧ (0 ≤ ((M16 6952 116) - 1) ∧ ((M16 6952 116) - 1) < 61) ∧ K (.inl none) e (im_u (im_u (im_u (im_u (im_u M16 7033 x4 x17) 6952 116 ((M16 6952 116) - 1)) 7031 x4 (M16 7031 ((M16 6952 116) - 1))) 7032 x4 (M16 7032 ((M16 6952 116) - 1))) 7033 x4 ((im_u M16 7033 x4 x17) 7033 ((M16 6952 116) - 1)))))))) ∧ (x12 < 0 → im_T g (d - 1) 368 0 [some (.ref 6952), some (vI (-7))] [] e M11 (im_r0 (fun  e_ M33 => e = e_ ∧ K (.inl none) e M33))))))))))) ∧ (¬ (M 6952 102) = 0 → K (.inl none) e M))) : im_T g d 411 0 [some (.ref 6952), some (vL p1), none, some (vL p3), none, some (vI p5), none] [] e M K := by
  refine im_ld (q := 1) (i := 0) D411_0 rfl rfl rfl ?_
  refine im_rng (j := 102) sf_6952 (by decide) (by decide) (fun hr1 => ?_)
  refine im_gfI (q := 4) D411_1 (im_fl cn_411 fl_12_941) sf_6952 rfl rfl tI_12_102 rfl ?_
  refine im_ifc (q := 7) (t := 8) D411_4 rfl (im_z32 hr1) (fun hc2 => ?_) (fun hc2 => ?_)
  · replace hP := hP.1 hc2
    refine im_ld (q := 9) (i := 0) D411_8 rfl rfl rfl ?_
    refine im_ld (q := 10) (i := 1) D411_9 rfl rfl rfl ?_
    refine im_ld (q := 11) (i := 3) D411_10 rfl rfl rfl ?_
    refine im_callV (q := 14) (kd := 1) (y := 370) (n := 2) (ci := 12) (a := 6952) (vs := [.ref 6952, vL p1, vL p3]) (r := []) (L2 := [some (.ref 6952), some (vL p1), none, some (vL p3), none, none]) D411_11 (im_cal cn_411 cl_12_968) (Or.inl rfl) rfl sf_6952 rfl rfl rfl rfl hd ⟨rfl, rfl, rfl, trivial⟩ ?_
    refine hP.mono ?_
    rintro _ e36 M3 ⟨x4, rfl, rfl, hP⟩
    refine im_bkS ?_
    refine im_st1 (q := 16) (i := 6) (L' := [some (.ref 6952), some (vL p1), none, some (vL p3), none, some (vI p5), some (vI x4)]) D411_14 (Or.inr rfl) (Nat.le_of_ble_eq_true rfl) rfl ?_
    refine im_ld (q := 18) (i := 6) D411_16 rfl rfl rfl ?_
    refine im_iconst (q := 19) D411_18 ?_
    obtain ⟨hg5, hP⟩ := hP
    refine im_icmp (q := 22) (t := 38) D411_19 rfl hg5 (by decide) (fun hc6 => ?_) (fun hc6 => ?_)
    · replace hP := hP.1 hc6
      refine im_ld (q := 39) (i := 0) D411_38 rfl rfl rfl ?_
      refine im_bipush (q := 41) D411_39 rfl ?_
      refine im_callV (q := 44) (kd := 1) (y := 368) (n := 1) (ci := 12) (a := 6952) (vs := [.ref 6952, vI (-7)]) (r := []) (L2 := [some (.ref 6952), some (vI (-7))]) D411_41 (im_cal cn_411 cl_12_959) (Or.inl rfl) rfl sf_6952 rfl rfl rfl rfl hd ⟨rfl, rfl, trivial⟩ ?_
      refine hP.mono ?_
      rintro _ e10 M9 ⟨rfl, rfl, hP⟩
      refine im_bkN ?_
      exact im_vret (q := 45) D411_44 rfl hP
    · replace hP := hP.2 hc6
      refine im_ld (q := 23) (i := 0) D411_22 rfl rfl rfl ?_
      refine im_ld (q := 24) (i := 0) D411_23 rfl rfl rfl ?_
      refine im_gfR (q := 27) (b := 7033) D411_24 (im_fl cn_411 fl_12_255) sf_6952 rfl rfl tR_12_119 rf_6952_119 ?_
      refine im_ld (q := 29) (i := 6) D411_27 rfl rfl rfl ?_
      obtain ⟨hg7, hP⟩ := hP
      refine im_rng (j := x4) sf_7033 hg7.1 hg7.2 (fun hr8 => ?_)
      refine im_iald (q := 30) D411_29 sf_7033 hg7.1 hg7.2 (by decide) rfl ?_
      refine im_ld (q := 32) (i := 5) D411_30 rfl rfl rfl ?_
      refine im_callV (q := 35) (kd := 1) (y := 302) (n := 2) (ci := 12) (a := 6952) (vs := [.ref 6952, vI (M3 7033 x4), vI p5]) (r := []) (L2 := [some (.ref 6952), some (vI (M3 7033 x4)), some (vI p5)]) D411_32 (im_cal cn_411 cl_12_674) (Or.inl rfl) rfl sf_6952 rfl rfl rfl rfl hd ⟨rfl, rfl, rfl, trivial⟩ ?_
      refine hP.mono ?_
      rintro _ e35 M11 ⟨x12, rfl, rfl, hP⟩
      refine im_bkS ?_
      obtain ⟨hg13, hP⟩ := hP
      refine im_ifc (q := 38) (t := 45) D411_35 rfl hg13 (fun hc14 => ?_) (fun hc14 => ?_)
      · replace hP := hP.1 hc14
        refine im_ld (q := 46) (i := 0) D411_45 rfl rfl rfl ?_
        refine im_gfR (q := 49) (b := 7033) D411_46 (im_fl cn_411 fl_12_255) sf_6952 rfl rfl tR_12_119 rf_6952_119 ?_
        refine im_ld (q := 51) (i := 6) D411_49 rfl rfl rfl ?_
        refine im_ld (q := 52) (i := 0) D411_51 rfl rfl rfl ?_
        refine im_ld (q := 53) (i := 0) D411_52 rfl rfl rfl ?_
        refine im_gfR (q := 56) (b := 7033) D411_53 (im_fl cn_411 fl_12_255) sf_6952 rfl rfl tR_12_119 rf_6952_119 ?_
        refine im_ld (q := 58) (i := 6) D411_56 rfl rfl rfl ?_
        refine im_rng (j := x4) sf_7033 hg7.1 hg7.2 (fun hr15 => ?_)
        refine im_iald (q := 59) D411_58 sf_7033 hg7.1 hg7.2 (by decide) rfl ?_
        refine im_ld (q := 61) (i := 5) D411_59 rfl rfl rfl ?_
        refine im_iconst (q := 62) D411_61 ?_
        refine im_callV (q := 65) (kd := 1) (y := 371) (n := 3) (ci := 12) (a := 6952) (vs := [.ref 6952, vI (M11 7033 x4), vI p5, vI (-1)]) (r := [vI x4, .ref 7033]) (L2 := [some (.ref 6952), some (vI (M11 7033 x4)), some (vI p5), some (vI (-1)), none]) D411_62 (im_cal cn_411 cl_12_962) (Or.inl rfl) rfl sf_6952 rfl rfl rfl rfl hd ⟨rfl, rfl, rfl, rfl, trivial⟩ ?_
        refine hP.mono ?_
        rintro _ e32 M16 ⟨x17, rfl, rfl, hP⟩
        refine im_bkS ?_
        obtain ⟨hg18, hP⟩ := hP
        refine im_iast (q := 66) D411_65 sf_7033 hg7.1 hg7.2 (by decide) hg18 ?_
        refine im_ld (q := 67) (i := 0) D411_66 rfl rfl rfl ?_
        refine im_gfR (q := 70) (b := 6955) D411_67 (im_fl cn_411 fl_12_17) sf_6952 rfl rfl tR_12_5 rf_6952_5 ?_
        refine im_ld (q := 71) (i := 0) D411_70 rfl rfl rfl ?_
        refine im_gfR (q := 74) (b := 7033) D411_71 (im_fl cn_411 fl_12_255) sf_6952 rfl rfl tR_12_119 rf_6952_119 ?_
        refine im_ld (q := 76) (i := 6) D411_74 rfl rfl rfl ?_
        refine im_iald (q := 77) D411_76 sf_7033 hg7.1 hg7.2 (by decide) (im_rds _ _ _ _) ?_
        obtain ⟨hg20, hP⟩ := hP
        refine im_rng (j := x17) sf_6955 hg20.1 hg20.2 (fun hr21 => ?_)
        refine im_iald (q := 78) D411_77 sf_6955 hg20.1 hg20.2 (by decide) (im_rdn _ _ _ _ (by decide)) ?_
        refine im_ifc (q := 81) (t := 139) D411_78 rfl (im_rgc hr21 (im_rdn _ _ _ _ (by decide))) (fun hc22 => ?_) (fun hc22 => ?_)
        · replace hP := hP.1 hc22
          exact im_vret (q := 140) D411_139 rfl hP
        · replace hP := hP.2 (Decidable.not_not.mp hc22)
          refine im_ld (q := 82) (i := 0) D411_81 rfl rfl rfl ?_
          refine im_dup (q := 83) D411_82 rfl ?_
          refine im_rng (j := 116) sf_6952 (by decide) (by decide) (fun hr23 => ?_)
          refine im_gfI (q := 86) D411_83 (im_fl cn_411 fl_12_965) sf_6952 rfl rfl tI_12_116 (im_rdn _ _ _ _ (by decide)) ?_
          refine im_iconst (q := 87) D411_86 ?_
          refine im_isub (q := 88) D411_87 ?_
          obtain ⟨hg24, hP⟩ := hP
          refine im_pfI (q := 91) D411_88 (im_fl cn_411 fl_12_965) sf_6952 rfl rfl ti_12_116 hg24 ?_
          refine im_ld (q := 92) (i := 0) D411_91 rfl rfl rfl ?_
          refine im_gfR (q := 95) (b := 7031) D411_92 (im_fl cn_411 fl_12_249) sf_6952 rfl rfl tR_12_117 rf_6952_117 ?_
          refine im_ld (q := 97) (i := 6) D411_95 rfl rfl rfl ?_
          refine im_ld (q := 98) (i := 0) D411_97 rfl rfl rfl ?_
          refine im_gfR (q := 101) (b := 7031) D411_98 (im_fl cn_411 fl_12_249) sf_6952 rfl rfl tR_12_117 rf_6952_117 ?_
          refine im_ld (q := 102) (i := 0) D411_101 rfl rfl rfl ?_
          refine im_gfI (q := 105) D411_102 (im_fl cn_411 fl_12_965) sf_6952 rfl rfl tI_12_116 (im_rds _ _ _ _) ?_
          obtain ⟨hg26, hP⟩ := hP
          refine im_rng (j := ((M16 6952 116) - 1)) sf_7031 hg26.1 hg26.2 (fun hr27 => ?_)
          refine im_lald (q := 106) D411_105 sf_7031 hg26.1 hg26.2 (by decide) ((im_rdn _ _ _ _ (by decide)).trans (im_rdn _ _ _ _ (by decide))) ?_
          refine im_last (q := 107) D411_106 sf_7031 hg7.1 hg7.2 (by decide) (im_rgc hr27 ((im_rdn _ _ _ _ (by decide)).trans (im_rdn _ _ _ _ (by decide)))) ?_
          refine im_ld (q := 108) (i := 0) D411_107 rfl rfl rfl ?_
          refine im_gfR (q := 111) (b := 7032) D411_108 (im_fl cn_411 fl_12_252) sf_6952 rfl rfl tR_12_118 rf_6952_118 ?_
          refine im_ld (q := 113) (i := 6) D411_111 rfl rfl rfl ?_
          refine im_ld (q := 114) (i := 0) D411_113 rfl rfl rfl ?_
          refine im_gfR (q := 117) (b := 7032) D411_114 (im_fl cn_411 fl_12_252) sf_6952 rfl rfl tR_12_118 rf_6952_118 ?_
          refine im_ld (q := 118) (i := 0) D411_117 rfl rfl rfl ?_
          refine im_gfI (q := 121) D411_118 (im_fl cn_411 fl_12_965) sf_6952 rfl rfl tI_12_116 ((im_rdn _ _ _ _ (by decide)).trans (im_rds _ _ _ _)) ?_
          refine im_rng (j := ((M16 6952 116) - 1)) sf_7032 hg26.1 hg26.2 (fun hr29 => ?_)
          refine im_lald (q := 122) D411_121 sf_7032 hg26.1 hg26.2 (by decide) ((im_rdn _ _ _ _ (by decide)).trans ((im_rdn _ _ _ _ (by decide)).trans (im_rdn _ _ _ _ (by decide)))) ?_
          refine im_last (q := 123) D411_122 sf_7032 hg7.1 hg7.2 (by decide) (im_rgc hr29 ((im_rdn _ _ _ _ (by decide)).trans ((im_rdn _ _ _ _ (by decide)).trans (im_rdn _ _ _ _ (by decide))))) ?_
          refine im_ld (q := 124) (i := 0) D411_123 rfl rfl rfl ?_
          refine im_gfR (q := 127) (b := 7033) D411_124 (im_fl cn_411 fl_12_255) sf_6952 rfl rfl tR_12_119 rf_6952_119 ?_
          refine im_ld (q := 129) (i := 6) D411_127 rfl rfl rfl ?_
          refine im_ld (q := 130) (i := 0) D411_129 rfl rfl rfl ?_
          refine im_gfR (q := 133) (b := 7033) D411_130 (im_fl cn_411 fl_12_255) sf_6952 rfl rfl tR_12_119 rf_6952_119 ?_
          refine im_ld (q := 134) (i := 0) D411_133 rfl rfl rfl ?_
          refine im_gfI (q := 137) D411_134 (im_fl cn_411 fl_12_965) sf_6952 rfl rfl tI_12_116 ((im_rdn _ _ _ _ (by decide)).trans ((im_rdn _ _ _ _ (by decide)).trans (im_rds _ _ _ _))) ?_
          refine im_rng (j := ((M16 6952 116) - 1)) sf_7033 hg26.1 hg26.2 (fun hr31 => ?_)
          refine im_iald (q := 138) D411_137 sf_7033 hg26.1 hg26.2 (by decide) ((im_rdn _ _ _ _ (by decide)).trans ((im_rdn _ _ _ _ (by decide)).trans (im_rdn _ _ _ _ (by decide)))) ?_
          refine im_iast (q := 139) D411_138 sf_7033 hg7.1 hg7.2 (by decide) (im_rgc hr31 ((im_rdn _ _ _ _ (by decide)).trans ((im_rdn _ _ _ _ (by decide)).trans (im_rdn _ _ _ _ (by decide))))) ?_
          exact im_vret (q := 140) D411_139 rfl hP
      · replace hP := hP.2 (Int.not_le.mp hc14)
        refine im_ld (q := 39) (i := 0) D411_38 rfl rfl rfl ?_
        refine im_bipush (q := 41) D411_39 rfl ?_
        refine im_callV (q := 44) (kd := 1) (y := 368) (n := 1) (ci := 12) (a := 6952) (vs := [.ref 6952, vI (-7)]) (r := []) (L2 := [some (.ref 6952), some (vI (-7))]) D411_41 (im_cal cn_411 cl_12_959) (Or.inl rfl) rfl sf_6952 rfl rfl rfl rfl hd ⟨rfl, rfl, trivial⟩ ?_
        refine hP.mono ?_
        rintro _ e34 M33 ⟨rfl, rfl, hP⟩
        refine im_bkN ?_
        exact im_vret (q := 45) D411_44 rfl hP
  · replace hP := hP.2 hc2
    exact im_vret (q := 8) D411_7 rfl hP
set_option maxRecDepth 20000 in
set_option maxHeartbeats 4000000 in
theorem b_choose_0 {g : im_g} {d : Nat} {e : im_E} {M : im_M} {K : im_K} {p1 : Int} (hd : 1 ≤ d) (hP : (0 ≤ p1 ∧ p1 < 40) ∧ im_T g (d - 1) 388 0 [some (.ref 6952), some (vL (M 6980 p1)), none, some (vL (M 6981 p1)), none, none] [] e M (im_ri (fun x5 e_ M4 => e = e_ ∧ im_T g (d - 1) 387 0 [some (.ref 6952), some (vL (M4 6980 p1)), none, some (vL (M4 6981 p1)), none, none] [] e M4 (im_ri (fun x9 e_ M8 => e = e_ ∧ (im_i32 x9) ∧ ((x9 = 0 → ((¬ (M8 6952 89) = 40 → im_T g d 412 70 [some (.ref 6952), some (vI p1), some (vI x5), some (vI (M8 6952 89))] [] e M8 K) ∧ ((M8 6952 89) = 40 → im_T g (d - 1) 368 0 [some (.ref 6952), some (vI (-9))] [] e M8 (im_r0 (fun  e_ M16 => e = e_ ∧ K (.inl none) e M16))))) ∧ (¬ x9 = 0 → (0 ≤ x5 ∧ x5 < 41) ∧ K (.inl none) e (im_u M8 7016 x5 (M8 6983 p1))))))))) : im_T g d 412 0 [some (.ref 6952), some (vI p1), none, none] [] e M K := by
  refine im_ld (q := 1) (i := 0) D412_0 rfl rfl rfl ?_
  refine im_ld (q := 2) (i := 0) D412_1 rfl rfl rfl ?_
  refine im_gfR (q := 5) (b := 6980) D412_2 (im_fl cn_412 fl_12_94) sf_6952 rfl rfl tR_12_48 rf_6952_48 ?_
  refine im_ld (q := 6) (i := 1) D412_5 rfl rfl rfl ?_
  obtain ⟨hg1, hP⟩ := hP
  refine im_rng (j := p1) sf_6980 hg1.1 hg1.2 (fun hr2 => ?_)
  refine im_lald (q := 7) D412_6 sf_6980 hg1.1 hg1.2 (by decide) rfl ?_
  refine im_ld (q := 8) (i := 0) D412_7 rfl rfl rfl ?_
  refine im_gfR (q := 11) (b := 6981) D412_8 (im_fl cn_412 fl_12_97) sf_6952 rfl rfl tR_12_49 rf_6952_49 ?_
  refine im_ld (q := 12) (i := 1) D412_11 rfl rfl rfl ?_
  refine im_rng (j := p1) sf_6981 hg1.1 hg1.2 (fun hr3 => ?_)
  refine im_lald (q := 13) D412_12 sf_6981 hg1.1 hg1.2 (by decide) rfl ?_
  refine im_callV (q := 16) (kd := 1) (y := 388) (n := 2) (ci := 12) (a := 6952) (vs := [.ref 6952, vL (M 6980 p1), vL (M 6981 p1)]) (r := []) (L2 := [some (.ref 6952), some (vL (M 6980 p1)), none, some (vL (M 6981 p1)), none, none]) D412_13 (im_cal cn_412 cl_12_880) (Or.inl rfl) rfl sf_6952 rfl rfl rfl rfl hd ⟨rfl, rfl, rfl, trivial⟩ ?_
  refine hP.mono ?_
  rintro _ e20 M4 ⟨x5, rfl, rfl, hP⟩
  refine im_bkS ?_
  refine im_st1 (q := 17) (i := 2) (L' := [some (.ref 6952), some (vI p1), some (vI x5), none]) D412_16 (Or.inl ⟨_, rfl, rfl⟩) (Nat.le_of_ble_eq_true rfl) rfl ?_
  refine im_ld (q := 18) (i := 0) D412_17 rfl rfl rfl ?_
  refine im_ld (q := 19) (i := 0) D412_18 rfl rfl rfl ?_
  refine im_gfR (q := 22) (b := 6980) D412_19 (im_fl cn_412 fl_12_94) sf_6952 rfl rfl tR_12_48 rf_6952_48 ?_
  refine im_ld (q := 23) (i := 1) D412_22 rfl rfl rfl ?_
  refine im_rng (j := p1) sf_6980 hg1.1 hg1.2 (fun hr6 => ?_)
  refine im_lald (q := 24) D412_23 sf_6980 hg1.1 hg1.2 (by decide) rfl ?_
  refine im_ld (q := 25) (i := 0) D412_24 rfl rfl rfl ?_
  refine im_gfR (q := 28) (b := 6981) D412_25 (im_fl cn_412 fl_12_97) sf_6952 rfl rfl tR_12_49 rf_6952_49 ?_
  refine im_ld (q := 29) (i := 1) D412_28 rfl rfl rfl ?_
  refine im_rng (j := p1) sf_6981 hg1.1 hg1.2 (fun hr7 => ?_)
  refine im_lald (q := 30) D412_29 sf_6981 hg1.1 hg1.2 (by decide) rfl ?_
  refine im_callV (q := 33) (kd := 1) (y := 387) (n := 2) (ci := 12) (a := 6952) (vs := [.ref 6952, vL (M4 6980 p1), vL (M4 6981 p1)]) (r := []) (L2 := [some (.ref 6952), some (vL (M4 6980 p1)), none, some (vL (M4 6981 p1)), none, none]) D412_30 (im_cal cn_412 cl_12_899) (Or.inl rfl) rfl sf_6952 rfl rfl rfl rfl hd ⟨rfl, rfl, rfl, trivial⟩ ?_
  refine hP.mono ?_
  rintro _ e19 M8 ⟨x9, rfl, rfl, hP⟩
  refine im_bkS ?_
  obtain ⟨hg10, hP⟩ := hP
  refine im_ifc (q := 36) (t := 49) D412_33 rfl hg10 (fun hc11 => ?_) (fun hc11 => ?_)
  · replace hP := hP.1 hc11
    refine im_ld (q := 50) (i := 0) D412_49 rfl rfl rfl ?_
    refine im_rng (j := 89) sf_6952 (by decide) (by decide) (fun hr12 => ?_)
    refine im_gfI (q := 53) D412_50 (im_fl cn_412 fl_12_867) sf_6952 rfl rfl tI_12_89 rfl ?_
    refine im_bipush (q := 55) D412_53 rfl ?_
    refine im_icmp (q := 58) (t := 65) D412_55 rfl hr12 (by decide) (fun hc13 => ?_) (fun hc13 => ?_)
    · replace hP := hP.1 hc13
      refine im_ld (q := 66) (i := 0) D412_65 rfl rfl rfl ?_
      refine im_gfI (q := 69) D412_66 (im_fl cn_412 fl_12_867) sf_6952 rfl rfl tI_12_89 rfl ?_
      refine im_st1 (q := 70) (i := 3) (L' := [some (.ref 6952), some (vI p1), some (vI x5), some (vI (M8 6952 89))]) D412_69 (Or.inl ⟨_, rfl, rfl⟩) (Nat.le_of_ble_eq_true rfl) rfl ?_
      exact hP.wk ⟨rfl, rfl, rfl, rfl, trivial⟩
    · replace hP := hP.2 (Decidable.not_not.mp hc13)
      refine im_ld (q := 59) (i := 0) D412_58 rfl rfl rfl ?_
      refine im_bipush (q := 61) D412_59 rfl ?_
      refine im_callV (q := 64) (kd := 1) (y := 368) (n := 1) (ci := 12) (a := 6952) (vs := [.ref 6952, vI (-9)]) (r := []) (L2 := [some (.ref 6952), some (vI (-9))]) D412_61 (im_cal cn_412 cl_12_959) (Or.inl rfl) rfl sf_6952 rfl rfl rfl rfl hd ⟨rfl, rfl, trivial⟩ ?_
      refine hP.mono ?_
      rintro _ e17 M16 ⟨rfl, rfl, hP⟩
      refine im_bkN ?_
      exact im_vret (q := 65) D412_64 rfl hP
  · replace hP := hP.2 hc11
    refine im_ld (q := 37) (i := 0) D412_36 rfl rfl rfl ?_
    refine im_gfR (q := 40) (b := 7016) D412_37 (im_fl cn_412 fl_12_204) sf_6952 rfl rfl tR_12_92 rf_6952_92 ?_
    refine im_ld (q := 41) (i := 2) D412_40 rfl rfl rfl ?_
    refine im_ld (q := 42) (i := 0) D412_41 rfl rfl rfl ?_
    refine im_gfR (q := 45) (b := 6983) D412_42 (im_fl cn_412 fl_12_103) sf_6952 rfl rfl tR_12_51 rf_6952_51 ?_
    refine im_ld (q := 46) (i := 1) D412_45 rfl rfl rfl ?_
    refine im_rng (j := p1) sf_6983 hg1.1 hg1.2 (fun hr15 => ?_)
    refine im_iald (q := 47) D412_46 sf_6983 hg1.1 hg1.2 (by decide) rfl ?_
    obtain ⟨hg18, hP⟩ := hP
    refine im_iast (q := 48) D412_47 sf_7016 hg18.1 hg18.2 (by decide) hr15 ?_
    exact im_vret (q := 49) D412_48 rfl hP
set_option maxRecDepth 20000 in
set_option maxHeartbeats 4000000 in
theorem b_choose_70 {g : im_g} {d : Nat} {e : im_E} {M : im_M} {K : im_K} {p1 p2 p3 : Int} (hP : (im_i32 p3) ∧ (im_i32 p2) ∧ ((p3 ≤ p2 → (im_i32 ((M 6952 89) + 1)) ∧ (0 ≤ p1 ∧ p1 < 40) ∧ (0 ≤ p2 ∧ p2 < 41) ∧ K (.inl none) e (im_u (im_u (im_u (im_u M 6952 89 ((M 6952 89) + 1)) 7014 p2 (M 6980 p1)) 7015 p2 (M 6981 p1)) 7016 p2 (M 6983 p1))) ∧ (p2 < p3 → (0 ≤ (p3 - 1) ∧ (p3 - 1) < 41) ∧ (0 ≤ p3 ∧ p3 < 41) ∧ im_T g d 412 70 [some (.ref 6952), some (vI p1), some (vI p2), some (vI (p3 + (-1)))] [] e (im_u (im_u (im_u M 7014 p3 (M 7014 (p3 - 1))) 7015 p3 (M 7015 (p3 - 1))) 7016 p3 (M 7016 (p3 - 1))) K))) : im_T g d 412 70 [some (.ref 6952), some (vI p1), some (vI p2), some (vI p3)] [] e M K := by
  refine im_ld (q := 71) (i := 3) D412_70 rfl rfl rfl ?_
  refine im_ld (q := 72) (i := 2) D412_71 rfl rfl rfl ?_
  obtain ⟨hg1, hP⟩ := hP
  obtain ⟨hg2, hP⟩ := hP
  refine im_icmp (q := 75) (t := 123) D412_72 rfl hg1 hg2 (fun hc3 => ?_) (fun hc3 => ?_)
  · replace hP := hP.1 hc3
    refine im_ld (q := 124) (i := 0) D412_123 rfl rfl rfl ?_
    refine im_dup (q := 125) D412_124 rfl ?_
    refine im_rng (j := 89) sf_6952 (by decide) (by decide) (fun hr4 => ?_)
    refine im_gfI (q := 128) D412_125 (im_fl cn_412 fl_12_867) sf_6952 rfl rfl tI_12_89 rfl ?_
    refine im_iconst (q := 129) D412_128 ?_
    refine im_iadd (q := 130) D412_129 ?_
    obtain ⟨hg7, hP⟩ := hP
    refine im_pfI (q := 133) D412_130 (im_fl cn_412 fl_12_867) sf_6952 rfl rfl ti_12_89 hg7 ?_
    refine im_ld (q := 134) (i := 0) D412_133 rfl rfl rfl ?_
    refine im_gfR (q := 137) (b := 7014) D412_134 (im_fl cn_412 fl_12_198) sf_6952 rfl rfl tR_12_90 rf_6952_90 ?_
    refine im_ld (q := 138) (i := 2) D412_137 rfl rfl rfl ?_
    refine im_ld (q := 139) (i := 0) D412_138 rfl rfl rfl ?_
    refine im_gfR (q := 142) (b := 6980) D412_139 (im_fl cn_412 fl_12_94) sf_6952 rfl rfl tR_12_48 rf_6952_48 ?_
    refine im_ld (q := 143) (i := 1) D412_142 rfl rfl rfl ?_
    obtain ⟨hg8, hP⟩ := hP
    refine im_rng (j := p1) sf_6980 hg8.1 hg8.2 (fun hr9 => ?_)
    refine im_lald (q := 144) D412_143 sf_6980 hg8.1 hg8.2 (by decide) (im_rdn _ _ _ _ (by decide)) ?_
    obtain ⟨hg10, hP⟩ := hP
    refine im_last (q := 145) D412_144 sf_7014 hg10.1 hg10.2 (by decide) (im_rgc hr9 (im_rdn _ _ _ _ (by decide))) ?_
    refine im_ld (q := 146) (i := 0) D412_145 rfl rfl rfl ?_
    refine im_gfR (q := 149) (b := 7015) D412_146 (im_fl cn_412 fl_12_201) sf_6952 rfl rfl tR_12_91 rf_6952_91 ?_
    refine im_ld (q := 150) (i := 2) D412_149 rfl rfl rfl ?_
    refine im_ld (q := 151) (i := 0) D412_150 rfl rfl rfl ?_
    refine im_gfR (q := 154) (b := 6981) D412_151 (im_fl cn_412 fl_12_97) sf_6952 rfl rfl tR_12_49 rf_6952_49 ?_
    refine im_ld (q := 155) (i := 1) D412_154 rfl rfl rfl ?_
    refine im_rng (j := p1) sf_6981 hg8.1 hg8.2 (fun hr11 => ?_)
    refine im_lald (q := 156) D412_155 sf_6981 hg8.1 hg8.2 (by decide) ((im_rdn _ _ _ _ (by decide)).trans (im_rdn _ _ _ _ (by decide))) ?_
    refine im_last (q := 157) D412_156 sf_7015 hg10.1 hg10.2 (by decide) (im_rgc hr11 ((im_rdn _ _ _ _ (by decide)).trans (im_rdn _ _ _ _ (by decide)))) ?_
    refine im_ld (q := 158) (i := 0) D412_157 rfl rfl rfl ?_
    refine im_gfR (q := 161) (b := 7016) D412_158 (im_fl cn_412 fl_12_204) sf_6952 rfl rfl tR_12_92 rf_6952_92 ?_
    refine im_ld (q := 162) (i := 2) D412_161 rfl rfl rfl ?_
    refine im_ld (q := 163) (i := 0) D412_162 rfl rfl rfl ?_
    refine im_gfR (q := 166) (b := 6983) D412_163 (im_fl cn_412 fl_12_103) sf_6952 rfl rfl tR_12_51 rf_6952_51 ?_
    refine im_ld (q := 167) (i := 1) D412_166 rfl rfl rfl ?_
    refine im_rng (j := p1) sf_6983 hg8.1 hg8.2 (fun hr12 => ?_)
    refine im_iald (q := 168) D412_167 sf_6983 hg8.1 hg8.2 (by decide) ((im_rdn _ _ _ _ (by decide)).trans ((im_rdn _ _ _ _ (by decide)).trans (im_rdn _ _ _ _ (by decide)))) ?_
    refine im_iast (q := 169) D412_168 sf_7016 hg10.1 hg10.2 (by decide) (im_rgc hr12 ((im_rdn _ _ _ _ (by decide)).trans ((im_rdn _ _ _ _ (by decide)).trans (im_rdn _ _ _ _ (by decide))))) ?_
    exact im_vret (q := 170) D412_169 rfl hP
  · replace hP := hP.2 (Int.not_le.mp hc3)
    refine im_ld (q := 76) (i := 0) D412_75 rfl rfl rfl ?_
    refine im_gfR (q := 79) (b := 7014) D412_76 (im_fl cn_412 fl_12_198) sf_6952 rfl rfl tR_12_90 rf_6952_90 ?_
    refine im_ld (q := 80) (i := 3) D412_79 rfl rfl rfl ?_
    refine im_ld (q := 81) (i := 0) D412_80 rfl rfl rfl ?_
    refine im_gfR (q := 84) (b := 7014) D412_81 (im_fl cn_412 fl_12_198) sf_6952 rfl rfl tR_12_90 rf_6952_90 ?_
    refine im_ld (q := 85) (i := 3) D412_84 rfl rfl rfl ?_
    refine im_iconst (q := 86) D412_85 ?_
    refine im_isub (q := 87) D412_86 ?_
    obtain ⟨hg5, hP⟩ := hP
    refine im_rng (j := (p3 - 1)) sf_7014 hg5.1 hg5.2 (fun hr6 => ?_)
    refine im_lald (q := 88) D412_87 sf_7014 hg5.1 hg5.2 (by decide) rfl ?_
    obtain ⟨hg13, hP⟩ := hP
    refine im_last (q := 89) D412_88 sf_7014 hg13.1 hg13.2 (by decide) hr6 ?_
    refine im_ld (q := 90) (i := 0) D412_89 rfl rfl rfl ?_
    refine im_gfR (q := 93) (b := 7015) D412_90 (im_fl cn_412 fl_12_201) sf_6952 rfl rfl tR_12_91 rf_6952_91 ?_
    refine im_ld (q := 94) (i := 3) D412_93 rfl rfl rfl ?_
    refine im_ld (q := 95) (i := 0) D412_94 rfl rfl rfl ?_
    refine im_gfR (q := 98) (b := 7015) D412_95 (im_fl cn_412 fl_12_201) sf_6952 rfl rfl tR_12_91 rf_6952_91 ?_
    refine im_ld (q := 99) (i := 3) D412_98 rfl rfl rfl ?_
    refine im_iconst (q := 100) D412_99 ?_
    refine im_isub (q := 101) D412_100 ?_
    refine im_rng (j := (p3 - 1)) sf_7015 hg5.1 hg5.2 (fun hr14 => ?_)
    refine im_lald (q := 102) D412_101 sf_7015 hg5.1 hg5.2 (by decide) (im_rdn _ _ _ _ (by decide)) ?_
    refine im_last (q := 103) D412_102 sf_7015 hg13.1 hg13.2 (by decide) (im_rgc hr14 (im_rdn _ _ _ _ (by decide))) ?_
    refine im_ld (q := 104) (i := 0) D412_103 rfl rfl rfl ?_
    refine im_gfR (q := 107) (b := 7016) D412_104 (im_fl cn_412 fl_12_204) sf_6952 rfl rfl tR_12_92 rf_6952_92 ?_
    refine im_ld (q := 108) (i := 3) D412_107 rfl rfl rfl ?_
    refine im_ld (q := 109) (i := 0) D412_108 rfl rfl rfl ?_
    refine im_gfR (q := 112) (b := 7016) D412_109 (im_fl cn_412 fl_12_204) sf_6952 rfl rfl tR_12_92 rf_6952_92 ?_
    refine im_ld (q := 113) (i := 3) D412_112 rfl rfl rfl ?_
    refine im_iconst (q := 114) D412_113 ?_
    refine im_isub (q := 115) D412_114 ?_
    refine im_rng (j := (p3 - 1)) sf_7016 hg5.1 hg5.2 (fun hr15 => ?_)
    refine im_iald (q := 116) D412_115 sf_7016 hg5.1 hg5.2 (by decide) ((im_rdn _ _ _ _ (by decide)).trans (im_rdn _ _ _ _ (by decide))) ?_
    refine im_iast (q := 117) D412_116 sf_7016 hg13.1 hg13.2 (by decide) (im_rgc hr15 ((im_rdn _ _ _ _ (by decide)).trans (im_rdn _ _ _ _ (by decide)))) ?_
    refine im_iinc (q := 120) (i := 3) (L' := [some (.ref 6952), some (vI p1), some (vI p2), some (vI (p3 + (-1)))]) D412_117 rfl (Nat.le_of_ble_eq_true rfl) rfl ?_
    refine im_goto (q := 123) (t := 70) D412_120 rfl ?_
    exact hP.wk ⟨rfl, rfl, rfl, rfl, trivial⟩
set_option maxRecDepth 20000 in
set_option maxHeartbeats 4000000 in
theorem b_doTransact_0 {g : im_g} {d : Nat} {e : im_E} {M : im_M} {K : im_K} {p1 : Int} (hd : 1 ≤ d) (hP : im_T g (d - 1) 414 0 [some (.ref 6952), some (vI p1), none] [] e M (im_r0 (fun  e_ M1 => e = e_ ∧ im_T g (d - 1) 415 0 [some (.ref 6952), none] [] e M1 (im_r0 (fun  e_ M2 => e = e_ ∧ im_T g (d - 1) 416 0 [some (.ref 6952), none] [] e M2 (im_r0 (fun  e_ M3 => e = e_ ∧ K (.inl (some (vI 0))) e M3))))))) : im_T g d 413 0 [some (.ref 6952), some (vI p1)] [] e M K := by
  refine im_ld (q := 1) (i := 0) D413_0 rfl rfl rfl ?_
  refine im_ld (q := 2) (i := 1) D413_1 rfl rfl rfl ?_
  refine im_callV (q := 5) (kd := 1) (y := 414) (n := 1) (ci := 12) (a := 6952) (vs := [.ref 6952, vI p1]) (r := []) (L2 := [some (.ref 6952), some (vI p1), none]) D413_2 (im_cal cn_413 cl_12_1053) (Or.inl rfl) rfl sf_6952 rfl rfl rfl rfl hd ⟨rfl, rfl, trivial⟩ ?_
  refine hP.mono ?_
  rintro _ e6 M1 ⟨rfl, rfl, hP⟩
  refine im_bkN ?_
  refine im_ld (q := 6) (i := 0) D413_5 rfl rfl rfl ?_
  refine im_callV (q := 9) (kd := 1) (y := 415) (n := 0) (ci := 12) (a := 6952) (vs := [.ref 6952]) (r := []) (L2 := [some (.ref 6952), none]) D413_6 (im_cal cn_413 cl_12_1056) (Or.inl rfl) rfl sf_6952 rfl rfl rfl rfl hd ⟨rfl, trivial⟩ ?_
  refine hP.mono ?_
  rintro _ e5 M2 ⟨rfl, rfl, hP⟩
  refine im_bkN ?_
  refine im_ld (q := 10) (i := 0) D413_9 rfl rfl rfl ?_
  refine im_callV (q := 13) (kd := 1) (y := 416) (n := 0) (ci := 12) (a := 6952) (vs := [.ref 6952]) (r := []) (L2 := [some (.ref 6952), none]) D413_10 (im_cal cn_413 cl_12_1059) (Or.inl rfl) rfl sf_6952 rfl rfl rfl rfl hd ⟨rfl, trivial⟩ ?_
  refine hP.mono ?_
  rintro _ e4 M3 ⟨rfl, rfl, hP⟩
  refine im_bkN ?_
  refine im_iconst (q := 14) D413_13 ?_
  exact im_iret (q := 15) D413_14 rfl hP
set_option maxRecDepth 20000 in
set_option maxHeartbeats 4000000 in
theorem b_keepState_0 {g : im_g} {d : Nat} {e : im_E} {M : im_M} {K : im_K} {p1 : Int} (hP : (0 ≤ p1 ∧ p1 < 16) ∧ im_T g d 414 32 [some (.ref 6952), some (vI p1), some (vI 0)] [] e (im_u (im_u (im_u M 6995 p1 (M 6952 83)) 6996 p1 (M 6952 84)) 6997 p1 (M 6952 85)) K) : im_T g d 414 0 [some (.ref 6952), some (vI p1), none] [] e M K := by
  refine im_ld (q := 1) (i := 0) D414_0 rfl rfl rfl ?_
  refine im_gfR (q := 4) (b := 6995) D414_1 (im_fl cn_414 fl_12_139) sf_6952 rfl rfl tR_12_67 rf_6952_67 ?_
  refine im_ld (q := 5) (i := 1) D414_4 rfl rfl rfl ?_
  refine im_ld (q := 6) (i := 0) D414_5 rfl rfl rfl ?_
  refine im_rng (j := 83) sf_6952 (by decide) (by decide) (fun hr1 => ?_)
  refine im_gfI (q := 9) D414_6 (im_fl cn_414 fl_12_858) sf_6952 rfl rfl tI_12_83 rfl ?_
  obtain ⟨hg2, hP⟩ := hP
  refine im_iast (q := 10) D414_9 sf_6995 hg2.1 hg2.2 (by decide) hr1 ?_
  refine im_ld (q := 11) (i := 0) D414_10 rfl rfl rfl ?_
  refine im_gfR (q := 14) (b := 6996) D414_11 (im_fl cn_414 fl_12_142) sf_6952 rfl rfl tR_12_68 rf_6952_68 ?_
  refine im_ld (q := 15) (i := 1) D414_14 rfl rfl rfl ?_
  refine im_ld (q := 16) (i := 0) D414_15 rfl rfl rfl ?_
  refine im_rng (j := 84) sf_6952 (by decide) (by decide) (fun hr3 => ?_)
  refine im_gfL (q := 19) D414_16 (im_fl cn_414 fl_12_861) sf_6952 rfl rfl tL_12_84 (im_rdn _ _ _ _ (by decide)) ?_
  refine im_last (q := 20) D414_19 sf_6996 hg2.1 hg2.2 (by decide) (im_rgc hr3 (im_rdn _ _ _ _ (by decide))) ?_
  refine im_ld (q := 21) (i := 0) D414_20 rfl rfl rfl ?_
  refine im_gfR (q := 24) (b := 6997) D414_21 (im_fl cn_414 fl_12_145) sf_6952 rfl rfl tR_12_69 rf_6952_69 ?_
  refine im_ld (q := 25) (i := 1) D414_24 rfl rfl rfl ?_
  refine im_ld (q := 26) (i := 0) D414_25 rfl rfl rfl ?_
  refine im_rng (j := 85) sf_6952 (by decide) (by decide) (fun hr4 => ?_)
  refine im_gfI (q := 29) D414_26 (im_fl cn_414 fl_12_864) sf_6952 rfl rfl tI_12_85 ((im_rdn _ _ _ _ (by decide)).trans (im_rdn _ _ _ _ (by decide))) ?_
  refine im_iast (q := 30) D414_29 sf_6997 hg2.1 hg2.2 (by decide) (im_rgc hr4 ((im_rdn _ _ _ _ (by decide)).trans (im_rdn _ _ _ _ (by decide)))) ?_
  refine im_iconst (q := 31) D414_30 ?_
  refine im_st1 (q := 32) (i := 2) (L' := [some (.ref 6952), some (vI p1), some (vI 0)]) D414_31 (Or.inl ⟨_, rfl, rfl⟩) (Nat.le_of_ble_eq_true rfl) rfl ?_
  exact hP.wk ⟨rfl, rfl, rfl, trivial⟩
set_option maxRecDepth 20000 in
set_option maxHeartbeats 4000000 in
theorem b_keepState_32 {g : im_g} {d : Nat} {e : im_E} {M : im_M} {K : im_K} {p1 p2 : Int} (hd : 1 ≤ d) (hP : (im_i32 p2) ∧ (((M 6952 85) ≤ p2 → (0 ≤ p1 ∧ p1 < 16) ∧ im_T g d 414 112 [some (.ref 6952), some (vI p1), some (vI 0)] [] e (im_u M 7001 p1 (M 6952 89)) K) ∧ (p2 < (M 6952 85) → (0 ≤ p2 ∧ p2 < 41) ∧ (0 ≤ ((40 * p1) + p2) ∧ ((40 * p1) + p2) < 640) ∧ im_T g (d - 1) 340 0 [some (.ref 6952), some (.ref 7000), some (vI ((40 * p1) + p2)), some (vI (M 7013 p2)), none] [] e (im_u (im_u M 6998 ((40 * p1) + p2) (M 7011 p2)) 6999 ((40 * p1) + p2) (M 7012 p2)) (im_r0 (fun  e_ M11 => e = e_ ∧ im_T g d 414 32 [some (.ref 6952), some (vI p1), some (vI (p2 + 1))] [] e M11 K))))) : im_T g d 414 32 [some (.ref 6952), some (vI p1), some (vI p2)] [] e M K := by
  refine im_ld (q := 33) (i := 2) D414_32 rfl rfl rfl ?_
  refine im_ld (q := 34) (i := 0) D414_33 rfl rfl rfl ?_
  refine im_rng (j := 85) sf_6952 (by decide) (by decide) (fun hr1 => ?_)
  refine im_gfI (q := 37) D414_34 (im_fl cn_414 fl_12_864) sf_6952 rfl rfl tI_12_85 rfl ?_
  obtain ⟨hg2, hP⟩ := hP
  refine im_icmp (q := 40) (t := 100) D414_37 rfl hg2 hr1 (fun hc3 => ?_) (fun hc3 => ?_)
  · replace hP := hP.1 hc3
    refine im_ld (q := 101) (i := 0) D414_100 rfl rfl rfl ?_
    refine im_gfR (q := 104) (b := 7001) D414_101 (im_fl cn_414 fl_12_158) sf_6952 rfl rfl tR_12_73 rf_6952_73 ?_
    refine im_ld (q := 105) (i := 1) D414_104 rfl rfl rfl ?_
    refine im_ld (q := 106) (i := 0) D414_105 rfl rfl rfl ?_
    refine im_rng (j := 89) sf_6952 (by decide) (by decide) (fun hr4 => ?_)
    refine im_gfI (q := 109) D414_106 (im_fl cn_414 fl_12_867) sf_6952 rfl rfl tI_12_89 rfl ?_
    obtain ⟨hg7, hP⟩ := hP
    refine im_iast (q := 110) D414_109 sf_7001 hg7.1 hg7.2 (by decide) hr4 ?_
    refine im_iconst (q := 111) D414_110 ?_
    refine im_st1 (q := 112) (i := 2) (L' := [some (.ref 6952), some (vI p1), some (vI 0)]) D414_111 (Or.inl ⟨_, rfl, rfl⟩) (Nat.le_of_ble_eq_true rfl) rfl ?_
    exact hP.wk ⟨rfl, rfl, rfl, trivial⟩
  · replace hP := hP.2 (Int.not_le.mp hc3)
    refine im_ld (q := 41) (i := 0) D414_40 rfl rfl rfl ?_
    refine im_gfR (q := 44) (b := 6998) D414_41 (im_fl cn_414 fl_12_148) sf_6952 rfl rfl tR_12_70 rf_6952_70 ?_
    refine im_bipush (q := 46) D414_44 rfl ?_
    refine im_ld (q := 47) (i := 1) D414_46 rfl rfl rfl ?_
    refine im_imul (q := 48) D414_47 ?_
    refine im_ld (q := 49) (i := 2) D414_48 rfl rfl rfl ?_
    refine im_iadd (q := 50) D414_49 ?_
    refine im_ld (q := 51) (i := 0) D414_50 rfl rfl rfl ?_
    refine im_gfR (q := 54) (b := 7011) D414_51 (im_fl cn_414 fl_12_189) sf_6952 rfl rfl tR_12_86 rf_6952_86 ?_
    refine im_ld (q := 55) (i := 2) D414_54 rfl rfl rfl ?_
    obtain ⟨hg5, hP⟩ := hP
    refine im_rng (j := p2) sf_7011 hg5.1 hg5.2 (fun hr6 => ?_)
    refine im_lald (q := 56) D414_55 sf_7011 hg5.1 hg5.2 (by decide) rfl ?_
    obtain ⟨hg8, hP⟩ := hP
    refine im_last (q := 57) D414_56 sf_6998 hg8.1 hg8.2 (by decide) hr6 ?_
    refine im_ld (q := 58) (i := 0) D414_57 rfl rfl rfl ?_
    refine im_gfR (q := 61) (b := 6999) D414_58 (im_fl cn_414 fl_12_151) sf_6952 rfl rfl tR_12_71 rf_6952_71 ?_
    refine im_bipush (q := 63) D414_61 rfl ?_
    refine im_ld (q := 64) (i := 1) D414_63 rfl rfl rfl ?_
    refine im_imul (q := 65) D414_64 ?_
    refine im_ld (q := 66) (i := 2) D414_65 rfl rfl rfl ?_
    refine im_iadd (q := 67) D414_66 ?_
    refine im_ld (q := 68) (i := 0) D414_67 rfl rfl rfl ?_
    refine im_gfR (q := 71) (b := 7012) D414_68 (im_fl cn_414 fl_12_192) sf_6952 rfl rfl tR_12_87 rf_6952_87 ?_
    refine im_ld (q := 72) (i := 2) D414_71 rfl rfl rfl ?_
    refine im_rng (j := p2) sf_7012 hg5.1 hg5.2 (fun hr9 => ?_)
    refine im_lald (q := 73) D414_72 sf_7012 hg5.1 hg5.2 (by decide) (im_rdn _ _ _ _ (by decide)) ?_
    refine im_last (q := 74) D414_73 sf_6999 hg8.1 hg8.2 (by decide) (im_rgc hr9 (im_rdn _ _ _ _ (by decide))) ?_
    refine im_ld (q := 75) (i := 0) D414_74 rfl rfl rfl ?_
    refine im_ld (q := 76) (i := 0) D414_75 rfl rfl rfl ?_
    refine im_gfR (q := 79) (b := 7000) D414_76 (im_fl cn_414 fl_12_155) sf_6952 rfl rfl tR_12_72 rf_6952_72 ?_
    refine im_bipush (q := 81) D414_79 rfl ?_
    refine im_ld (q := 82) (i := 1) D414_81 rfl rfl rfl ?_
    refine im_imul (q := 83) D414_82 ?_
    refine im_ld (q := 84) (i := 2) D414_83 rfl rfl rfl ?_
    refine im_iadd (q := 85) D414_84 ?_
    refine im_ld (q := 86) (i := 0) D414_85 rfl rfl rfl ?_
    refine im_gfR (q := 89) (b := 7013) D414_86 (im_fl cn_414 fl_12_195) sf_6952 rfl rfl tR_12_88 rf_6952_88 ?_
    refine im_ld (q := 90) (i := 2) D414_89 rfl rfl rfl ?_
    refine im_rng (j := p2) sf_7013 hg5.1 hg5.2 (fun hr10 => ?_)
    refine im_iald (q := 91) D414_90 sf_7013 hg5.1 hg5.2 (by decide) ((im_rdn _ _ _ _ (by decide)).trans (im_rdn _ _ _ _ (by decide))) ?_
    refine im_callV (q := 94) (kd := 1) (y := 340) (n := 3) (ci := 12) (a := 6952) (vs := [.ref 6952, .ref 7000, vI ((40 * p1) + p2), vI (M 7013 p2)]) (r := []) (L2 := [some (.ref 6952), some (.ref 7000), some (vI ((40 * p1) + p2)), some (vI (M 7013 p2)), none]) D414_91 (im_cal cn_414 cl_12_816) (Or.inl rfl) rfl sf_6952 rfl rfl rfl rfl hd ⟨rfl, rfl, rfl, rfl, trivial⟩ ?_
    refine hP.mono ?_
    rintro _ e12 M11 ⟨rfl, rfl, hP⟩
    refine im_bkN ?_
    refine im_iinc (q := 97) (i := 2) (L' := [some (.ref 6952), some (vI p1), some (vI (p2 + 1))]) D414_94 rfl (Nat.le_of_ble_eq_true rfl) rfl ?_
    refine im_goto (q := 100) (t := 32) D414_97 rfl ?_
    exact hP.wk ⟨rfl, rfl, rfl, trivial⟩
set_option maxRecDepth 20000 in
set_option maxHeartbeats 4000000 in
theorem b_keepState_112 {g : im_g} {d : Nat} {e : im_E} {M : im_M} {K : im_K} {p1 p2 : Int} (hd : 1 ≤ d) (hP : (im_i32 p2) ∧ (((M 6952 89) ≤ p2 → (0 ≤ p1 ∧ p1 < 16) ∧ im_T g d 414 192 [some (.ref 6952), some (vI p1), some (vI 0)] [] e (im_u M 7005 p1 (M 6952 93)) K) ∧ (p2 < (M 6952 89) → (0 ≤ p2 ∧ p2 < 41) ∧ (0 ≤ ((40 * p1) + p2) ∧ ((40 * p1) + p2) < 640) ∧ im_T g (d - 1) 340 0 [some (.ref 6952), some (.ref 7004), some (vI ((40 * p1) + p2)), some (vI (M 7016 p2)), none] [] e (im_u (im_u M 7002 ((40 * p1) + p2) (M 7014 p2)) 7003 ((40 * p1) + p2) (M 7015 p2)) (im_r0 (fun  e_ M11 => e = e_ ∧ im_T g d 414 112 [some (.ref 6952), some (vI p1), some (vI (p2 + 1))] [] e M11 K))))) : im_T g d 414 112 [some (.ref 6952), some (vI p1), some (vI p2)] [] e M K := by
  refine im_ld (q := 113) (i := 2) D414_112 rfl rfl rfl ?_
  refine im_ld (q := 114) (i := 0) D414_113 rfl rfl rfl ?_
  refine im_rng (j := 89) sf_6952 (by decide) (by decide) (fun hr1 => ?_)
  refine im_gfI (q := 117) D414_114 (im_fl cn_414 fl_12_867) sf_6952 rfl rfl tI_12_89 rfl ?_
  obtain ⟨hg2, hP⟩ := hP
  refine im_icmp (q := 120) (t := 180) D414_117 rfl hg2 hr1 (fun hc3 => ?_) (fun hc3 => ?_)
  · replace hP := hP.1 hc3
    refine im_ld (q := 181) (i := 0) D414_180 rfl rfl rfl ?_
    refine im_gfR (q := 184) (b := 7005) D414_181 (im_fl cn_414 fl_12_170) sf_6952 rfl rfl tR_12_77 rf_6952_77 ?_
    refine im_ld (q := 185) (i := 1) D414_184 rfl rfl rfl ?_
    refine im_ld (q := 186) (i := 0) D414_185 rfl rfl rfl ?_
    refine im_rng (j := 93) sf_6952 (by decide) (by decide) (fun hr4 => ?_)
    refine im_gfI (q := 189) D414_186 (im_fl cn_414 fl_12_870) sf_6952 rfl rfl tI_12_93 rfl ?_
    obtain ⟨hg7, hP⟩ := hP
    refine im_iast (q := 190) D414_189 sf_7005 hg7.1 hg7.2 (by decide) hr4 ?_
    refine im_iconst (q := 191) D414_190 ?_
    refine im_st1 (q := 192) (i := 2) (L' := [some (.ref 6952), some (vI p1), some (vI 0)]) D414_191 (Or.inl ⟨_, rfl, rfl⟩) (Nat.le_of_ble_eq_true rfl) rfl ?_
    exact hP.wk ⟨rfl, rfl, rfl, trivial⟩
  · replace hP := hP.2 (Int.not_le.mp hc3)
    refine im_ld (q := 121) (i := 0) D414_120 rfl rfl rfl ?_
    refine im_gfR (q := 124) (b := 7002) D414_121 (im_fl cn_414 fl_12_161) sf_6952 rfl rfl tR_12_74 rf_6952_74 ?_
    refine im_bipush (q := 126) D414_124 rfl ?_
    refine im_ld (q := 127) (i := 1) D414_126 rfl rfl rfl ?_
    refine im_imul (q := 128) D414_127 ?_
    refine im_ld (q := 129) (i := 2) D414_128 rfl rfl rfl ?_
    refine im_iadd (q := 130) D414_129 ?_
    refine im_ld (q := 131) (i := 0) D414_130 rfl rfl rfl ?_
    refine im_gfR (q := 134) (b := 7014) D414_131 (im_fl cn_414 fl_12_198) sf_6952 rfl rfl tR_12_90 rf_6952_90 ?_
    refine im_ld (q := 135) (i := 2) D414_134 rfl rfl rfl ?_
    obtain ⟨hg5, hP⟩ := hP
    refine im_rng (j := p2) sf_7014 hg5.1 hg5.2 (fun hr6 => ?_)
    refine im_lald (q := 136) D414_135 sf_7014 hg5.1 hg5.2 (by decide) rfl ?_
    obtain ⟨hg8, hP⟩ := hP
    refine im_last (q := 137) D414_136 sf_7002 hg8.1 hg8.2 (by decide) hr6 ?_
    refine im_ld (q := 138) (i := 0) D414_137 rfl rfl rfl ?_
    refine im_gfR (q := 141) (b := 7003) D414_138 (im_fl cn_414 fl_12_164) sf_6952 rfl rfl tR_12_75 rf_6952_75 ?_
    refine im_bipush (q := 143) D414_141 rfl ?_
    refine im_ld (q := 144) (i := 1) D414_143 rfl rfl rfl ?_
    refine im_imul (q := 145) D414_144 ?_
    refine im_ld (q := 146) (i := 2) D414_145 rfl rfl rfl ?_
    refine im_iadd (q := 147) D414_146 ?_
    refine im_ld (q := 148) (i := 0) D414_147 rfl rfl rfl ?_
    refine im_gfR (q := 151) (b := 7015) D414_148 (im_fl cn_414 fl_12_201) sf_6952 rfl rfl tR_12_91 rf_6952_91 ?_
    refine im_ld (q := 152) (i := 2) D414_151 rfl rfl rfl ?_
    refine im_rng (j := p2) sf_7015 hg5.1 hg5.2 (fun hr9 => ?_)
    refine im_lald (q := 153) D414_152 sf_7015 hg5.1 hg5.2 (by decide) (im_rdn _ _ _ _ (by decide)) ?_
    refine im_last (q := 154) D414_153 sf_7003 hg8.1 hg8.2 (by decide) (im_rgc hr9 (im_rdn _ _ _ _ (by decide))) ?_
    refine im_ld (q := 155) (i := 0) D414_154 rfl rfl rfl ?_
    refine im_ld (q := 156) (i := 0) D414_155 rfl rfl rfl ?_
    refine im_gfR (q := 159) (b := 7004) D414_156 (im_fl cn_414 fl_12_167) sf_6952 rfl rfl tR_12_76 rf_6952_76 ?_
    refine im_bipush (q := 161) D414_159 rfl ?_
    refine im_ld (q := 162) (i := 1) D414_161 rfl rfl rfl ?_
    refine im_imul (q := 163) D414_162 ?_
    refine im_ld (q := 164) (i := 2) D414_163 rfl rfl rfl ?_
    refine im_iadd (q := 165) D414_164 ?_
    refine im_ld (q := 166) (i := 0) D414_165 rfl rfl rfl ?_
    refine im_gfR (q := 169) (b := 7016) D414_166 (im_fl cn_414 fl_12_204) sf_6952 rfl rfl tR_12_92 rf_6952_92 ?_
    refine im_ld (q := 170) (i := 2) D414_169 rfl rfl rfl ?_
    refine im_rng (j := p2) sf_7016 hg5.1 hg5.2 (fun hr10 => ?_)
    refine im_iald (q := 171) D414_170 sf_7016 hg5.1 hg5.2 (by decide) ((im_rdn _ _ _ _ (by decide)).trans (im_rdn _ _ _ _ (by decide))) ?_
    refine im_callV (q := 174) (kd := 1) (y := 340) (n := 3) (ci := 12) (a := 6952) (vs := [.ref 6952, .ref 7004, vI ((40 * p1) + p2), vI (M 7016 p2)]) (r := []) (L2 := [some (.ref 6952), some (.ref 7004), some (vI ((40 * p1) + p2)), some (vI (M 7016 p2)), none]) D414_171 (im_cal cn_414 cl_12_816) (Or.inl rfl) rfl sf_6952 rfl rfl rfl rfl hd ⟨rfl, rfl, rfl, rfl, trivial⟩ ?_
    refine hP.mono ?_
    rintro _ e12 M11 ⟨rfl, rfl, hP⟩
    refine im_bkN ?_
    refine im_iinc (q := 177) (i := 2) (L' := [some (.ref 6952), some (vI p1), some (vI (p2 + 1))]) D414_174 rfl (Nat.le_of_ble_eq_true rfl) rfl ?_
    refine im_goto (q := 180) (t := 112) D414_177 rfl ?_
    exact hP.wk ⟨rfl, rfl, rfl, trivial⟩
set_option maxRecDepth 20000 in
set_option maxHeartbeats 4000000 in
theorem b_keepState_192 {g : im_g} {d : Nat} {e : im_E} {M : im_M} {K : im_K} {p1 p2 : Int} (hd : 1 ≤ d) (hP : (im_i32 p2) ∧ (((M 6952 93) ≤ p2 → K (.inl none) e M) ∧ (p2 < (M 6952 93) → (0 ≤ p2 ∧ p2 < 41) ∧ (0 ≤ ((40 * p1) + p2) ∧ ((40 * p1) + p2) < 640) ∧ im_T g (d - 1) 340 0 [some (.ref 6952), some (.ref 7007), some (vI ((40 * p1) + p2)), some (vI (M 7018 p2)), none] [] e (im_u M 7006 ((40 * p1) + p2) (M 7017 p2)) (im_r0 (fun  e_ M8 => e = e_ ∧ im_T g d 414 192 [some (.ref 6952), some (vI p1), some (vI (p2 + 1))] [] e M8 K))))) : im_T g d 414 192 [some (.ref 6952), some (vI p1), some (vI p2)] [] e M K := by
  refine im_ld (q := 193) (i := 2) D414_192 rfl rfl rfl ?_
  refine im_ld (q := 194) (i := 0) D414_193 rfl rfl rfl ?_
  refine im_rng (j := 93) sf_6952 (by decide) (by decide) (fun hr1 => ?_)
  refine im_gfI (q := 197) D414_194 (im_fl cn_414 fl_12_870) sf_6952 rfl rfl tI_12_93 rfl ?_
  obtain ⟨hg2, hP⟩ := hP
  refine im_icmp (q := 200) (t := 243) D414_197 rfl hg2 hr1 (fun hc3 => ?_) (fun hc3 => ?_)
  · replace hP := hP.1 hc3
    exact im_vret (q := 244) D414_243 rfl hP
  · replace hP := hP.2 (Int.not_le.mp hc3)
    refine im_ld (q := 201) (i := 0) D414_200 rfl rfl rfl ?_
    refine im_gfR (q := 204) (b := 7006) D414_201 (im_fl cn_414 fl_12_173) sf_6952 rfl rfl tR_12_78 rf_6952_78 ?_
    refine im_bipush (q := 206) D414_204 rfl ?_
    refine im_ld (q := 207) (i := 1) D414_206 rfl rfl rfl ?_
    refine im_imul (q := 208) D414_207 ?_
    refine im_ld (q := 209) (i := 2) D414_208 rfl rfl rfl ?_
    refine im_iadd (q := 210) D414_209 ?_
    refine im_ld (q := 211) (i := 0) D414_210 rfl rfl rfl ?_
    refine im_gfR (q := 214) (b := 7017) D414_211 (im_fl cn_414 fl_12_207) sf_6952 rfl rfl tR_12_94 rf_6952_94 ?_
    refine im_ld (q := 215) (i := 2) D414_214 rfl rfl rfl ?_
    obtain ⟨hg4, hP⟩ := hP
    refine im_rng (j := p2) sf_7017 hg4.1 hg4.2 (fun hr5 => ?_)
    refine im_lald (q := 216) D414_215 sf_7017 hg4.1 hg4.2 (by decide) rfl ?_
    obtain ⟨hg6, hP⟩ := hP
    refine im_last (q := 217) D414_216 sf_7006 hg6.1 hg6.2 (by decide) hr5 ?_
    refine im_ld (q := 218) (i := 0) D414_217 rfl rfl rfl ?_
    refine im_ld (q := 219) (i := 0) D414_218 rfl rfl rfl ?_
    refine im_gfR (q := 222) (b := 7007) D414_219 (im_fl cn_414 fl_12_176) sf_6952 rfl rfl tR_12_79 rf_6952_79 ?_
    refine im_bipush (q := 224) D414_222 rfl ?_
    refine im_ld (q := 225) (i := 1) D414_224 rfl rfl rfl ?_
    refine im_imul (q := 226) D414_225 ?_
    refine im_ld (q := 227) (i := 2) D414_226 rfl rfl rfl ?_
    refine im_iadd (q := 228) D414_227 ?_
    refine im_ld (q := 229) (i := 0) D414_228 rfl rfl rfl ?_
    refine im_gfR (q := 232) (b := 7018) D414_229 (im_fl cn_414 fl_12_210) sf_6952 rfl rfl tR_12_95 rf_6952_95 ?_
    refine im_ld (q := 233) (i := 2) D414_232 rfl rfl rfl ?_
    refine im_rng (j := p2) sf_7018 hg4.1 hg4.2 (fun hr7 => ?_)
    refine im_iald (q := 234) D414_233 sf_7018 hg4.1 hg4.2 (by decide) (im_rdn _ _ _ _ (by decide)) ?_
    refine im_callV (q := 237) (kd := 1) (y := 340) (n := 3) (ci := 12) (a := 6952) (vs := [.ref 6952, .ref 7007, vI ((40 * p1) + p2), vI (M 7018 p2)]) (r := []) (L2 := [some (.ref 6952), some (.ref 7007), some (vI ((40 * p1) + p2)), some (vI (M 7018 p2)), none]) D414_234 (im_cal cn_414 cl_12_816) (Or.inl rfl) rfl sf_6952 rfl rfl rfl rfl hd ⟨rfl, rfl, rfl, rfl, trivial⟩ ?_
    refine hP.mono ?_
    rintro _ e9 M8 ⟨rfl, rfl, hP⟩
    refine im_bkN ?_
    refine im_iinc (q := 240) (i := 2) (L' := [some (.ref 6952), some (vI p1), some (vI (p2 + 1))]) D414_237 rfl (Nat.le_of_ble_eq_true rfl) rfl ?_
    refine im_goto (q := 243) (t := 192) D414_240 rfl ?_
    exact hP.wk ⟨rfl, rfl, rfl, trivial⟩
set_option maxRecDepth 20000 in
set_option maxHeartbeats 4000000 in
theorem b_keepWallets_0 {g : im_g} {d : Nat} {e : im_E} {M : im_M} {K : im_K} (hP : im_T g d 415 10 [some (.ref 6952), some (vI 0)] [] e (im_u M 6952 130 (M 6952 116)) K) : im_T g d 415 0 [some (.ref 6952), none] [] e M K := by
  refine im_ld (q := 1) (i := 0) D415_0 rfl rfl rfl ?_
  refine im_ld (q := 2) (i := 0) D415_1 rfl rfl rfl ?_
  refine im_rng (j := 116) sf_6952 (by decide) (by decide) (fun hr1 => ?_)
  refine im_gfI (q := 5) D415_2 (im_fl cn_415 fl_12_965) sf_6952 rfl rfl tI_12_116 rfl ?_
  refine im_pfI (q := 8) D415_5 (im_fl cn_415 fl_12_1032) sf_6952 rfl rfl ti_12_130 hr1 ?_
  refine im_iconst (q := 9) D415_8 ?_
  refine im_st1 (q := 10) (i := 1) (L' := [some (.ref 6952), some (vI 0)]) D415_9 (Or.inl ⟨_, rfl, rfl⟩) (Nat.le_of_ble_eq_true rfl) rfl ?_
  exact hP.wk ⟨rfl, rfl, trivial⟩
set_option maxRecDepth 20000 in
set_option maxHeartbeats 4000000 in
theorem b_keepWallets_10 {g : im_g} {d : Nat} {e : im_E} {M : im_M} {K : im_K} {p1 : Int} (hd : 1 ≤ d) (hP : (im_i32 p1) ∧ (((M 6952 116) ≤ p1 → K (.inl none) e M) ∧ (p1 < (M 6952 116) → (0 ≤ p1 ∧ p1 < 61) ∧ (0 ≤ p1 ∧ p1 < 60) ∧ im_T g (d - 1) 340 0 [some (.ref 6952), some (.ref 7044), some (vI p1), some (vI (M 7033 p1)), none] [] e (im_u (im_u M 7042 p1 (M 7031 p1)) 7043 p1 (M 7032 p1)) (im_r0 (fun  e_ M9 => e = e_ ∧ im_T g d 415 10 [some (.ref 6952), some (vI (p1 + 1))] [] e M9 K))))) : im_T g d 415 10 [some (.ref 6952), some (vI p1)] [] e M K := by
  refine im_ld (q := 11) (i := 1) D415_10 rfl rfl rfl ?_
  refine im_ld (q := 12) (i := 0) D415_11 rfl rfl rfl ?_
  refine im_rng (j := 116) sf_6952 (by decide) (by decide) (fun hr1 => ?_)
  refine im_gfI (q := 15) D415_12 (im_fl cn_415 fl_12_965) sf_6952 rfl rfl tI_12_116 rfl ?_
  obtain ⟨hg2, hP⟩ := hP
  refine im_icmp (q := 18) (t := 63) D415_15 rfl hg2 hr1 (fun hc3 => ?_) (fun hc3 => ?_)
  · replace hP := hP.1 hc3
    exact im_vret (q := 64) D415_63 rfl hP
  · replace hP := hP.2 (Int.not_le.mp hc3)
    refine im_ld (q := 19) (i := 0) D415_18 rfl rfl rfl ?_
    refine im_gfR (q := 22) (b := 7042) D415_19 (im_fl cn_415 fl_12_282) sf_6952 rfl rfl tR_12_131 rf_6952_131 ?_
    refine im_ld (q := 23) (i := 1) D415_22 rfl rfl rfl ?_
    refine im_ld (q := 24) (i := 0) D415_23 rfl rfl rfl ?_
    refine im_gfR (q := 27) (b := 7031) D415_24 (im_fl cn_415 fl_12_249) sf_6952 rfl rfl tR_12_117 rf_6952_117 ?_
    refine im_ld (q := 28) (i := 1) D415_27 rfl rfl rfl ?_
    obtain ⟨hg4, hP⟩ := hP
    refine im_rng (j := p1) sf_7031 hg4.1 hg4.2 (fun hr5 => ?_)
    refine im_lald (q := 29) D415_28 sf_7031 hg4.1 hg4.2 (by decide) rfl ?_
    obtain ⟨hg6, hP⟩ := hP
    refine im_last (q := 30) D415_29 sf_7042 hg6.1 hg6.2 (by decide) hr5 ?_
    refine im_ld (q := 31) (i := 0) D415_30 rfl rfl rfl ?_
    refine im_gfR (q := 34) (b := 7043) D415_31 (im_fl cn_415 fl_12_285) sf_6952 rfl rfl tR_12_132 rf_6952_132 ?_
    refine im_ld (q := 35) (i := 1) D415_34 rfl rfl rfl ?_
    refine im_ld (q := 36) (i := 0) D415_35 rfl rfl rfl ?_
    refine im_gfR (q := 39) (b := 7032) D415_36 (im_fl cn_415 fl_12_252) sf_6952 rfl rfl tR_12_118 rf_6952_118 ?_
    refine im_ld (q := 40) (i := 1) D415_39 rfl rfl rfl ?_
    refine im_rng (j := p1) sf_7032 hg4.1 hg4.2 (fun hr7 => ?_)
    refine im_lald (q := 41) D415_40 sf_7032 hg4.1 hg4.2 (by decide) (im_rdn _ _ _ _ (by decide)) ?_
    refine im_last (q := 42) D415_41 sf_7043 hg6.1 hg6.2 (by decide) (im_rgc hr7 (im_rdn _ _ _ _ (by decide))) ?_
    refine im_ld (q := 43) (i := 0) D415_42 rfl rfl rfl ?_
    refine im_ld (q := 44) (i := 0) D415_43 rfl rfl rfl ?_
    refine im_gfR (q := 47) (b := 7044) D415_44 (im_fl cn_415 fl_12_288) sf_6952 rfl rfl tR_12_133 rf_6952_133 ?_
    refine im_ld (q := 48) (i := 1) D415_47 rfl rfl rfl ?_
    refine im_ld (q := 49) (i := 0) D415_48 rfl rfl rfl ?_
    refine im_gfR (q := 52) (b := 7033) D415_49 (im_fl cn_415 fl_12_255) sf_6952 rfl rfl tR_12_119 rf_6952_119 ?_
    refine im_ld (q := 53) (i := 1) D415_52 rfl rfl rfl ?_
    refine im_rng (j := p1) sf_7033 hg4.1 hg4.2 (fun hr8 => ?_)
    refine im_iald (q := 54) D415_53 sf_7033 hg4.1 hg4.2 (by decide) ((im_rdn _ _ _ _ (by decide)).trans (im_rdn _ _ _ _ (by decide))) ?_
    refine im_callV (q := 57) (kd := 1) (y := 340) (n := 3) (ci := 12) (a := 6952) (vs := [.ref 6952, .ref 7044, vI p1, vI (M 7033 p1)]) (r := []) (L2 := [some (.ref 6952), some (.ref 7044), some (vI p1), some (vI (M 7033 p1)), none]) D415_54 (im_cal cn_415 cl_12_816) (Or.inl rfl) rfl sf_6952 rfl rfl rfl rfl hd ⟨rfl, rfl, rfl, rfl, trivial⟩ ?_
    refine hP.mono ?_
    rintro _ e10 M9 ⟨rfl, rfl, hP⟩
    refine im_bkN ?_
    refine im_iinc (q := 60) (i := 1) (L' := [some (.ref 6952), some (vI (p1 + 1))]) D415_57 rfl (Nat.le_of_ble_eq_true rfl) rfl ?_
    refine im_goto (q := 63) (t := 10) D415_60 rfl ?_
    exact hP.wk ⟨rfl, rfl, trivial⟩

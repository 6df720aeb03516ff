/-! blocks of the class -/
theorem D111_0 {g : im_g} : im_D g 111 0 (.iconst 0) 1 := im_D.of (by decide +kernel)
theorem D111_1 {g : im_g} : im_D g 111 1 (.istore_n 1) 2 := im_D.of (by decide +kernel)
theorem D111_2 {g : im_g} : im_D g 111 2 (.iload_n 1) 3 := im_D.of (by decide +kernel)
theorem D111_3 {g : im_g} : im_D g 111 3 (.sipush 1000) 6 := im_D.of (by decide +kernel)
theorem D111_6 {g : im_g} : im_D g 111 6 (.if_icmp .ge 234) 9 := im_D.of (by decide +kernel)
theorem D111_9 {g : im_g} : im_D g 111 9 (.aload_n 0) 10 := im_D.of (by decide +kernel)
theorem D111_10 {g : im_g} : im_D g 111 10 (.getfield 31) 13 := im_D.of (by decide +kernel)
theorem D111_13 {g : im_g} : im_D g 111 13 (.getfield 183) 16 := im_D.of (by decide +kernel)
theorem D111_16 {g : im_g} : im_D g 111 16 (.istore_n 2) 17 := im_D.of (by decide +kernel)
theorem D111_17 {g : im_g} : im_D g 111 17 (.aload_n 0) 18 := im_D.of (by decide +kernel)
theorem D111_18 {g : im_g} : im_D g 111 18 (.getfield 55) 21 := im_D.of (by decide +kernel)
theorem D111_21 {g : im_g} : im_D g 111 21 (.getfield 89) 24 := im_D.of (by decide +kernel)
theorem D111_24 {g : im_g} : im_D g 111 24 (.iload_n 2) 25 := im_D.of (by decide +kernel)
theorem D111_25 {g : im_g} : im_D g 111 25 (.iaload) 26 := im_D.of (by decide +kernel)
theorem D111_26 {g : im_g} : im_D g 111 26 (.istore_n 3) 27 := im_D.of (by decide +kernel)
theorem D111_27 {g : im_g} : im_D g 111 27 (.iload_n 3) 28 := im_D.of (by decide +kernel)
theorem D111_28 {g : im_g} : im_D g 111 28 (.ifCond .eq 8) 31 := im_D.of (by decide +kernel)
theorem D111_31 {g : im_g} : im_D g 111 31 (.iload_n 3) 32 := im_D.of (by decide +kernel)
theorem D111_32 {g : im_g} : im_D g 111 32 (.iconst 3) 33 := im_D.of (by decide +kernel)
theorem D111_33 {g : im_g} : im_D g 111 33 (.if_icmp .ne 16) 36 := im_D.of (by decide +kernel)
theorem D111_36 {g : im_g} : im_D g 111 36 (.aload_n 0) 37 := im_D.of (by decide +kernel)
theorem D111_37 {g : im_g} : im_D g 111 37 (.aload_n 0) 38 := im_D.of (by decide +kernel)
theorem D111_38 {g : im_g} : im_D g 111 38 (.getfield 83) 41 := im_D.of (by decide +kernel)
theorem D111_41 {g : im_g} : im_D g 111 41 (.invokevirtual 199) 44 := im_D.of (by decide +kernel)
theorem D111_44 {g : im_g} : im_D g 111 44 (.ifCond .eq 5) 47 := im_D.of (by decide +kernel)
theorem D111_47 {g : im_g} : im_D g 111 47 (.iconst 0) 48 := im_D.of (by decide +kernel)
theorem D111_48 {g : im_g} : im_D g 111 48 (.ireturn) 49 := im_D.of (by decide +kernel)
theorem D111_49 {g : im_g} : im_D g 111 49 (.iload_n 3) 50 := im_D.of (by decide +kernel)
theorem D111_50 {g : im_g} : im_D g 111 50 (.iconst 3) 51 := im_D.of (by decide +kernel)
theorem D111_51 {g : im_g} : im_D g 111 51 (.if_icmp .ne 13) 54 := im_D.of (by decide +kernel)
theorem D111_54 {g : im_g} : im_D g 111 54 (.aload_n 0) 55 := im_D.of (by decide +kernel)
theorem D111_55 {g : im_g} : im_D g 111 55 (.iload_n 2) 56 := im_D.of (by decide +kernel)
theorem D111_56 {g : im_g} : im_D g 111 56 (.invokevirtual 203) 59 := im_D.of (by decide +kernel)
theorem D111_59 {g : im_g} : im_D g 111 59 (.istore 4) 61 := im_D.of (by decide +kernel)
theorem D111_61 {g : im_g} : im_D g 111 61 (.goto 165) 64 := im_D.of (by decide +kernel)
theorem D111_64 {g : im_g} : im_D g 111 64 (.iload_n 3) 65 := im_D.of (by decide +kernel)
theorem D111_65 {g : im_g} : im_D g 111 65 (.ifCond .ne 67) 68 := im_D.of (by decide +kernel)
theorem D111_68 {g : im_g} : im_D g 111 68 (.aload_n 0) 69 := im_D.of (by decide +kernel)
theorem D111_69 {g : im_g} : im_D g 111 69 (.getfield 31) 72 := im_D.of (by decide +kernel)
theorem D111_72 {g : im_g} : im_D g 111 72 (.getfield 145) 75 := im_D.of (by decide +kernel)
theorem D111_75 {g : im_g} : im_D g 111 75 (.getfield 207) 78 := im_D.of (by decide +kernel)
theorem D111_78 {g : im_g} : im_D g 111 78 (.iconst 0) 79 := im_D.of (by decide +kernel)
theorem D111_79 {g : im_g} : im_D g 111 79 (.laload) 80 := im_D.of (by decide +kernel)
theorem D111_80 {g : im_g} : im_D g 111 80 (.lstore 5) 82 := im_D.of (by decide +kernel)
theorem D111_82 {g : im_g} : im_D g 111 82 (.aload_n 0) 83 := im_D.of (by decide +kernel)
theorem D111_83 {g : im_g} : im_D g 111 83 (.getfield 22) 86 := im_D.of (by decide +kernel)
theorem D111_86 {g : im_g} : im_D g 111 86 (.aload_n 0) 87 := im_D.of (by decide +kernel)
theorem D111_87 {g : im_g} : im_D g 111 87 (.getfield 31) 90 := im_D.of (by decide +kernel)
theorem D111_90 {g : im_g} : im_D g 111 90 (.getfield 145) 93 := im_D.of (by decide +kernel)
theorem D111_93 {g : im_g} : im_D g 111 93 (.getfield 208) 96 := im_D.of (by decide +kernel)
theorem D111_96 {g : im_g} : im_D g 111 96 (.iconst 0) 97 := im_D.of (by decide +kernel)
theorem D111_97 {g : im_g} : im_D g 111 97 (.aaload) 98 := im_D.of (by decide +kernel)
theorem D111_98 {g : im_g} : im_D g 111 98 (.invokevirtual 141) 101 := im_D.of (by decide +kernel)
theorem D111_101 {g : im_g} : im_D g 111 101 (.aload_n 0) 102 := im_D.of (by decide +kernel)
theorem D111_102 {g : im_g} : im_D g 111 102 (.iconst 1) 103 := im_D.of (by decide +kernel)
theorem D111_103 {g : im_g} : im_D g 111 103 (.putfield 180) 106 := im_D.of (by decide +kernel)
theorem D111_106 {g : im_g} : im_D g 111 106 (.aload_n 0) 107 := im_D.of (by decide +kernel)
theorem D111_107 {g : im_g} : im_D g 111 107 (.iconst 0) 108 := im_D.of (by decide +kernel)
theorem D111_108 {g : im_g} : im_D g 111 108 (.lload 5) 110 := im_D.of (by decide +kernel)
theorem D111_110 {g : im_g} : im_D g 111 110 (.lload 5) 112 := im_D.of (by decide +kernel)
theorem D111_112 {g : im_g} : im_D g 111 112 (.aload_n 0) 113 := im_D.of (by decide +kernel)
theorem D111_113 {g : im_g} : im_D g 111 113 (.getfield 31) 116 := im_D.of (by decide +kernel)
theorem D111_116 {g : im_g} : im_D g 111 116 (.getfield 145) 119 := im_D.of (by decide +kernel)
theorem D111_119 {g : im_g} : im_D g 111 119 (.getfield 209) 122 := im_D.of (by decide +kernel)
theorem D111_122 {g : im_g} : im_D g 111 122 (.iconst 0) 123 := im_D.of (by decide +kernel)
theorem D111_123 {g : im_g} : im_D g 111 123 (.laload) 124 := im_D.of (by decide +kernel)
theorem D111_124 {g : im_g} : im_D g 111 124 (.invokevirtual 210) 127 := im_D.of (by decide +kernel)
theorem D111_127 {g : im_g} : im_D g 111 127 (.istore 4) 129 := im_D.of (by decide +kernel)
theorem D111_129 {g : im_g} : im_D g 111 129 (.goto 97) 132 := im_D.of (by decide +kernel)
theorem D111_132 {g : im_g} : im_D g 111 132 (.aload_n 0) 133 := im_D.of (by decide +kernel)
theorem D111_133 {g : im_g} : im_D g 111 133 (.iload_n 2) 134 := im_D.of (by decide +kernel)
theorem D111_134 {g : im_g} : im_D g 111 134 (.iconst 1) 135 := im_D.of (by decide +kernel)
theorem D111_135 {g : im_g} : im_D g 111 135 (.iadd) 136 := im_D.of (by decide +kernel)
theorem D111_136 {g : im_g} : im_D g 111 136 (.iconst 0) 137 := im_D.of (by decide +kernel)
theorem D111_137 {g : im_g} : im_D g 111 137 (.invokevirtual 101) 140 := im_D.of (by decide +kernel)
theorem D111_140 {g : im_g} : im_D g 111 140 (.istore 5) 142 := im_D.of (by decide +kernel)
theorem D111_142 {g : im_g} : im_D g 111 142 (.aload_n 0) 143 := im_D.of (by decide +kernel)
theorem D111_143 {g : im_g} : im_D g 111 143 (.getfield 86) 146 := im_D.of (by decide +kernel)
theorem D111_146 {g : im_g} : im_D g 111 146 (.ifCond .eq 8) 149 := im_D.of (by decide +kernel)
theorem D111_149 {g : im_g} : im_D g 111 149 (.bipush (-8)) 151 := im_D.of (by decide +kernel)
theorem D111_151 {g : im_g} : im_D g 111 151 (.goto 11) 154 := im_D.of (by decide +kernel)
theorem D111_154 {g : im_g} : im_D g 111 154 (.aload_n 0) 155 := im_D.of (by decide +kernel)
theorem D111_155 {g : im_g} : im_D g 111 155 (.iload_n 2) 156 := im_D.of (by decide +kernel)
theorem D111_156 {g : im_g} : im_D g 111 156 (.iload_n 3) 157 := im_D.of (by decide +kernel)
theorem D111_157 {g : im_g} : im_D g 111 157 (.iload 5) 159 := im_D.of (by decide +kernel)
theorem D111_159 {g : im_g} : im_D g 111 159 (.invokevirtual 214) 162 := im_D.of (by decide +kernel)
theorem D111_162 {g : im_g} : im_D g 111 162 (.istore 4) 164 := im_D.of (by decide +kernel)
theorem D111_164 {g : im_g} : im_D g 111 164 (.iload 4) 166 := im_D.of (by decide +kernel)
theorem D111_166 {g : im_g} : im_D g 111 166 (.ifCond .ne 60) 169 := im_D.of (by decide +kernel)
theorem D111_169 {g : im_g} : im_D g 111 169 (.iload_n 3) 170 := im_D.of (by decide +kernel)
theorem D111_170 {g : im_g} : im_D g 111 170 (.iconst 1) 171 := im_D.of (by decide +kernel)
theorem D111_171 {g : im_g} : im_D g 111 171 (.if_icmp .ne 55) 174 := im_D.of (by decide +kernel)
theorem D111_174 {g : im_g} : im_D g 111 174 (.aload_n 0) 175 := im_D.of (by decide +kernel)
theorem D111_175 {g : im_g} : im_D g 111 175 (.getfield 22) 178 := im_D.of (by decide +kernel)
theorem D111_178 {g : im_g} : im_D g 111 178 (.getfield 108) 181 := im_D.of (by decide +kernel)
theorem D111_181 {g : im_g} : im_D g 111 181 (.ifCond .le 45) 184 := im_D.of (by decide +kernel)
theorem D111_184 {g : im_g} : im_D g 111 184 (.aload_n 0) 185 := im_D.of (by decide +kernel)
theorem D111_185 {g : im_g} : im_D g 111 185 (.aload_n 0) 186 := im_D.of (by decide +kernel)
theorem D111_186 {g : im_g} : im_D g 111 186 (.getfield 55) 189 := im_D.of (by decide +kernel)
theorem D111_189 {g : im_g} : im_D g 111 189 (.getfield 134) 192 := im_D.of (by decide +kernel)
theorem D111_192 {g : im_g} : im_D g 111 192 (.iload_n 2) 193 := im_D.of (by decide +kernel)
theorem D111_193 {g : im_g} : im_D g 111 193 (.iaload) 194 := im_D.of (by decide +kernel)
theorem D111_194 {g : im_g} : im_D g 111 194 (.aload_n 0) 195 := im_D.of (by decide +kernel)
theorem D111_195 {g : im_g} : im_D g 111 195 (.getfield 55) 198 := im_D.of (by decide +kernel)
theorem D111_198 {g : im_g} : im_D g 111 198 (.getfield 68) 201 := im_D.of (by decide +kernel)
theorem D111_201 {g : im_g} : im_D g 111 201 (.iload_n 2) 202 := im_D.of (by decide +kernel)
theorem D111_202 {g : im_g} : im_D g 111 202 (.laload) 203 := im_D.of (by decide +kernel)
theorem D111_203 {g : im_g} : im_D g 111 203 (.aload_n 0) 204 := im_D.of (by decide +kernel)
theorem D111_204 {g : im_g} : im_D g 111 204 (.getfield 55) 207 := im_D.of (by decide +kernel)
theorem D111_207 {g : im_g} : im_D g 111 207 (.getfield 63) 210 := im_D.of (by decide +kernel)
theorem D111_210 {g : im_g} : im_D g 111 210 (.iload_n 2) 211 := im_D.of (by decide +kernel)
theorem D111_211 {g : im_g} : im_D g 111 211 (.laload) 212 := im_D.of (by decide +kernel)
theorem D111_212 {g : im_g} : im_D g 111 212 (.aload_n 0) 213 := im_D.of (by decide +kernel)
theorem D111_213 {g : im_g} : im_D g 111 213 (.getfield 55) 216 := im_D.of (by decide +kernel)
theorem D111_216 {g : im_g} : im_D g 111 216 (.getfield 218) 219 := im_D.of (by decide +kernel)
theorem D111_219 {g : im_g} : im_D g 111 219 (.iload_n 2) 220 := im_D.of (by decide +kernel)
theorem D111_220 {g : im_g} : im_D g 111 220 (.laload) 221 := im_D.of (by decide +kernel)
theorem D111_221 {g : im_g} : im_D g 111 221 (.invokevirtual 210) 224 := im_D.of (by decide +kernel)
theorem D111_224 {g : im_g} : im_D g 111 224 (.istore 4) 226 := im_D.of (by decide +kernel)
theorem D111_226 {g : im_g} : im_D g 111 226 (.iload 4) 228 := im_D.of (by decide +kernel)
theorem D111_228 {g : im_g} : im_D g 111 228 (.ifCond .eq 6) 231 := im_D.of (by decide +kernel)
theorem D111_231 {g : im_g} : im_D g 111 231 (.iload 4) 233 := im_D.of (by decide +kernel)
theorem D111_233 {g : im_g} : im_D g 111 233 (.ireturn) 234 := im_D.of (by decide +kernel)
theorem D111_234 {g : im_g} : im_D g 111 234 (.iinc 1 1) 237 := im_D.of (by decide +kernel)
theorem D111_237 {g : im_g} : im_D g 111 237 (.goto (-235)) 240 := im_D.of (by decide +kernel)
theorem D111_240 {g : im_g} : im_D g 111 240 (.iconst 0) 241 := im_D.of (by decide +kernel)
theorem D111_241 {g : im_g} : im_D g 111 241 (.ireturn) 242 := im_D.of (by decide +kernel)
theorem D112_0 {g : im_g} : im_D g 112 0 (.aload_n 0) 1 := im_D.of (by decide +kernel)
theorem D112_1 {g : im_g} : im_D g 112 1 (.getfield 55) 4 := im_D.of (by decide +kernel)
theorem D112_4 {g : im_g} : im_D g 112 4 (.getfield 89) 7 := im_D.of (by decide +kernel)
theorem D112_7 {g : im_g} : im_D g 112 7 (.aload_n 0) 8 := im_D.of (by decide +kernel)
theorem D112_8 {g : im_g} : im_D g 112 8 (.getfield 31) 11 := im_D.of (by decide +kernel)
theorem D112_11 {g : im_g} : im_D g 112 11 (.getfield 183) 14 := im_D.of (by decide +kernel)
theorem D112_14 {g : im_g} : im_D g 112 14 (.iaload) 15 := im_D.of (by decide +kernel)
theorem D112_15 {g : im_g} : im_D g 112 15 (.istore_n 3) 16 := im_D.of (by decide +kernel)
theorem D112_16 {g : im_g} : im_D g 112 16 (.iload_n 3) 17 := im_D.of (by decide +kernel)
theorem D112_17 {g : im_g} : im_D g 112 17 (.ifCond .ne 22) 20 := im_D.of (by decide +kernel)
theorem D112_20 {g : im_g} : im_D g 112 20 (.aload_n 0) 21 := im_D.of (by decide +kernel)
theorem D112_21 {g : im_g} : im_D g 112 21 (.getfield 31) 24 := im_D.of (by decide +kernel)
theorem D112_24 {g : im_g} : im_D g 112 24 (.getfield 145) 27 := im_D.of (by decide +kernel)
theorem D112_27 {g : im_g} : im_D g 112 27 (.getfield 194) 30 := im_D.of (by decide +kernel)
theorem D112_30 {g : im_g} : im_D g 112 30 (.ifCond .ne 7) 33 := im_D.of (by decide +kernel)
theorem D112_33 {g : im_g} : im_D g 112 33 (.iconst 1) 34 := im_D.of (by decide +kernel)
theorem D112_34 {g : im_g} : im_D g 112 34 (.goto 4) 37 := im_D.of (by decide +kernel)
theorem D112_37 {g : im_g} : im_D g 112 37 (.iconst 0) 38 := im_D.of (by decide +kernel)
theorem D112_38 {g : im_g} : im_D g 112 38 (.ireturn) 39 := im_D.of (by decide +kernel)
theorem D112_39 {g : im_g} : im_D g 112 39 (.iload_n 3) 40 := im_D.of (by decide +kernel)
theorem D112_40 {g : im_g} : im_D g 112 40 (.iconst 3) 41 := im_D.of (by decide +kernel)
theorem D112_41 {g : im_g} : im_D g 112 41 (.if_icmp .ne 23) 44 := im_D.of (by decide +kernel)
theorem D112_44 {g : im_g} : im_D g 112 44 (.lload_n 1) 45 := im_D.of (by decide +kernel)
theorem D112_45 {g : im_g} : im_D g 112 45 (.aload_n 0) 46 := im_D.of (by decide +kernel)
theorem D112_46 {g : im_g} : im_D g 112 46 (.aload_n 0) 47 := im_D.of (by decide +kernel)
theorem D112_47 {g : im_g} : im_D g 112 47 (.getfield 31) 50 := im_D.of (by decide +kernel)
theorem D112_50 {g : im_g} : im_D g 112 50 (.getfield 183) 53 := im_D.of (by decide +kernel)
theorem D112_53 {g : im_g} : im_D g 112 53 (.invokevirtual 195) 56 := im_D.of (by decide +kernel)
theorem D112_56 {g : im_g} : im_D g 112 56 (.lcmp) 57 := im_D.of (by decide +kernel)
theorem D112_57 {g : im_g} : im_D g 112 57 (.ifCond .ge 7) 60 := im_D.of (by decide +kernel)
theorem D112_60 {g : im_g} : im_D g 112 60 (.iconst 1) 61 := im_D.of (by decide +kernel)
theorem D112_61 {g : im_g} : im_D g 112 61 (.goto 4) 64 := im_D.of (by decide +kernel)
theorem D112_64 {g : im_g} : im_D g 112 64 (.iconst 0) 65 := im_D.of (by decide +kernel)
theorem D112_65 {g : im_g} : im_D g 112 65 (.ireturn) 66 := im_D.of (by decide +kernel)
theorem D113_0 {g : im_g} : im_D g 113 0 (.aload_n 0) 1 := im_D.of (by decide +kernel)
theorem D113_1 {g : im_g} : im_D g 113 1 (.getfield 55) 4 := im_D.of (by decide +kernel)
theorem D113_4 {g : im_g} : im_D g 113 4 (.getfield 63) 7 := im_D.of (by decide +kernel)
theorem D113_7 {g : im_g} : im_D g 113 7 (.iload_n 1) 8 := im_D.of (by decide +kernel)
theorem D113_8 {g : im_g} : im_D g 113 8 (.laload) 9 := im_D.of (by decide +kernel)
theorem D113_9 {g : im_g} : im_D g 113 9 (.lstore_n 2) 10 := im_D.of (by decide +kernel)
theorem D113_10 {g : im_g} : im_D g 113 10 (.lload_n 2) 11 := im_D.of (by decide +kernel)
theorem D113_11 {g : im_g} : im_D g 113 11 (.lconst 0) 12 := im_D.of (by decide +kernel)
theorem D113_12 {g : im_g} : im_D g 113 12 (.lcmp) 13 := im_D.of (by decide +kernel)
theorem D113_13 {g : im_g} : im_D g 113 13 (.ifCond .ne 15) 16 := im_D.of (by decide +kernel)
theorem D113_16 {g : im_g} : im_D g 113 16 (.aload_n 0) 17 := im_D.of (by decide +kernel)
theorem D113_17 {g : im_g} : im_D g 113 17 (.getfield 55) 20 := im_D.of (by decide +kernel)
theorem D113_20 {g : im_g} : im_D g 113 20 (.getfield 68) 23 := im_D.of (by decide +kernel)
theorem D113_23 {g : im_g} : im_D g 113 23 (.iload_n 1) 24 := im_D.of (by decide +kernel)
theorem D113_24 {g : im_g} : im_D g 113 24 (.laload) 25 := im_D.of (by decide +kernel)
theorem D113_25 {g : im_g} : im_D g 113 25 (.goto 15) 28 := im_D.of (by decide +kernel)
theorem D113_28 {g : im_g} : im_D g 113 28 (.aload_n 0) 29 := im_D.of (by decide +kernel)
theorem D113_29 {g : im_g} : im_D g 113 29 (.getfield 38) 32 := im_D.of (by decide +kernel)
theorem D113_32 {g : im_g} : im_D g 113 32 (.lload_n 2) 33 := im_D.of (by decide +kernel)
theorem D113_33 {g : im_g} : im_D g 113 33 (.lconst 0) 34 := im_D.of (by decide +kernel)
theorem D113_34 {g : im_g} : im_D g 113 34 (.invokevirtual 71) 37 := im_D.of (by decide +kernel)
theorem D113_37 {g : im_g} : im_D g 113 37 (.invokevirtual 75) 40 := im_D.of (by decide +kernel)
theorem D113_40 {g : im_g} : im_D g 113 40 (.lreturn) 41 := im_D.of (by decide +kernel)
theorem D114_0 {g : im_g} : im_D g 114 0 (.aload_n 0) 1 := im_D.of (by decide +kernel)
theorem D114_1 {g : im_g} : im_D g 114 1 (.getfield 79) 4 := im_D.of (by decide +kernel)
theorem D114_4 {g : im_g} : im_D g 114 4 (.aload_n 0) 5 := im_D.of (by decide +kernel)
theorem D114_5 {g : im_g} : im_D g 114 5 (.iload_n 1) 6 := im_D.of (by decide +kernel)
theorem D114_6 {g : im_g} : im_D g 114 6 (.invokevirtual 195) 9 := im_D.of (by decide +kernel)
theorem D114_9 {g : im_g} : im_D g 114 9 (.lcmp) 10 := im_D.of (by decide +kernel)
theorem D114_10 {g : im_g} : im_D g 114 10 (.ifCond .ge 6) 13 := im_D.of (by decide +kernel)
theorem D114_13 {g : im_g} : im_D g 114 13 (.bipush (-4)) 15 := im_D.of (by decide +kernel)
theorem D114_15 {g : im_g} : im_D g 114 15 (.ireturn) 16 := im_D.of (by decide +kernel)
theorem D114_16 {g : im_g} : im_D g 114 16 (.aload_n 0) 17 := im_D.of (by decide +kernel)
theorem D114_17 {g : im_g} : im_D g 114 17 (.getfield 31) 20 := im_D.of (by decide +kernel)
theorem D114_20 {g : im_g} : im_D g 114 20 (.aload_n 0) 21 := im_D.of (by decide +kernel)
theorem D114_21 {g : im_g} : im_D g 114 21 (.getfield 55) 24 := im_D.of (by decide +kernel)
theorem D114_24 {g : im_g} : im_D g 114 24 (.iload_n 1) 25 := im_D.of (by decide +kernel)
theorem D114_25 {g : im_g} : im_D g 114 25 (.invokevirtual 221) 28 := im_D.of (by decide +kernel)
theorem D114_28 {g : im_g} : im_D g 114 28 (.putfield 183) 31 := im_D.of (by decide +kernel)
theorem D114_31 {g : im_g} : im_D g 114 31 (.iconst 0) 32 := im_D.of (by decide +kernel)
theorem D114_32 {g : im_g} : im_D g 114 32 (.ireturn) 33 := im_D.of (by decide +kernel)
theorem D115_0 {g : im_g} : im_D g 115 0 (.iload_n 1) 1 := im_D.of (by decide +kernel)
theorem D115_1 {g : im_g} : im_D g 115 1 (.iconst 1) 2 := im_D.of (by decide +kernel)
theorem D115_2 {g : im_g} : im_D g 115 2 (.iadd) 3 := im_D.of (by decide +kernel)
theorem D115_3 {g : im_g} : im_D g 115 3 (.istore_n 2) 4 := im_D.of (by decide +kernel)
theorem D115_4 {g : im_g} : im_D g 115 4 (.iconst 0) 5 := im_D.of (by decide +kernel)
theorem D115_5 {g : im_g} : im_D g 115 5 (.istore_n 3) 6 := im_D.of (by decide +kernel)
theorem D115_6 {g : im_g} : im_D g 115 6 (.iload_n 3) 7 := im_D.of (by decide +kernel)
theorem D115_7 {g : im_g} : im_D g 115 7 (.bipush 8) 9 := im_D.of (by decide +kernel)
theorem D115_9 {g : im_g} : im_D g 115 9 (.if_icmp .ge 24) 12 := im_D.of (by decide +kernel)
theorem D115_12 {g : im_g} : im_D g 115 12 (.aload_n 0) 13 := im_D.of (by decide +kernel)
theorem D115_13 {g : im_g} : im_D g 115 13 (.iload_n 2) 14 := im_D.of (by decide +kernel)
theorem D115_14 {g : im_g} : im_D g 115 14 (.invokevirtual 81) 17 := im_D.of (by decide +kernel)
theorem D115_17 {g : im_g} : im_D g 115 17 (.ifCond .eq 16) 20 := im_D.of (by decide +kernel)
theorem D115_20 {g : im_g} : im_D g 115 20 (.aload_n 0) 21 := im_D.of (by decide +kernel)
theorem D115_21 {g : im_g} : im_D g 115 21 (.getfield 15) 24 := im_D.of (by decide +kernel)
theorem D115_24 {g : im_g} : im_D g 115 24 (.iload_n 2) 25 := im_D.of (by decide +kernel)
theorem D115_25 {g : im_g} : im_D g 115 25 (.iaload) 26 := im_D.of (by decide +kernel)
theorem D115_26 {g : im_g} : im_D g 115 26 (.istore_n 2) 27 := im_D.of (by decide +kernel)
theorem D115_27 {g : im_g} : im_D g 115 27 (.iinc 3 1) 30 := im_D.of (by decide +kernel)
theorem D115_30 {g : im_g} : im_D g 115 30 (.goto (-24)) 33 := im_D.of (by decide +kernel)
theorem D115_33 {g : im_g} : im_D g 115 33 (.iload_n 2) 34 := im_D.of (by decide +kernel)
theorem D115_34 {g : im_g} : im_D g 115 34 (.ireturn) 35 := im_D.of (by decide +kernel)
theorem D116_0 {g : im_g} : im_D g 116 0 (.iload_n 1) 1 := im_D.of (by decide +kernel)
theorem D116_1 {g : im_g} : im_D g 116 1 (.ifCond .lt 38) 4 := im_D.of (by decide +kernel)
theorem D116_4 {g : im_g} : im_D g 116 4 (.iload_n 1) 5 := im_D.of (by decide +kernel)
theorem D116_5 {g : im_g} : im_D g 116 5 (.aload_n 0) 6 := im_D.of (by decide +kernel)
theorem D116_6 {g : im_g} : im_D g 116 6 (.getfield 9) 9 := im_D.of (by decide +kernel)
theorem D116_9 {g : im_g} : im_D g 116 9 (.arraylength) 10 := im_D.of (by decide +kernel)
theorem D116_10 {g : im_g} : im_D g 116 10 (.if_icmp .ge 29) 13 := im_D.of (by decide +kernel)
theorem D116_13 {g : im_g} : im_D g 116 13 (.aload_n 0) 14 := im_D.of (by decide +kernel)
theorem D116_14 {g : im_g} : im_D g 116 14 (.getfield 9) 17 := im_D.of (by decide +kernel)
theorem D116_17 {g : im_g} : im_D g 116 17 (.iload_n 1) 18 := im_D.of (by decide +kernel)
theorem D116_18 {g : im_g} : im_D g 116 18 (.iaload) 19 := im_D.of (by decide +kernel)
theorem D116_19 {g : im_g} : im_D g 116 19 (.bipush 28) 21 := im_D.of (by decide +kernel)
theorem D116_21 {g : im_g} : im_D g 116 21 (.if_icmp .lt 18) 24 := im_D.of (by decide +kernel)
theorem D116_24 {g : im_g} : im_D g 116 24 (.aload_n 0) 25 := im_D.of (by decide +kernel)
theorem D116_25 {g : im_g} : im_D g 116 25 (.getfield 9) 28 := im_D.of (by decide +kernel)
theorem D116_28 {g : im_g} : im_D g 116 28 (.iload_n 1) 29 := im_D.of (by decide +kernel)
theorem D116_29 {g : im_g} : im_D g 116 29 (.iaload) 30 := im_D.of (by decide +kernel)
theorem D116_30 {g : im_g} : im_D g 116 30 (.bipush 30) 32 := im_D.of (by decide +kernel)
theorem D116_32 {g : im_g} : im_D g 116 32 (.if_icmp .gt 7) 35 := im_D.of (by decide +kernel)
theorem D116_35 {g : im_g} : im_D g 116 35 (.iconst 1) 36 := im_D.of (by decide +kernel)
theorem D116_36 {g : im_g} : im_D g 116 36 (.goto 4) 39 := im_D.of (by decide +kernel)
theorem D116_39 {g : im_g} : im_D g 116 39 (.iconst 0) 40 := im_D.of (by decide +kernel)
theorem D116_40 {g : im_g} : im_D g 116 40 (.ireturn) 41 := im_D.of (by decide +kernel)
theorem D117_0 {g : im_g} : im_D g 117 0 (.aload_n 0) 1 := im_D.of (by decide +kernel)
theorem D117_1 {g : im_g} : im_D g 117 1 (.getfield 48) 4 := im_D.of (by decide +kernel)
theorem D117_4 {g : im_g} : im_D g 117 4 (.iload_n 1) 5 := im_D.of (by decide +kernel)
theorem D117_5 {g : im_g} : im_D g 117 5 (.lload_n 2) 6 := im_D.of (by decide +kernel)
theorem D117_6 {g : im_g} : im_D g 117 6 (.lload 4) 8 := im_D.of (by decide +kernel)
theorem D117_8 {g : im_g} : im_D g 117 8 (.lload 6) 10 := im_D.of (by decide +kernel)
theorem D117_10 {g : im_g} : im_D g 117 10 (.aload_n 0) 11 := im_D.of (by decide +kernel)
theorem D117_11 {g : im_g} : im_D g 117 11 (.getfield 22) 14 := im_D.of (by decide +kernel)
theorem D117_14 {g : im_g} : im_D g 117 14 (.invokevirtual 234) 17 := im_D.of (by decide +kernel)
theorem D117_17 {g : im_g} : im_D g 117 17 (.ifCond .ne 6) 20 := im_D.of (by decide +kernel)
theorem D117_20 {g : im_g} : im_D g 117 20 (.bipush (-9)) 22 := im_D.of (by decide +kernel)
theorem D117_22 {g : im_g} : im_D g 117 22 (.ireturn) 23 := im_D.of (by decide +kernel)
theorem D117_23 {g : im_g} : im_D g 117 23 (.aload_n 0) 24 := im_D.of (by decide +kernel)
theorem D117_24 {g : im_g} : im_D g 117 24 (.getfield 31) 27 := im_D.of (by decide +kernel)
theorem D117_27 {g : im_g} : im_D g 117 27 (.getfield 145) 30 := im_D.of (by decide +kernel)
theorem D117_30 {g : im_g} : im_D g 117 30 (.lload_n 2) 31 := im_D.of (by decide +kernel)
theorem D117_31 {g : im_g} : im_D g 117 31 (.lload 6) 33 := im_D.of (by decide +kernel)
theorem D117_33 {g : im_g} : im_D g 117 33 (.aload_n 0) 34 := im_D.of (by decide +kernel)
theorem D117_34 {g : im_g} : im_D g 117 34 (.getfield 22) 37 := im_D.of (by decide +kernel)
theorem D117_37 {g : im_g} : im_D g 117 37 (.invokevirtual 244) 40 := im_D.of (by decide +kernel)
theorem D117_40 {g : im_g} : im_D g 117 40 (.iload_n 1) 41 := im_D.of (by decide +kernel)
theorem D117_41 {g : im_g} : im_D g 117 41 (.iconst 1) 42 := im_D.of (by decide +kernel)
theorem D117_42 {g : im_g} : im_D g 117 42 (.if_icmp .ne 22) 45 := im_D.of (by decide +kernel)
theorem D117_45 {g : im_g} : im_D g 117 45 (.aload_n 0) 46 := im_D.of (by decide +kernel)
theorem D117_46 {g : im_g} : im_D g 117 46 (.getfield 31) 49 := im_D.of (by decide +kernel)
theorem D117_49 {g : im_g} : im_D g 117 49 (.getfield 145) 52 := im_D.of (by decide +kernel)
theorem D117_52 {g : im_g} : im_D g 117 52 (.lload 4) 54 := im_D.of (by decide +kernel)
theorem D117_54 {g : im_g} : im_D g 117 54 (.lload 6) 56 := im_D.of (by decide +kernel)
theorem D117_56 {g : im_g} : im_D g 117 56 (.aload_n 0) 57 := im_D.of (by decide +kernel)
theorem D117_57 {g : im_g} : im_D g 117 57 (.getfield 22) 60 := im_D.of (by decide +kernel)
theorem D117_60 {g : im_g} : im_D g 117 60 (.invokevirtual 248) 63 := im_D.of (by decide +kernel)
theorem D117_63 {g : im_g} : im_D g 117 63 (.ireturn) 64 := im_D.of (by decide +kernel)
theorem D117_64 {g : im_g} : im_D g 117 64 (.aload_n 0) 65 := im_D.of (by decide +kernel)
theorem D117_65 {g : im_g} : im_D g 117 65 (.getfield 59) 68 := im_D.of (by decide +kernel)
theorem D117_68 {g : im_g} : im_D g 117 68 (.ifCond .eq 7) 71 := im_D.of (by decide +kernel)
theorem D117_71 {g : im_g} : im_D g 117 71 (.iconst 0) 72 := im_D.of (by decide +kernel)
theorem D117_72 {g : im_g} : im_D g 117 72 (.goto 18) 75 := im_D.of (by decide +kernel)
theorem D117_75 {g : im_g} : im_D g 117 75 (.aload_n 0) 76 := im_D.of (by decide +kernel)
theorem D117_76 {g : im_g} : im_D g 117 76 (.getfield 42) 79 := im_D.of (by decide +kernel)
theorem D117_79 {g : im_g} : im_D g 117 79 (.lload 4) 81 := im_D.of (by decide +kernel)
theorem D117_81 {g : im_g} : im_D g 117 81 (.lload 6) 83 := im_D.of (by decide +kernel)
theorem D117_83 {g : im_g} : im_D g 117 83 (.aload_n 0) 84 := im_D.of (by decide +kernel)
theorem D117_84 {g : im_g} : im_D g 117 84 (.getfield 22) 87 := im_D.of (by decide +kernel)
theorem D117_87 {g : im_g} : im_D g 117 87 (.invokevirtual 248) 90 := im_D.of (by decide +kernel)
theorem D117_90 {g : im_g} : im_D g 117 90 (.ireturn) 91 := im_D.of (by decide +kernel)
theorem D118_0 {g : im_g} : im_D g 118 0 (.aload_n 0) 1 := im_D.of (by decide +kernel)
theorem D118_1 {g : im_g} : im_D g 118 1 (.getfield 30) 4 := im_D.of (by decide +kernel)
theorem D118_4 {g : im_g} : im_D g 118 4 (.aload_n 0) 5 := im_D.of (by decide +kernel)
theorem D118_5 {g : im_g} : im_D g 118 5 (.getfield 25) 8 := im_D.of (by decide +kernel)
theorem D118_8 {g : im_g} : im_D g 118 8 (.arraylength) 9 := im_D.of (by decide +kernel)
theorem D118_9 {g : im_g} : im_D g 118 9 (.if_icmp .lt 5) 12 := im_D.of (by decide +kernel)
theorem D118_12 {g : im_g} : im_D g 118 12 (.iconst 0) 13 := im_D.of (by decide +kernel)
theorem D118_13 {g : im_g} : im_D g 118 13 (.ireturn) 14 := im_D.of (by decide +kernel)
theorem D118_14 {g : im_g} : im_D g 118 14 (.aload_n 0) 15 := im_D.of (by decide +kernel)
theorem D118_15 {g : im_g} : im_D g 118 15 (.aload_n 0) 16 := im_D.of (by decide +kernel)
theorem D118_16 {g : im_g} : im_D g 118 16 (.getfield 30) 19 := im_D.of (by decide +kernel)
theorem D118_19 {g : im_g} : im_D g 118 19 (.iload_n 1) 20 := im_D.of (by decide +kernel)
theorem D118_20 {g : im_g} : im_D g 118 20 (.lload_n 2) 21 := im_D.of (by decide +kernel)
theorem D118_21 {g : im_g} : im_D g 118 21 (.lload 4) 23 := im_D.of (by decide +kernel)
theorem D118_23 {g : im_g} : im_D g 118 23 (.lload 6) 25 := im_D.of (by decide +kernel)
theorem D118_25 {g : im_g} : im_D g 118 25 (.invokevirtual 34) 28 := im_D.of (by decide +kernel)
theorem D118_28 {g : im_g} : im_D g 118 28 (.aload_n 0) 29 := im_D.of (by decide +kernel)
theorem D118_29 {g : im_g} : im_D g 118 29 (.getfield 25) 32 := im_D.of (by decide +kernel)
theorem D118_32 {g : im_g} : im_D g 118 32 (.aload_n 0) 33 := im_D.of (by decide +kernel)
theorem D118_33 {g : im_g} : im_D g 118 33 (.getfield 30) 36 := im_D.of (by decide +kernel)
theorem D118_36 {g : im_g} : im_D g 118 36 (.aaload) 37 := im_D.of (by decide +kernel)
theorem D118_37 {g : im_g} : im_D g 118 37 (.aload 8) 39 := im_D.of (by decide +kernel)
theorem D118_39 {g : im_g} : im_D g 118 39 (.invokevirtual 38) 42 := im_D.of (by decide +kernel)
theorem D118_42 {g : im_g} : im_D g 118 42 (.aload_n 0) 43 := im_D.of (by decide +kernel)
theorem D118_43 {g : im_g} : im_D g 118 43 (.dup) 44 := im_D.of (by decide +kernel)
theorem D118_44 {g : im_g} : im_D g 118 44 (.getfield 30) 47 := im_D.of (by decide +kernel)
theorem D118_47 {g : im_g} : im_D g 118 47 (.iconst 1) 48 := im_D.of (by decide +kernel)
theorem D118_48 {g : im_g} : im_D g 118 48 (.iadd) 49 := im_D.of (by decide +kernel)
theorem D118_49 {g : im_g} : im_D g 118 49 (.putfield 30) 52 := im_D.of (by decide +kernel)
theorem D118_52 {g : im_g} : im_D g 118 52 (.iconst 1) 53 := im_D.of (by decide +kernel)
theorem D118_53 {g : im_g} : im_D g 118 53 (.ireturn) 54 := im_D.of (by decide +kernel)
theorem D119_0 {g : im_g} : im_D g 119 0 (.aload_n 0) 1 := im_D.of (by decide +kernel)
theorem D119_1 {g : im_g} : im_D g 119 1 (.lload_n 1) 2 := im_D.of (by decide +kernel)
theorem D119_2 {g : im_g} : im_D g 119 2 (.lload_n 3) 3 := im_D.of (by decide +kernel)
theorem D119_3 {g : im_g} : im_D g 119 3 (.invokevirtual 43) 6 := im_D.of (by decide +kernel)
theorem D119_6 {g : im_g} : im_D g 119 6 (.istore 6) 8 := im_D.of (by decide +kernel)
theorem D119_8 {g : im_g} : im_D g 119 8 (.iload 6) 10 := im_D.of (by decide +kernel)
theorem D119_10 {g : im_g} : im_D g 119 10 (.ifCond .ge 4) 13 := im_D.of (by decide +kernel)
theorem D119_13 {g : im_g} : im_D g 119 13 (.return_) 14 := im_D.of (by decide +kernel)
theorem D119_14 {g : im_g} : im_D g 119 14 (.aload_n 0) 15 := im_D.of (by decide +kernel)
theorem D119_15 {g : im_g} : im_D g 119 15 (.getfield 25) 18 := im_D.of (by decide +kernel)
theorem D119_18 {g : im_g} : im_D g 119 18 (.iload 6) 20 := im_D.of (by decide +kernel)
theorem D119_20 {g : im_g} : im_D g 119 20 (.aaload) 21 := im_D.of (by decide +kernel)
theorem D119_21 {g : im_g} : im_D g 119 21 (.aload_n 0) 22 := im_D.of (by decide +kernel)
theorem D119_22 {g : im_g} : im_D g 119 22 (.getfield 25) 25 := im_D.of (by decide +kernel)
theorem D119_25 {g : im_g} : im_D g 119 25 (.iload 6) 27 := im_D.of (by decide +kernel)
theorem D119_27 {g : im_g} : im_D g 119 27 (.aaload) 28 := im_D.of (by decide +kernel)
theorem D119_28 {g : im_g} : im_D g 119 28 (.aload 5) 30 := im_D.of (by decide +kernel)
theorem D119_30 {g : im_g} : im_D g 119 30 (.invokevirtual 58) 33 := im_D.of (by decide +kernel)
theorem D119_33 {g : im_g} : im_D g 119 33 (.aload_n 0) 34 := im_D.of (by decide +kernel)
theorem D119_34 {g : im_g} : im_D g 119 34 (.getfield 25) 37 := im_D.of (by decide +kernel)
theorem D119_37 {g : im_g} : im_D g 119 37 (.iload 6) 39 := im_D.of (by decide +kernel)
theorem D119_39 {g : im_g} : im_D g 119 39 (.aaload) 40 := im_D.of (by decide +kernel)
theorem D119_40 {g : im_g} : im_D g 119 40 (.getfield 62) 43 := im_D.of (by decide +kernel)
theorem D119_43 {g : im_g} : im_D g 119 43 (.ifCond .ne 9) 46 := im_D.of (by decide +kernel)
theorem D119_46 {g : im_g} : im_D g 119 46 (.aload_n 0) 47 := im_D.of (by decide +kernel)
theorem D119_47 {g : im_g} : im_D g 119 47 (.iload 6) 49 := im_D.of (by decide +kernel)
theorem D119_49 {g : im_g} : im_D g 119 49 (.invokevirtual 65) 52 := im_D.of (by decide +kernel)
theorem D119_52 {g : im_g} : im_D g 119 52 (.return_) 53 := im_D.of (by decide +kernel)
theorem D120_0 {g : im_g} : im_D g 120 0 (.aload_n 1) 1 := im_D.of (by decide +kernel)
theorem D120_1 {g : im_g} : im_D g 120 1 (.getfield 19) 4 := im_D.of (by decide +kernel)
theorem D120_4 {g : im_g} : im_D g 120 4 (.istore_n 3) 5 := im_D.of (by decide +kernel)
theorem D120_5 {g : im_g} : im_D g 120 5 (.iconst 0) 6 := im_D.of (by decide +kernel)
theorem D120_6 {g : im_g} : im_D g 120 6 (.istore 4) 8 := im_D.of (by decide +kernel)
theorem D120_8 {g : im_g} : im_D g 120 8 (.iconst 0) 9 := im_D.of (by decide +kernel)
theorem D120_9 {g : im_g} : im_D g 120 9 (.istore 5) 11 := im_D.of (by decide +kernel)
theorem D120_11 {g : im_g} : im_D g 120 11 (.iload 5) 13 := im_D.of (by decide +kernel)
theorem D120_13 {g : im_g} : im_D g 120 13 (.iload_n 3) 14 := im_D.of (by decide +kernel)
theorem D120_14 {g : im_g} : im_D g 120 14 (.if_icmp .ge 69) 17 := im_D.of (by decide +kernel)
theorem D120_17 {g : im_g} : im_D g 120 17 (.aload_n 1) 18 := im_D.of (by decide +kernel)
theorem D120_18 {g : im_g} : im_D g 120 18 (.getfield 9) 21 := im_D.of (by decide +kernel)
theorem D120_21 {g : im_g} : im_D g 120 21 (.iload 5) 23 := im_D.of (by decide +kernel)
theorem D120_23 {g : im_g} : im_D g 120 23 (.iaload) 24 := im_D.of (by decide +kernel)
theorem D120_24 {g : im_g} : im_D g 120 24 (.iload 4) 26 := im_D.of (by decide +kernel)
theorem D120_26 {g : im_g} : im_D g 120 26 (.isub) 27 := im_D.of (by decide +kernel)
theorem D120_27 {g : im_g} : im_D g 120 27 (.iload 5) 29 := im_D.of (by decide +kernel)
theorem D120_29 {g : im_g} : im_D g 120 29 (.aload_n 2) 30 := im_D.of (by decide +kernel)
theorem D120_30 {g : im_g} : im_D g 120 30 (.getfield 19) 33 := im_D.of (by decide +kernel)
theorem D120_33 {g : im_g} : im_D g 120 33 (.if_icmp .ge 13) 36 := im_D.of (by decide +kernel)
theorem D120_36 {g : im_g} : im_D g 120 36 (.aload_n 2) 37 := im_D.of (by decide +kernel)
theorem D120_37 {g : im_g} : im_D g 120 37 (.getfield 9) 40 := im_D.of (by decide +kernel)
theorem D120_40 {g : im_g} : im_D g 120 40 (.iload 5) 42 := im_D.of (by decide +kernel)
theorem D120_42 {g : im_g} : im_D g 120 42 (.iaload) 43 := im_D.of (by decide +kernel)
theorem D120_43 {g : im_g} : im_D g 120 43 (.goto 4) 46 := im_D.of (by decide +kernel)
theorem D120_46 {g : im_g} : im_D g 120 46 (.iconst 0) 47 := im_D.of (by decide +kernel)
theorem D120_47 {g : im_g} : im_D g 120 47 (.isub) 48 := im_D.of (by decide +kernel)
theorem D120_48 {g : im_g} : im_D g 120 48 (.istore 6) 50 := im_D.of (by decide +kernel)
theorem D120_50 {g : im_g} : im_D g 120 50 (.iload 6) 52 := im_D.of (by decide +kernel)
theorem D120_52 {g : im_g} : im_D g 120 52 (.ifCond .ge 7) 55 := im_D.of (by decide +kernel)
theorem D120_55 {g : im_g} : im_D g 120 55 (.iconst 1) 56 := im_D.of (by decide +kernel)
theorem D120_56 {g : im_g} : im_D g 120 56 (.goto 4) 59 := im_D.of (by decide +kernel)
theorem D120_59 {g : im_g} : im_D g 120 59 (.iconst 0) 60 := im_D.of (by decide +kernel)
theorem D120_60 {g : im_g} : im_D g 120 60 (.istore 4) 62 := im_D.of (by decide +kernel)
theorem D120_62 {g : im_g} : im_D g 120 62 (.aload_n 0) 63 := im_D.of (by decide +kernel)
theorem D120_63 {g : im_g} : im_D g 120 63 (.getfield 9) 66 := im_D.of (by decide +kernel)
theorem D120_66 {g : im_g} : im_D g 120 66 (.iload 5) 68 := im_D.of (by decide +kernel)
theorem D120_68 {g : im_g} : im_D g 120 68 (.iload 6) 70 := im_D.of (by decide +kernel)
theorem D120_70 {g : im_g} : im_D g 120 70 (.iload 4) 72 := im_D.of (by decide +kernel)
theorem D120_72 {g : im_g} : im_D g 120 72 (.ldc 41) 74 := im_D.of (by decide +kernel)
theorem D120_74 {g : im_g} : im_D g 120 74 (.imul) 75 := im_D.of (by decide +kernel)
theorem D120_75 {g : im_g} : im_D g 120 75 (.iadd) 76 := im_D.of (by decide +kernel)
theorem D120_76 {g : im_g} : im_D g 120 76 (.iastore) 77 := im_D.of (by decide +kernel)
theorem D120_77 {g : im_g} : im_D g 120 77 (.iinc 5 1) 80 := im_D.of (by decide +kernel)
theorem D120_80 {g : im_g} : im_D g 120 80 (.goto (-69)) 83 := im_D.of (by decide +kernel)
theorem D120_83 {g : im_g} : im_D g 120 83 (.aload_n 0) 84 := im_D.of (by decide +kernel)
theorem D120_84 {g : im_g} : im_D g 120 84 (.iload_n 3) 85 := im_D.of (by decide +kernel)
theorem D120_85 {g : im_g} : im_D g 120 85 (.putfield 19) 88 := im_D.of (by decide +kernel)
theorem D120_88 {g : im_g} : im_D g 120 88 (.aload_n 0) 89 := im_D.of (by decide +kernel)
theorem D120_89 {g : im_g} : im_D g 120 89 (.invokevirtual 42) 92 := im_D.of (by decide +kernel)
theorem D120_92 {g : im_g} : im_D g 120 92 (.pop) 93 := im_D.of (by decide +kernel)
theorem D120_93 {g : im_g} : im_D g 120 93 (.return_) 94 := im_D.of (by decide +kernel)
theorem D121_0 {g : im_g} : im_D g 121 0 (.iload_n 1) 1 := im_D.of (by decide +kernel)
theorem D121_1 {g : im_g} : im_D g 121 1 (.ifCond .lt 11) 4 := im_D.of (by decide +kernel)
theorem D121_4 {g : im_g} : im_D g 121 4 (.iload_n 1) 5 := im_D.of (by decide +kernel)
theorem D121_5 {g : im_g} : im_D g 121 5 (.aload_n 0) 6 := im_D.of (by decide +kernel)
theorem D121_6 {g : im_g} : im_D g 121 6 (.getfield 29) 9 := im_D.of (by decide +kernel)
theorem D121_9 {g : im_g} : im_D g 121 9 (.if_icmp .lt 4) 12 := im_D.of (by decide +kernel)
theorem D121_12 {g : im_g} : im_D g 121 12 (.return_) 13 := im_D.of (by decide +kernel)
theorem D121_13 {g : im_g} : im_D g 121 13 (.aload_n 0) 14 := im_D.of (by decide +kernel)
theorem D121_14 {g : im_g} : im_D g 121 14 (.getfield 25) 17 := im_D.of (by decide +kernel)
theorem D121_17 {g : im_g} : im_D g 121 17 (.iload_n 1) 18 := im_D.of (by decide +kernel)
theorem D121_18 {g : im_g} : im_D g 121 18 (.aaload) 19 := im_D.of (by decide +kernel)
theorem D121_19 {g : im_g} : im_D g 121 19 (.astore_n 2) 20 := im_D.of (by decide +kernel)
theorem D121_20 {g : im_g} : im_D g 121 20 (.aload_n 0) 21 := im_D.of (by decide +kernel)
theorem D121_21 {g : im_g} : im_D g 121 21 (.dup) 22 := im_D.of (by decide +kernel)
theorem D121_22 {g : im_g} : im_D g 121 22 (.getfield 29) 25 := im_D.of (by decide +kernel)
theorem D121_25 {g : im_g} : im_D g 121 25 (.iconst 1) 26 := im_D.of (by decide +kernel)
theorem D121_26 {g : im_g} : im_D g 121 26 (.isub) 27 := im_D.of (by decide +kernel)
theorem D121_27 {g : im_g} : im_D g 121 27 (.putfield 29) 30 := im_D.of (by decide +kernel)
theorem D121_30 {g : im_g} : im_D g 121 30 (.iload_n 1) 31 := im_D.of (by decide +kernel)
theorem D121_31 {g : im_g} : im_D g 121 31 (.istore_n 3) 32 := im_D.of (by decide +kernel)
theorem D121_32 {g : im_g} : im_D g 121 32 (.iload_n 3) 33 := im_D.of (by decide +kernel)
theorem D121_33 {g : im_g} : im_D g 121 33 (.aload_n 0) 34 := im_D.of (by decide +kernel)
theorem D121_34 {g : im_g} : im_D g 121 34 (.getfield 29) 37 := im_D.of (by decide +kernel)
theorem D121_37 {g : im_g} : im_D g 121 37 (.if_icmp .ge 51) 40 := im_D.of (by decide +kernel)
theorem D121_40 {g : im_g} : im_D g 121 40 (.aload_n 0) 41 := im_D.of (by decide +kernel)
theorem D121_41 {g : im_g} : im_D g 121 41 (.getfield 18) 44 := im_D.of (by decide +kernel)
theorem D121_44 {g : im_g} : im_D g 121 44 (.iload_n 3) 45 := im_D.of (by decide +kernel)
theorem D121_45 {g : im_g} : im_D g 121 45 (.aload_n 0) 46 := im_D.of (by decide +kernel)
theorem D121_46 {g : im_g} : im_D g 121 46 (.getfield 18) 49 := im_D.of (by decide +kernel)
theorem D121_49 {g : im_g} : im_D g 121 49 (.iload_n 3) 50 := im_D.of (by decide +kernel)
theorem D121_50 {g : im_g} : im_D g 121 50 (.iconst 1) 51 := im_D.of (by decide +kernel)
theorem D121_51 {g : im_g} : im_D g 121 51 (.iadd) 52 := im_D.of (by decide +kernel)
theorem D121_52 {g : im_g} : im_D g 121 52 (.laload) 53 := im_D.of (by decide +kernel)
theorem D121_53 {g : im_g} : im_D g 121 53 (.lastore) 54 := im_D.of (by decide +kernel)
theorem D121_54 {g : im_g} : im_D g 121 54 (.aload_n 0) 55 := im_D.of (by decide +kernel)
theorem D121_55 {g : im_g} : im_D g 121 55 (.getfield 22) 58 := im_D.of (by decide +kernel)
theorem D121_58 {g : im_g} : im_D g 121 58 (.iload_n 3) 59 := im_D.of (by decide +kernel)
theorem D121_59 {g : im_g} : im_D g 121 59 (.aload_n 0) 60 := im_D.of (by decide +kernel)
theorem D121_60 {g : im_g} : im_D g 121 60 (.getfield 22) 63 := im_D.of (by decide +kernel)
theorem D121_63 {g : im_g} : im_D g 121 63 (.iload_n 3) 64 := im_D.of (by decide +kernel)
theorem D121_64 {g : im_g} : im_D g 121 64 (.iconst 1) 65 := im_D.of (by decide +kernel)
theorem D121_65 {g : im_g} : im_D g 121 65 (.iadd) 66 := im_D.of (by decide +kernel)
theorem D121_66 {g : im_g} : im_D g 121 66 (.laload) 67 := im_D.of (by decide +kernel)
theorem D121_67 {g : im_g} : im_D g 121 67 (.lastore) 68 := im_D.of (by decide +kernel)
theorem D121_68 {g : im_g} : im_D g 121 68 (.aload_n 0) 69 := im_D.of (by decide +kernel)
theorem D121_69 {g : im_g} : im_D g 121 69 (.getfield 25) 72 := im_D.of (by decide +kernel)
theorem D121_72 {g : im_g} : im_D g 121 72 (.iload_n 3) 73 := im_D.of (by decide +kernel)
theorem D121_73 {g : im_g} : im_D g 121 73 (.aload_n 0) 74 := im_D.of (by decide +kernel)
theorem D121_74 {g : im_g} : im_D g 121 74 (.getfield 25) 77 := im_D.of (by decide +kernel)
theorem D121_77 {g : im_g} : im_D g 121 77 (.iload_n 3) 78 := im_D.of (by decide +kernel)
theorem D121_78 {g : im_g} : im_D g 121 78 (.iconst 1) 79 := im_D.of (by decide +kernel)
theorem D121_79 {g : im_g} : im_D g 121 79 (.iadd) 80 := im_D.of (by decide +kernel)
theorem D121_80 {g : im_g} : im_D g 121 80 (.aaload) 81 := im_D.of (by decide +kernel)
theorem D121_81 {g : im_g} : im_D g 121 81 (.aastore) 82 := im_D.of (by decide +kernel)
theorem D121_82 {g : im_g} : im_D g 121 82 (.iinc 3 1) 85 := im_D.of (by decide +kernel)
theorem D121_85 {g : im_g} : im_D g 121 85 (.goto (-53)) 88 := im_D.of (by decide +kernel)
theorem D121_88 {g : im_g} : im_D g 121 88 (.aload_n 0) 89 := im_D.of (by decide +kernel)
theorem D121_89 {g : im_g} : im_D g 121 89 (.getfield 25) 92 := im_D.of (by decide +kernel)
theorem D121_92 {g : im_g} : im_D g 121 92 (.aload_n 0) 93 := im_D.of (by decide +kernel)
theorem D121_93 {g : im_g} : im_D g 121 93 (.getfield 29) 96 := im_D.of (by decide +kernel)
theorem D121_96 {g : im_g} : im_D g 121 96 (.aload_n 2) 97 := im_D.of (by decide +kernel)
theorem D121_97 {g : im_g} : im_D g 121 97 (.aastore) 98 := im_D.of (by decide +kernel)
theorem D121_98 {g : im_g} : im_D g 121 98 (.return_) 99 := im_D.of (by decide +kernel)
set_option maxRecDepth 20000 in
set_option maxHeartbeats 4000000 in
theorem k_Machine_reduce_0 {g : im_g} {d : Nat} {e : im_E} {M : im_M} {K : im_K} (hP : im_T g d 111 2 [some (.ref 931), some (vI 0), none, none, none, none, none] [] e M K) : im_T g d 111 0 [some (.ref 931), none, none, none, none, none, none] [] e M K := by
  refine im_iconst (q := 1) D111_0 ?_
  refine im_st1 (q := 2) (i := 1) (L' := [some (.ref 931), some (vI 0), none, none, none, none, none]) D111_1 (Or.inl ⟨_, rfl, rfl⟩) (Nat.le_of_ble_eq_true rfl) rfl ?_
  exact hP.wk ⟨rfl, rfl, trivial⟩
set_option maxRecDepth 20000 in
set_option maxHeartbeats 4000000 in
theorem k_Machine_reduce_2 {g : im_g} {d : Nat} {e : im_E} {M : im_M} {K : im_K} {p1 : Int} (hd : 1 ≤ d) (hP : (im_i32 p1) ∧ ((1000 ≤ p1 → K (.inl (some (vI 0))) e M) ∧ (p1 < 1000 → ∃ b3 : Nat, ((M 931 4) = (b3 : Int)) ∧ (im_state e b3) ∧ (0 ≤ (M b3 5) ∧ (M b3 5) < 5000) ∧ ((((¬ (M 14 (M b3 5)) = 0 → ((¬ (M 14 (M b3 5)) = 3 → ((¬ (M 14 (M b3 5)) = 3 → ((¬ (M 14 (M b3 5)) = 0 → im_T g (d - 1) 122 0 [some (.ref 931), some (vI ((M b3 5) + 1)), some (vI 0), none, none, none, none, none, none, none, none] [] e M (im_ri (fun x79 e_ M78 => e = e_ ∧ (((M78 931 12) = 0 → im_T g (d - 1) 137 0 [some (.ref 931), some (vI (M b3 5)), some (vI (M 14 (M b3 5))), some (vI x79), none] [] e M78 (im_ri (fun x83 e_ M82 => e = e_ ∧ (im_i32 x83) ∧ ((((x83 = 0 → (((M 14 (M b3 5)) = 1 → ((0 < (M82 934 0) → im_T g (d - 1) 117 0 [some (.ref 931), some (vI (M82 18 (M b3 5))), some (vL (M82 19 (M b3 5))), none, some (vL (M82 20 (M b3 5))), none, some (vL (M82 21 (M b3 5))), none] [] e M82 (im_ri (fun x98 e_ M97 => e = e_ ∧ (im_i32 x98) ∧ ((x98 = 0 → im_T g d 111 2 [some (.ref 931), some (vI (p1 + 1)), none, none, none, none, none] [] e M97 K) ∧ (¬ x98 = 0 → K (.inl (some (vI x98))) e M97))))))))))) ∧ ((((¬ x83 = 0)) ∨ ((x83 = 0) ∧ (¬ (M 14 (M b3 5)) = 1)) ∨ ((x83 = 0) ∧ ((M 14 (M b3 5)) = 1) ∧ ((M82 934 0) ≤ 0))) → ((x83 = 0 → im_T g d 111 2 [some (.ref 931), some (vI (p1 + 1)), none, none, none, none, none] [] e M82 K) ∧ (¬ x83 = 0 → K (.inl (some (vI x83))) e M82))))))) ∧ (¬ (M78 931 12) = 0 → K (.inl (some (vI (-8)))) e M78))))) ∧ ((M 14 (M b3 5)) = 0 → ∃ b106 : Nat, ((M 931 4) = (b106 : Int)) ∧ (im_state e b106) ∧ ∃ b110 : Nat, ((M 931 4) = (b110 : Int)) ∧ (im_state e b110) ∧ ∃ b113 : Nat, ((M ((b110 + 1) + 5) 0) = (b113 : Int)) ∧ (im_num e b113) ∧ im_T g (d - 1) 66 0 [some (.ref 934), some (.ref b113), none] [] e M (im_r0 (fun  e_ M116 => e = e_ ∧ ∃ b117 : Nat, ((M116 931 4) = (b117 : Int)) ∧ (im_state e b117) ∧ im_T g (d - 1) 117 0 [some (.ref 931), some (vI 0), some (vL (M ((b106 + 1) + 3) 0)), none, some (vL (M ((b106 + 1) + 3) 0)), none, some (vL ((im_u M116 931 13 1) ((b117 + 1) + 4) 0)), none] [] e (im_u M116 931 13 1) (im_ri (fun x122 e_ M121 => e = e_ ∧ (im_i32 x122) ∧ ((x122 = 0 → im_T g d 111 2 [some (.ref 931), some (vI (p1 + 1)), none, none, none, none, none] [] e M121 K) ∧ (¬ x122 = 0 → K (.inl (some (vI x122))) e M121))))))))) ∧ ((M 14 (M b3 5)) = 3 → im_T g (d - 1) 114 0 [some (.ref 931), some (vI (M b3 5))] [] e M (im_ri (fun x128 e_ M127 => e = e_ ∧ (im_i32 x128) ∧ ((x128 = 0 → im_T g d 111 2 [some (.ref 931), some (vI (p1 + 1)), none, none, none, none, none] [] e M127 K) ∧ (¬ x128 = 0 → K (.inl (some (vI x128))) e M127))))))))))) ∧ (((((M 14 (M b3 5)) = 0)) ∨ ((¬ (M 14 (M b3 5)) = 0) ∧ ((M 14 (M b3 5)) = 3))) → im_T g (d - 1) 112 0 [some (.ref 931), some (vL (M 931 11)), none, none] [] e M (im_ri (fun x16 e_ M15 => e = e_ ∧ (im_i32 x16) ∧ ((x16 = 0 → ((¬ (M 14 (M b3 5)) = 3 → ((¬ (M 14 (M b3 5)) = 0 → im_T g (d - 1) 122 0 [some (.ref 931), some (vI ((M b3 5) + 1)), some (vI 0), none, none, none, none, none, none, none, none] [] e M15 (im_ri (fun x22 e_ M21 => e = e_ ∧ (((M21 931 12) = 0 → im_T g (d - 1) 137 0 [some (.ref 931), some (vI (M b3 5)), some (vI (M 14 (M b3 5))), some (vI x22), none] [] e M21 (im_ri (fun x26 e_ M25 => e = e_ ∧ (im_i32 x26) ∧ ((((x26 = 0 → (((M 14 (M b3 5)) = 1 → ((0 < (M25 934 0) → im_T g (d - 1) 117 0 [some (.ref 931), some (vI (M25 18 (M b3 5))), some (vL (M25 19 (M b3 5))), none, some (vL (M25 20 (M b3 5))), none, some (vL (M25 21 (M b3 5))), none] [] e M25 (im_ri (fun x41 e_ M40 => e = e_ ∧ (im_i32 x41) ∧ ((x41 = 0 → im_T g d 111 2 [some (.ref 931), some (vI (p1 + 1)), none, none, none, none, none] [] e M40 K) ∧ (¬ x41 = 0 → K (.inl (some (vI x41))) e M40))))))))))) ∧ ((((¬ x26 = 0)) ∨ ((x26 = 0) ∧ (¬ (M 14 (M b3 5)) = 1)) ∨ ((x26 = 0) ∧ ((M 14 (M b3 5)) = 1) ∧ ((M25 934 0) ≤ 0))) → ((x26 = 0 → im_T g d 111 2 [some (.ref 931), some (vI (p1 + 1)), none, none, none, none, none] [] e M25 K) ∧ (¬ x26 = 0 → K (.inl (some (vI x26))) e M25))))))) ∧ (¬ (M21 931 12) = 0 → K (.inl (some (vI (-8)))) e M21))))) ∧ ((M 14 (M b3 5)) = 0 → ∃ b49 : Nat, ((M15 931 4) = (b49 : Int)) ∧ (im_state e b49) ∧ ∃ b53 : Nat, ((M15 931 4) = (b53 : Int)) ∧ (im_state e b53) ∧ ∃ b56 : Nat, ((M15 ((b53 + 1) + 5) 0) = (b56 : Int)) ∧ (im_num e b56) ∧ im_T g (d - 1) 66 0 [some (.ref 934), some (.ref b56), none] [] e M15 (im_r0 (fun  e_ M59 => e = e_ ∧ ∃ b60 : Nat, ((M59 931 4) = (b60 : Int)) ∧ (im_state e b60) ∧ im_T g (d - 1) 117 0 [some (.ref 931), some (vI 0), some (vL (M15 ((b49 + 1) + 3) 0)), none, some (vL (M15 ((b49 + 1) + 3) 0)), none, some (vL ((im_u M59 931 13 1) ((b60 + 1) + 4) 0)), none] [] e (im_u M59 931 13 1) (im_ri (fun x65 e_ M64 => e = e_ ∧ (im_i32 x65) ∧ ((x65 = 0 → im_T g d 111 2 [some (.ref 931), some (vI (p1 + 1)), none, none, none, none, none] [] e M64 K) ∧ (¬ x65 = 0 → K (.inl (some (vI x65))) e M64))))))))) ∧ ((M 14 (M b3 5)) = 3 → im_T g (d - 1) 114 0 [some (.ref 931), some (vI (M b3 5))] [] e M15 (im_ri (fun x71 e_ M70 => e = e_ ∧ (im_i32 x71) ∧ ((x71 = 0 → im_T g d 111 2 [some (.ref 931), some (vI (p1 + 1)), none, none, none, none, none] [] e M70 K) ∧ (¬ x71 = 0 → K (.inl (some (vI x71))) e M70))))))) ∧ (¬ x16 = 0 → K (.inl (some (vI 0))) e M15))))))))) : im_T g d 111 2 [some (.ref 931), some (vI p1), none, none, none, none, none] [] e M K := by
  refine im_ld (q := 3) (i := 1) D111_2 rfl rfl rfl ?_
  refine im_sipush (q := 6) D111_3 rfl ?_
  obtain ⟨hg1, hP⟩ := hP
  refine im_icmp (q := 9) (t := 240) D111_6 rfl hg1 (by decide) (fun hc2 => ?_) (fun hc2 => ?_)
  · replace hP := hP.1 hc2
    refine im_iconst (q := 241) D111_240 ?_
    exact im_iret (q := 242) D111_241 rfl hP
  · replace hP := hP.2 (Int.not_le.mp hc2)
    refine im_ld (q := 10) (i := 0) D111_9 rfl rfl rfl ?_
    obtain ⟨b3, hb4, hP⟩ := hP
    obtain ⟨hb5, hP⟩ := hP
    refine im_gfD (q := 13) D111_10 (im_fl cn_111 fl_2_31) sf_931 rfl rfl tR_2_4 rfl hb4 ?_
    refine im_rng (j := 5) hb5.1 (by decide) (show (5 : Int) < ((7 : Nat) : Int) by decide) (fun hr6 => ?_)
    refine im_gfI (q := 16) D111_13 (im_fl cn_111 fl_2_183) hb5.1 rfl rfl tI_9_5 rfl ?_
    refine im_st1 (q := 17) (i := 2) (L' := [some (.ref 931), some (vI p1), some (vI (M b3 5)), none, none, none, none]) D111_16 (Or.inl ⟨_, rfl, rfl⟩) (Nat.le_of_ble_eq_true rfl) rfl ?_
    refine im_ld (q := 18) (i := 0) D111_17 rfl rfl rfl ?_
    refine im_gfR (q := 21) (b := 13) D111_18 (im_fl cn_111 fl_2_55) sf_931 rfl rfl tR_2_0 rfl ?_
    refine im_gfR (q := 24) (b := 14) D111_21 (im_fl cn_111 fl_2_89) sf_13 rfl rfl tR_5_0 rfl ?_
    refine im_ld (q := 25) (i := 2) D111_24 rfl rfl rfl ?_
    obtain ⟨hg7, hP⟩ := hP
    refine im_rng (j := (M b3 5)) sf_14 hg7.1 hg7.2 (fun hr8 => ?_)
    refine im_iald (q := 26) D111_25 sf_14 hg7.1 hg7.2 (by decide) rfl ?_
    refine im_st1 (q := 27) (i := 3) (L' := [some (.ref 931), some (vI p1), some (vI (M b3 5)), some (vI (M 14 (M b3 5))), none, none, none]) D111_26 (Or.inl ⟨_, rfl, rfl⟩) (Nat.le_of_ble_eq_true rfl) rfl ?_
    refine im_ld (q := 28) (i := 3) D111_27 rfl rfl rfl ?_
    obtain ⟨hP, hJ11⟩ := hP
    have kJ12 : ((((M 14 (M b3 5)) = 0)) ∨ ((¬ (M 14 (M b3 5)) = 0) ∧ ((M 14 (M b3 5)) = 3))) → im_T g d 111 36 [some (.ref 931), some (vI p1), some (vI (M b3 5)), some (vI (M 14 (M b3 5))), none, none, none] [] e M K := by
      intro  hx13
      have hP := hJ11  hx13
      refine im_ld (q := 37) (i := 0) D111_36 rfl rfl rfl ?_
      refine im_ld (q := 38) (i := 0) D111_37 rfl rfl rfl ?_
      refine im_rng (j := 11) sf_931 (by decide) (by decide) (fun hr14 => ?_)
      refine im_gfL (q := 41) D111_38 (im_fl cn_111 fl_2_83) sf_931 rfl rfl tL_2_11 rfl ?_
      refine im_callV (q := 44) (kd := 1) (y := 112) (n := 1) (ci := 2) (a := 931) (vs := [.ref 931, vL (M 931 11)]) (r := []) (L2 := [some (.ref 931), some (vL (M 931 11)), none, none]) D111_41 (im_cal cn_111 cl_2_199) (Or.inl rfl) rfl sf_931 rfl rfl rfl rfl hd ⟨rfl, rfl, trivial⟩ ?_
      refine hP.mono ?_
      rintro _ e75 M15 ⟨x16, rfl, rfl, hP⟩
      refine im_bkS ?_
      obtain ⟨hg17, hP⟩ := hP
      refine im_ifc (q := 47) (t := 49) D111_44 rfl hg17 (fun hc18 => ?_) (fun hc18 => ?_)
      · replace hP := hP.1 hc18
        refine im_ld (q := 50) (i := 3) D111_49 rfl rfl rfl ?_
        refine im_iconst (q := 51) D111_50 ?_
        refine im_icmp (q := 54) (t := 64) D111_51 rfl hr8 (by decide) (fun hc19 => ?_) (fun hc19 => ?_)
        · replace hP := hP.1 hc19
          refine im_ld (q := 65) (i := 3) D111_64 rfl rfl rfl ?_
          refine im_ifc (q := 68) (t := 132) D111_65 rfl hr8 (fun hc20 => ?_) (fun hc20 => ?_)
          · replace hP := hP.1 hc20
            refine im_ld (q := 133) (i := 0) D111_132 rfl rfl rfl ?_
            refine im_ld (q := 134) (i := 2) D111_133 rfl rfl rfl ?_
            refine im_iconst (q := 135) D111_134 ?_
            refine im_iadd (q := 136) D111_135 ?_
            refine im_iconst (q := 137) D111_136 ?_
            refine im_callV (q := 140) (kd := 1) (y := 122) (n := 2) (ci := 2) (a := 931) (vs := [.ref 931, vI ((M b3 5) + 1), vI 0]) (r := []) (L2 := [some (.ref 931), some (vI ((M b3 5) + 1)), some (vI 0), none, none, none, none, none, none, none, none]) D111_137 (im_cal cn_111 cl_2_101) (Or.inl rfl) rfl sf_931 rfl rfl rfl rfl hd ⟨rfl, rfl, rfl, trivial⟩ ?_
            refine hP.mono ?_
            rintro _ e48 M21 ⟨x22, rfl, rfl, hP⟩
            refine im_bkS ?_
            refine im_st1 (q := 142) (i := 5) (L' := [some (.ref 931), some (vI p1), some (vI (M b3 5)), some (vI (M 14 (M b3 5))), none, some (vI x22), none]) D111_140 (Or.inr rfl) (Nat.le_of_ble_eq_true rfl) rfl ?_
            refine im_ld (q := 143) (i := 0) D111_142 rfl rfl rfl ?_
            refine im_rng (j := 12) sf_931 (by decide) (by decide) (fun hr23 => ?_)
            refine im_gfI (q := 146) D111_143 (im_fl cn_111 fl_2_86) sf_931 rfl rfl tI_2_12 rfl ?_
            refine im_ifc (q := 149) (t := 154) D111_146 rfl (im_z32 hr23) (fun hc24 => ?_) (fun hc24 => ?_)
            · replace hP := hP.1 hc24
              refine im_ld (q := 155) (i := 0) D111_154 rfl rfl rfl ?_
              refine im_ld (q := 156) (i := 2) D111_155 rfl rfl rfl ?_
              refine im_ld (q := 157) (i := 3) D111_156 rfl rfl rfl ?_
              refine im_ld (q := 159) (i := 5) D111_157 rfl rfl rfl ?_
              refine im_callV (q := 162) (kd := 1) (y := 137) (n := 3) (ci := 2) (a := 931) (vs := [.ref 931, vI (M b3 5), vI (M 14 (M b3 5)), vI x22]) (r := []) (L2 := [some (.ref 931), some (vI (M b3 5)), some (vI (M 14 (M b3 5))), some (vI x22), none]) D111_159 (im_cal cn_111 cl_2_214) (Or.inl rfl) rfl sf_931 rfl rfl rfl rfl hd ⟨rfl, rfl, rfl, rfl, trivial⟩ ?_
              refine hP.mono ?_
              rintro _ e45 M25 ⟨x26, rfl, rfl, hP⟩
              refine im_bkS ?_
              refine im_st1 (q := 164) (i := 4) (L' := [some (.ref 931), some (vI p1), some (vI (M b3 5)), some (vI (M 14 (M b3 5))), some (vI x26), some (vI x22), none]) D111_162 (Or.inr rfl) (Nat.le_of_ble_eq_true rfl) rfl ?_
              refine im_ld (q := 166) (i := 4) D111_164 rfl rfl rfl ?_
              obtain ⟨hg27, hP⟩ := hP
              obtain ⟨hP, hJ36⟩ := hP
              have kJ37 : (((¬ x26 = 0)) ∨ ((x26 = 0) ∧ (¬ (M 14 (M b3 5)) = 1)) ∨ ((x26 = 0) ∧ ((M 14 (M b3 5)) = 1) ∧ ((M25 934 0) ≤ 0))) → im_T g d 111 226 [some (.ref 931), some (vI p1), none, none, some (vI x26), none, none] [] e M25 K := by
                intro  hx38
                have hP := hJ36  hx38
                refine im_ld (q := 228) (i := 4) D111_226 rfl rfl rfl ?_
                refine im_ifc (q := 231) (t := 234) D111_228 rfl hg27 (fun hc39 => ?_) (fun hc39 => ?_)
                · replace hP := hP.1 hc39
                  refine im_iinc (q := 237) (i := 1) (L' := [some (.ref 931), some (vI (p1 + 1)), none, none, some (vI x26), none, none]) D111_234 rfl (Nat.le_of_ble_eq_true rfl) rfl ?_
                  refine im_goto (q := 240) (t := 2) D111_237 rfl ?_
                  exact hP.wk ⟨rfl, rfl, trivial⟩
                · replace hP := hP.2 hc39
                  refine im_ld (q := 233) (i := 4) D111_231 rfl rfl rfl ?_
                  exact im_iret (q := 234) D111_233 rfl hP
              refine im_ifc (q := 169) (t := 226) D111_166 rfl hg27 (fun hc28 => ?_) (fun hc28 => ?_)
              · exact (kJ37  (Or.inl hc28)).wk ⟨rfl, rfl, rfl, trivial⟩
              · replace hP := hP (Decidable.not_not.mp hc28)
                refine im_ld (q := 170) (i := 3) D111_169 rfl rfl rfl ?_
                refine im_iconst (q := 171) D111_170 ?_
                refine im_icmp (q := 174) (t := 226) D111_171 rfl hr8 (by decide) (fun hc29 => ?_) (fun hc29 => ?_)
                · exact (kJ37  (Or.inr (Or.inl ⟨(Decidable.not_not.mp hc28), hc29⟩))).wk ⟨rfl, rfl, rfl, trivial⟩
                · replace hP := hP (Decidable.not_not.mp hc29)
                  refine im_ld (q := 175) (i := 0) D111_174 rfl rfl rfl ?_
                  refine im_gfR (q := 178) (b := 934) D111_175 (im_fl cn_111 fl_2_22) sf_931 rfl rfl tR_2_3 rfl ?_
                  refine im_rng (j := 0) sf_934 (by decide) (by decide) (fun hr30 => ?_)
                  refine im_gfI (q := 181) D111_178 (im_fl cn_111 fl_2_108) sf_934 rfl rfl tI_3_0 rfl ?_
                  refine im_ifc (q := 184) (t := 226) D111_181 rfl hr30 (fun hc31 => ?_) (fun hc31 => ?_)
                  · exact (kJ37  (Or.inr (Or.inr ⟨(Decidable.not_not.mp hc28), (Decidable.not_not.mp hc29), hc31⟩))).wk ⟨rfl, rfl, rfl, trivial⟩
                  · replace hP := hP (Int.not_le.mp hc31)
                    refine im_ld (q := 185) (i := 0) D111_184 rfl rfl rfl ?_
                    refine im_ld (q := 186) (i := 0) D111_185 rfl rfl rfl ?_
                    refine im_gfR (q := 189) (b := 13) D111_186 (im_fl cn_111 fl_2_55) sf_931 rfl rfl tR_2_0 rfl ?_
                    refine im_gfR (q := 192) (b := 18) D111_189 (im_fl cn_111 fl_2_134) sf_13 rfl rfl tR_5_4 rfl ?_
                    refine im_ld (q := 193) (i := 2) D111_192 rfl rfl rfl ?_
                    refine im_rng (j := (M b3 5)) sf_18 hg7.1 hg7.2 (fun hr32 => ?_)
                    refine im_iald (q := 194) D111_193 sf_18 hg7.1 hg7.2 (by decide) rfl ?_
                    refine im_ld (q := 195) (i := 0) D111_194 rfl rfl rfl ?_
                    refine im_gfR (q := 198) (b := 13) D111_195 (im_fl cn_111 fl_2_55) sf_931 rfl rfl tR_2_0 rfl ?_
                    refine im_gfR (q := 201) (b := 19) D111_198 (im_fl cn_111 fl_2_68) sf_13 rfl rfl tR_5_5 rfl ?_
                    refine im_ld (q := 202) (i := 2) D111_201 rfl rfl rfl ?_
                    refine im_rng (j := (M b3 5)) sf_19 hg7.1 hg7.2 (fun hr33 => ?_)
                    refine im_lald (q := 203) D111_202 sf_19 hg7.1 hg7.2 (by decide) rfl ?_
                    refine im_ld (q := 204) (i := 0) D111_203 rfl rfl rfl ?_
                    refine im_gfR (q := 207) (b := 13) D111_204 (im_fl cn_111 fl_2_55) sf_931 rfl rfl tR_2_0 rfl ?_
                    refine im_gfR (q := 210) (b := 20) D111_207 (im_fl cn_111 fl_2_63) sf_13 rfl rfl tR_5_6 rfl ?_
                    refine im_ld (q := 211) (i := 2) D111_210 rfl rfl rfl ?_
                    refine im_rng (j := (M b3 5)) sf_20 hg7.1 hg7.2 (fun hr34 => ?_)
                    refine im_lald (q := 212) D111_211 sf_20 hg7.1 hg7.2 (by decide) rfl ?_
                    refine im_ld (q := 213) (i := 0) D111_212 rfl rfl rfl ?_
                    refine im_gfR (q := 216) (b := 13) D111_213 (im_fl cn_111 fl_2_55) sf_931 rfl rfl tR_2_0 rfl ?_
                    refine im_gfR (q := 219) (b := 21) D111_216 (im_fl cn_111 fl_2_218) sf_13 rfl rfl tR_5_7 rfl ?_
                    refine im_ld (q := 220) (i := 2) D111_219 rfl rfl rfl ?_
                    refine im_rng (j := (M b3 5)) sf_21 hg7.1 hg7.2 (fun hr35 => ?_)
                    refine im_lald (q := 221) D111_220 sf_21 hg7.1 hg7.2 (by decide) rfl ?_
                    refine im_callV (q := 224) (kd := 1) (y := 117) (n := 4) (ci := 2) (a := 931) (vs := [.ref 931, vI (M25 18 (M b3 5)), vL (M25 19 (M b3 5)), vL (M25 20 (M b3 5)), vL (M25 21 (M b3 5))]) (r := []) (L2 := [some (.ref 931), some (vI (M25 18 (M b3 5))), some (vL (M25 19 (M b3 5))), none, some (vL (M25 20 (M b3 5))), none, some (vL (M25 21 (M b3 5))), none]) D111_221 (im_cal cn_111 cl_2_210) (Or.inl rfl) rfl sf_931 rfl rfl rfl rfl hd ⟨rfl, rfl, rfl, rfl, rfl, trivial⟩ ?_
                    refine hP.mono ?_
                    rintro _ e44 M40 ⟨x41, rfl, rfl, hP⟩
                    refine im_bkS ?_
                    refine im_st1 (q := 226) (i := 4) (L' := [some (.ref 931), some (vI p1), some (vI (M b3 5)), some (vI (M 14 (M b3 5))), some (vI x41), some (vI x22), none]) D111_224 (Or.inr rfl) (Nat.le_of_ble_eq_true rfl) rfl ?_
                    refine im_ld (q := 228) (i := 4) D111_226 rfl rfl rfl ?_
                    obtain ⟨hg42, hP⟩ := hP
                    refine im_ifc (q := 231) (t := 234) D111_228 rfl hg42 (fun hc43 => ?_) (fun hc43 => ?_)
                    · replace hP := hP.1 hc43
                      refine im_iinc (q := 237) (i := 1) (L' := [some (.ref 931), some (vI (p1 + 1)), some (vI (M b3 5)), some (vI (M 14 (M b3 5))), some (vI x41), some (vI x22), none]) D111_234 rfl (Nat.le_of_ble_eq_true rfl) rfl ?_
                      refine im_goto (q := 240) (t := 2) D111_237 rfl ?_
                      exact hP.wk ⟨rfl, rfl, trivial⟩
                    · replace hP := hP.2 hc43
                      refine im_ld (q := 233) (i := 4) D111_231 rfl rfl rfl ?_
                      exact im_iret (q := 234) D111_233 rfl hP
            · replace hP := hP.2 hc24
              refine im_bipush (q := 151) D111_149 rfl ?_
              refine im_goto (q := 154) (t := 162) D111_151 rfl ?_
              refine im_st1 (q := 164) (i := 4) (L' := [some (.ref 931), some (vI p1), some (vI (M b3 5)), some (vI (M 14 (M b3 5))), some (vI (-8)), some (vI x22), none]) D111_162 (Or.inr rfl) (Nat.le_of_ble_eq_true rfl) rfl ?_
              refine im_ld (q := 166) (i := 4) D111_164 rfl rfl rfl ?_
              refine im_ifc (q := 169) (t := 226) D111_166 rfl (by decide) (fun _ => ?_) (fun hc => absurd (show ¬ ((-8) : Int) = 0 by decide) hc)
              refine im_ld (q := 228) (i := 4) D111_226 rfl rfl rfl ?_
              refine im_ifc (q := 231) (t := 234) D111_228 rfl (by decide) (fun hc => absurd hc (show ¬ (((-8) : Int) = 0) by decide)) (fun _ => ?_)
              refine im_ld (q := 233) (i := 4) D111_231 rfl rfl rfl ?_
              exact im_iret (q := 234) D111_233 rfl hP
          · replace hP := hP.2 (Decidable.not_not.mp hc20)
            refine im_ld (q := 69) (i := 0) D111_68 rfl rfl rfl ?_
            obtain ⟨b49, hb50, hP⟩ := hP
            obtain ⟨hb51, hP⟩ := hP
            refine im_gfD (q := 72) D111_69 (im_fl cn_111 fl_2_31) sf_931 rfl rfl tR_2_4 rfl hb50 ?_
            refine im_gfR (q := 75) (b := (b49 + 1)) D111_72 (im_fl cn_111 fl_2_145) hb51.1 rfl rfl tR_9_0 rfl ?_
            refine im_gfR (q := 78) (b := ((b49 + 1) + 3)) D111_75 (im_fl cn_111 fl_2_207) hb51.2.1.1 rfl rfl tR_0_0 rfl ?_
            refine im_iconst (q := 79) D111_78 ?_
            refine im_rng (j := 0) hb51.2.1.2.1 (by decide) (by decide) (fun hr52 => ?_)
            refine im_lald (q := 80) D111_79 hb51.2.1.2.1 (by decide) (by decide) (by decide) rfl ?_
            refine im_st2 (q := 82) (i := 5) (L' := [some (.ref 931), some (vI p1), some (vI (M b3 5)), some (vI (M 14 (M b3 5))), none, some (vL (M15 ((b49 + 1) + 3) 0)), none]) D111_80 (Or.inr rfl) (Nat.le_of_ble_eq_true rfl) rfl ?_
            refine im_ld (q := 83) (i := 0) D111_82 rfl rfl rfl ?_
            refine im_gfR (q := 86) (b := 934) D111_83 (im_fl cn_111 fl_2_22) sf_931 rfl rfl tR_2_3 rfl ?_
            refine im_ld (q := 87) (i := 0) D111_86 rfl rfl rfl ?_
            obtain ⟨b53, hb54, hP⟩ := hP
            obtain ⟨hb55, hP⟩ := hP
            refine im_gfD (q := 90) D111_87 (im_fl cn_111 fl_2_31) sf_931 rfl rfl tR_2_4 rfl hb54 ?_
            refine im_gfR (q := 93) (b := (b53 + 1)) D111_90 (im_fl cn_111 fl_2_145) hb55.1 rfl rfl tR_9_0 rfl ?_
            refine im_gfR (q := 96) (b := ((b53 + 1) + 5)) D111_93 (im_fl cn_111 fl_2_208) hb55.2.1.1 rfl rfl tR_0_2 rfl ?_
            refine im_iconst (q := 97) D111_96 ?_
            obtain ⟨b56, hb57, hP⟩ := hP
            obtain ⟨hb58, hP⟩ := hP
            refine im_aald (q := 98) D111_97 hb55.2.1.2.2.2.1 (Or.inl rfl) (by decide) (by decide) (by decide) hb57 ?_
            refine im_callV (q := 101) (kd := 1) (y := 66) (n := 1) (ci := 3) (a := 934) (vs := [.ref 934, .ref b56]) (r := []) (L2 := [some (.ref 934), some (.ref b56), none]) D111_98 (im_cal cn_111 cl_2_141) (Or.inl rfl) rfl sf_934 rfl rfl rfl rfl hd ⟨rfl, rfl, trivial⟩ ?_
            refine hP.mono ?_
            rintro _ e69 M59 ⟨rfl, rfl, hP⟩
            refine im_bkN ?_
            refine im_ld (q := 102) (i := 0) D111_101 rfl rfl rfl ?_
            refine im_iconst (q := 103) D111_102 ?_
            refine im_pfZ (q := 106) D111_103 (im_fl cn_111 fl_2_180) sf_931 rfl rfl tz_2_13 (by decide) ?_
            refine im_ld (q := 107) (i := 0) D111_106 rfl rfl rfl ?_
            refine im_iconst (q := 108) D111_107 ?_
            refine im_ld (q := 110) (i := 5) D111_108 rfl rfl rfl ?_
            refine im_ld (q := 112) (i := 5) D111_110 rfl rfl rfl ?_
            refine im_ld (q := 113) (i := 0) D111_112 rfl rfl rfl ?_
            obtain ⟨b60, hb61, hP⟩ := hP
            obtain ⟨hb62, hP⟩ := hP
            refine im_gfD (q := 116) D111_113 (im_fl cn_111 fl_2_31) sf_931 rfl rfl tR_2_4 rfl (((im_rdk _ _ _ (by decide))).trans hb61) ?_
            refine im_gfR (q := 119) (b := (b60 + 1)) D111_116 (im_fl cn_111 fl_2_145) hb62.1 rfl rfl tR_9_0 rfl ?_
            refine im_gfR (q := 122) (b := ((b60 + 1) + 4)) D111_119 (im_fl cn_111 fl_2_209) hb62.2.1.1 rfl rfl tR_0_1 rfl ?_
            refine im_iconst (q := 123) D111_122 ?_
            refine im_rng (j := 0) hb62.2.1.2.2.1 (by decide) (by decide) (fun hr63 => ?_)
            refine im_lald (q := 124) D111_123 hb62.2.1.2.2.1 (by decide) (by decide) (by decide) rfl ?_
            refine im_callV (q := 127) (kd := 1) (y := 117) (n := 4) (ci := 2) (a := 931) (vs := [.ref 931, vI 0, vL (M15 ((b49 + 1) + 3) 0), vL (M15 ((b49 + 1) + 3) 0), vL ((im_u M59 931 13 1) ((b60 + 1) + 4) 0)]) (r := []) (L2 := [some (.ref 931), some (vI 0), some (vL (M15 ((b49 + 1) + 3) 0)), none, some (vL (M15 ((b49 + 1) + 3) 0)), none, some (vL ((im_u M59 931 13 1) ((b60 + 1) + 4) 0)), none]) D111_124 (im_cal cn_111 cl_2_210) (Or.inl rfl) rfl sf_931 rfl rfl rfl rfl hd ⟨rfl, rfl, rfl, rfl, rfl, trivial⟩ ?_
            refine hP.mono ?_
            rintro _ e68 M64 ⟨x65, rfl, rfl, hP⟩
            refine im_bkS ?_
            refine im_st1 (q := 129) (i := 4) (L' := [some (.ref 931), some (vI p1), some (vI (M b3 5)), some (vI (M 14 (M b3 5))), some (vI x65), some (vL (M15 ((b49 + 1) + 3) 0)), none]) D111_127 (Or.inr rfl) (Nat.le_of_ble_eq_true rfl) rfl ?_
            refine im_goto (q := 132) (t := 226) D111_129 rfl ?_
            refine im_ld (q := 228) (i := 4) D111_226 rfl rfl rfl ?_
            obtain ⟨hg66, hP⟩ := hP
            refine im_ifc (q := 231) (t := 234) D111_228 rfl hg66 (fun hc67 => ?_) (fun hc67 => ?_)
            · replace hP := hP.1 hc67
              refine im_iinc (q := 237) (i := 1) (L' := [some (.ref 931), some (vI (p1 + 1)), some (vI (M b3 5)), some (vI (M 14 (M b3 5))), some (vI x65), some (vL (M15 ((b49 + 1) + 3) 0)), none]) D111_234 rfl (Nat.le_of_ble_eq_true rfl) rfl ?_
              refine im_goto (q := 240) (t := 2) D111_237 rfl ?_
              exact hP.wk ⟨rfl, rfl, trivial⟩
            · replace hP := hP.2 hc67
              refine im_ld (q := 233) (i := 4) D111_231 rfl rfl rfl ?_
              exact im_iret (q := 234) D111_233 rfl hP
        · replace hP := hP.2 (Decidable.not_not.mp hc19)
          refine im_ld (q := 55) (i := 0) D111_54 rfl rfl rfl ?_
          refine im_ld (q := 56) (i := 2) D111_55 rfl rfl rfl ?_
          refine im_callV (q := 59) (kd := 1) (y := 114) (n := 1) (ci := 2) (a := 931) (vs := [.ref 931, vI (M b3 5)]) (r := []) (L2 := [some (.ref 931), some (vI (M b3 5))]) D111_56 (im_cal cn_111 cl_2_203) (Or.inl rfl) rfl sf_931 rfl rfl rfl rfl hd ⟨rfl, rfl, trivial⟩ ?_
          refine hP.mono ?_
          rintro _ e74 M70 ⟨x71, rfl, rfl, hP⟩
          refine im_bkS ?_
          refine im_st1 (q := 61) (i := 4) (L' := [some (.ref 931), some (vI p1), some (vI (M b3 5)), some (vI (M 14 (M b3 5))), some (vI x71), none, none]) D111_59 (Or.inr rfl) (Nat.le_of_ble_eq_true rfl) rfl ?_
          refine im_goto (q := 64) (t := 226) D111_61 rfl ?_
          refine im_ld (q := 228) (i := 4) D111_226 rfl rfl rfl ?_
          obtain ⟨hg72, hP⟩ := hP
          refine im_ifc (q := 231) (t := 234) D111_228 rfl hg72 (fun hc73 => ?_) (fun hc73 => ?_)
          · replace hP := hP.1 hc73
            refine im_iinc (q := 237) (i := 1) (L' := [some (.ref 931), some (vI (p1 + 1)), some (vI (M b3 5)), some (vI (M 14 (M b3 5))), some (vI x71), none, none]) D111_234 rfl (Nat.le_of_ble_eq_true rfl) rfl ?_
            refine im_goto (q := 240) (t := 2) D111_237 rfl ?_
            exact hP.wk ⟨rfl, rfl, trivial⟩
          · replace hP := hP.2 hc73
            refine im_ld (q := 233) (i := 4) D111_231 rfl rfl rfl ?_
            exact im_iret (q := 234) D111_233 rfl hP
      · replace hP := hP.2 hc18
        refine im_iconst (q := 48) D111_47 ?_
        exact im_iret (q := 49) D111_48 rfl hP
    refine im_ifc (q := 31) (t := 36) D111_28 rfl hr8 (fun hc9 => ?_) (fun hc9 => ?_)
    · exact (kJ12  (Or.inl hc9)).wk ⟨rfl, rfl, rfl, rfl, trivial⟩
    · replace hP := hP hc9
      refine im_ld (q := 32) (i := 3) D111_31 rfl rfl rfl ?_
      refine im_iconst (q := 33) D111_32 ?_
      refine im_icmp (q := 36) (t := 49) D111_33 rfl hr8 (by decide) (fun hc10 => ?_) (fun hc10 => ?_)
      · replace hP := hP hc10
        refine im_ld (q := 50) (i := 3) D111_49 rfl rfl rfl ?_
        refine im_iconst (q := 51) D111_50 ?_
        refine im_icmp (q := 54) (t := 64) D111_51 rfl hr8 (by decide) (fun hc76 => ?_) (fun hc76 => ?_)
        · replace hP := hP.1 hc76
          refine im_ld (q := 65) (i := 3) D111_64 rfl rfl rfl ?_
          refine im_ifc (q := 68) (t := 132) D111_65 rfl hr8 (fun hc77 => ?_) (fun hc77 => ?_)
          · replace hP := hP.1 hc77
            refine im_ld (q := 133) (i := 0) D111_132 rfl rfl rfl ?_
            refine im_ld (q := 134) (i := 2) D111_133 rfl rfl rfl ?_
            refine im_iconst (q := 135) D111_134 ?_
            refine im_iadd (q := 136) D111_135 ?_
            refine im_iconst (q := 137) D111_136 ?_
            refine im_callV (q := 140) (kd := 1) (y := 122) (n := 2) (ci := 2) (a := 931) (vs := [.ref 931, vI ((M b3 5) + 1), vI 0]) (r := []) (L2 := [some (.ref 931), some (vI ((M b3 5) + 1)), some (vI 0), none, none, none, none, none, none, none, none]) D111_137 (im_cal cn_111 cl_2_101) (Or.inl rfl) rfl sf_931 rfl rfl rfl rfl hd ⟨rfl, rfl, rfl, trivial⟩ ?_
            refine hP.mono ?_
            rintro _ e105 M78 ⟨x79, rfl, rfl, hP⟩
            refine im_bkS ?_
            refine im_st1 (q := 142) (i := 5) (L' := [some (.ref 931), some (vI p1), some (vI (M b3 5)), some (vI (M 14 (M b3 5))), none, some (vI x79), none]) D111_140 (Or.inr rfl) (Nat.le_of_ble_eq_true rfl) rfl ?_
            refine im_ld (q := 143) (i := 0) D111_142 rfl rfl rfl ?_
            refine im_rng (j := 12) sf_931 (by decide) (by decide) (fun hr80 => ?_)
            refine im_gfI (q := 146) D111_143 (im_fl cn_111 fl_2_86) sf_931 rfl rfl tI_2_12 rfl ?_
            refine im_ifc (q := 149) (t := 154) D111_146 rfl (im_z32 hr80) (fun hc81 => ?_) (fun hc81 => ?_)
            · replace hP := hP.1 hc81
              refine im_ld (q := 155) (i := 0) D111_154 rfl rfl rfl ?_
              refine im_ld (q := 156) (i := 2) D111_155 rfl rfl rfl ?_
              refine im_ld (q := 157) (i := 3) D111_156 rfl rfl rfl ?_
              refine im_ld (q := 159) (i := 5) D111_157 rfl rfl rfl ?_
              refine im_callV (q := 162) (kd := 1) (y := 137) (n := 3) (ci := 2) (a := 931) (vs := [.ref 931, vI (M b3 5), vI (M 14 (M b3 5)), vI x79]) (r := []) (L2 := [some (.ref 931), some (vI (M b3 5)), some (vI (M 14 (M b3 5))), some (vI x79), none]) D111_159 (im_cal cn_111 cl_2_214) (Or.inl rfl) rfl sf_931 rfl rfl rfl rfl hd ⟨rfl, rfl, rfl, rfl, trivial⟩ ?_
              refine hP.mono ?_
              rintro _ e102 M82 ⟨x83, rfl, rfl, hP⟩
              refine im_bkS ?_
              refine im_st1 (q := 164) (i := 4) (L' := [some (.ref 931), some (vI p1), some (vI (M b3 5)), some (vI (M 14 (M b3 5))), some (vI x83), some (vI x79), none]) D111_162 (Or.inr rfl) (Nat.le_of_ble_eq_true rfl) rfl ?_
              refine im_ld (q := 166) (i := 4) D111_164 rfl rfl rfl ?_
              obtain ⟨hg84, hP⟩ := hP
              obtain ⟨hP, hJ93⟩ := hP
              have kJ94 : (((¬ x83 = 0)) ∨ ((x83 = 0) ∧ (¬ (M 14 (M b3 5)) = 1)) ∨ ((x83 = 0) ∧ ((M 14 (M b3 5)) = 1) ∧ ((M82 934 0) ≤ 0))) → im_T g d 111 226 [some (.ref 931), some (vI p1), none, none, some (vI x83), none, none] [] e M82 K := by
                intro  hx95
                have hP := hJ93  hx95
                refine im_ld (q := 228) (i := 4) D111_226 rfl rfl rfl ?_
                refine im_ifc (q := 231) (t := 234) D111_228 rfl hg84 (fun hc96 => ?_) (fun hc96 => ?_)
                · replace hP := hP.1 hc96
                  refine im_iinc (q := 237) (i := 1) (L' := [some (.ref 931), some (vI (p1 + 1)), none, none, some (vI x83), none, none]) D111_234 rfl (Nat.le_of_ble_eq_true rfl) rfl ?_
                  refine im_goto (q := 240) (t := 2) D111_237 rfl ?_
                  exact hP.wk ⟨rfl, rfl, trivial⟩
                · replace hP := hP.2 hc96
                  refine im_ld (q := 233) (i := 4) D111_231 rfl rfl rfl ?_
                  exact im_iret (q := 234) D111_233 rfl hP
              refine im_ifc (q := 169) (t := 226) D111_166 rfl hg84 (fun hc85 => ?_) (fun hc85 => ?_)
              · exact (kJ94  (Or.inl hc85)).wk ⟨rfl, rfl, rfl, trivial⟩
              · replace hP := hP (Decidable.not_not.mp hc85)
                refine im_ld (q := 170) (i := 3) D111_169 rfl rfl rfl ?_
                refine im_iconst (q := 171) D111_170 ?_
                refine im_icmp (q := 174) (t := 226) D111_171 rfl hr8 (by decide) (fun hc86 => ?_) (fun hc86 => ?_)
                · exact (kJ94  (Or.inr (Or.inl ⟨(Decidable.not_not.mp hc85), hc86⟩))).wk ⟨rfl, rfl, rfl, trivial⟩
                · replace hP := hP (Decidable.not_not.mp hc86)
                  refine im_ld (q := 175) (i := 0) D111_174 rfl rfl rfl ?_
                  refine im_gfR (q := 178) (b := 934) D111_175 (im_fl cn_111 fl_2_22) sf_931 rfl rfl tR_2_3 rfl ?_
                  refine im_rng (j := 0) sf_934 (by decide) (by decide) (fun hr87 => ?_)
                  refine im_gfI (q := 181) D111_178 (im_fl cn_111 fl_2_108) sf_934 rfl rfl tI_3_0 rfl ?_
                  refine im_ifc (q := 184) (t := 226) D111_181 rfl hr87 (fun hc88 => ?_) (fun hc88 => ?_)
                  · exact (kJ94  (Or.inr (Or.inr ⟨(Decidable.not_not.mp hc85), (Decidable.not_not.mp hc86), hc88⟩))).wk ⟨rfl, rfl, rfl, trivial⟩
                  · replace hP := hP (Int.not_le.mp hc88)
                    refine im_ld (q := 185) (i := 0) D111_184 rfl rfl rfl ?_
                    refine im_ld (q := 186) (i := 0) D111_185 rfl rfl rfl ?_
                    refine im_gfR (q := 189) (b := 13) D111_186 (im_fl cn_111 fl_2_55) sf_931 rfl rfl tR_2_0 rfl ?_
                    refine im_gfR (q := 192) (b := 18) D111_189 (im_fl cn_111 fl_2_134) sf_13 rfl rfl tR_5_4 rfl ?_
                    refine im_ld (q := 193) (i := 2) D111_192 rfl rfl rfl ?_
                    refine im_rng (j := (M b3 5)) sf_18 hg7.1 hg7.2 (fun hr89 => ?_)
                    refine im_iald (q := 194) D111_193 sf_18 hg7.1 hg7.2 (by decide) rfl ?_
                    refine im_ld (q := 195) (i := 0) D111_194 rfl rfl rfl ?_
                    refine im_gfR (q := 198) (b := 13) D111_195 (im_fl cn_111 fl_2_55) sf_931 rfl rfl tR_2_0 rfl ?_
                    refine im_gfR (q := 201) (b := 19) D111_198 (im_fl cn_111 fl_2_68) sf_13 rfl rfl tR_5_5 rfl ?_
                    refine im_ld (q := 202) (i := 2) D111_201 rfl rfl rfl ?_
                    refine im_rng (j := (M b3 5)) sf_19 hg7.1 hg7.2 (fun hr90 => ?_)
                    refine im_lald (q := 203) D111_202 sf_19 hg7.1 hg7.2 (by decide) rfl ?_
                    refine im_ld (q := 204) (i := 0) D111_203 rfl rfl rfl ?_
                    refine im_gfR (q := 207) (b := 13) D111_204 (im_fl cn_111 fl_2_55) sf_931 rfl rfl tR_2_0 rfl ?_
                    refine im_gfR (q := 210) (b := 20) D111_207 (im_fl cn_111 fl_2_63) sf_13 rfl rfl tR_5_6 rfl ?_
                    refine im_ld (q := 211) (i := 2) D111_210 rfl rfl rfl ?_
                    refine im_rng (j := (M b3 5)) sf_20 hg7.1 hg7.2 (fun hr91 => ?_)
                    refine im_lald (q := 212) D111_211 sf_20 hg7.1 hg7.2 (by decide) rfl ?_
                    refine im_ld (q := 213) (i := 0) D111_212 rfl rfl rfl ?_
                    refine im_gfR (q := 216) (b := 13) D111_213 (im_fl cn_111 fl_2_55) sf_931 rfl rfl tR_2_0 rfl ?_
                    refine im_gfR (q := 219) (b := 21) D111_216 (im_fl cn_111 fl_2_218) sf_13 rfl rfl tR_5_7 rfl ?_
                    refine im_ld (q := 220) (i := 2) D111_219 rfl rfl rfl ?_
                    refine im_rng (j := (M b3 5)) sf_21 hg7.1 hg7.2 (fun hr92 => ?_)
                    refine im_lald (q := 221) D111_220 sf_21 hg7.1 hg7.2 (by decide) rfl ?_
                    refine im_callV (q := 224) (kd := 1) (y := 117) (n := 4) (ci := 2) (a := 931) (vs := [.ref 931, vI (M82 18 (M b3 5)), vL (M82 19 (M b3 5)), vL (M82 20 (M b3 5)), vL (M82 21 (M b3 5))]) (r := []) (L2 := [some (.ref 931), some (vI (M82 18 (M b3 5))), some (vL (M82 19 (M b3 5))), none, some (vL (M82 20 (M b3 5))), none, some (vL (M82 21 (M b3 5))), none]) D111_221 (im_cal cn_111 cl_2_210) (Or.inl rfl) rfl sf_931 rfl rfl rfl rfl hd ⟨rfl, rfl, rfl, rfl, rfl, trivial⟩ ?_
                    refine hP.mono ?_
                    rintro _ e101 M97 ⟨x98, rfl, rfl, hP⟩
                    refine im_bkS ?_
                    refine im_st1 (q := 226) (i := 4) (L' := [some (.ref 931), some (vI p1), some (vI (M b3 5)), some (vI (M 14 (M b3 5))), some (vI x98), some (vI x79), none]) D111_224 (Or.inr rfl) (Nat.le_of_ble_eq_true rfl) rfl ?_
                    refine im_ld (q := 228) (i := 4) D111_226 rfl rfl rfl ?_
                    obtain ⟨hg99, hP⟩ := hP
                    refine im_ifc (q := 231) (t := 234) D111_228 rfl hg99 (fun hc100 => ?_) (fun hc100 => ?_)
                    · replace hP := hP.1 hc100
                      refine im_iinc (q := 237) (i := 1) (L' := [some (.ref 931), some (vI (p1 + 1)), some (vI (M b3 5)), some (vI (M 14 (M b3 5))), some (vI x98), some (vI x79), none]) D111_234 rfl (Nat.le_of_ble_eq_true rfl) rfl ?_
                      refine im_goto (q := 240) (t := 2) D111_237 rfl ?_
                      exact hP.wk ⟨rfl, rfl, trivial⟩
                    · replace hP := hP.2 hc100
                      refine im_ld (q := 233) (i := 4) D111_231 rfl rfl rfl ?_
                      exact im_iret (q := 234) D111_233 rfl hP
            · replace hP := hP.2 hc81
              refine im_bipush (q := 151) D111_149 rfl ?_
              refine im_goto (q := 154) (t := 162) D111_151 rfl ?_
              refine im_st1 (q := 164) (i := 4) (L' := [some (.ref 931), some (vI p1), some (vI (M b3 5)), some (vI (M 14 (M b3 5))), some (vI (-8)), some (vI x79), none]) D111_162 (Or.inr rfl) (Nat.le_of_ble_eq_true rfl) rfl ?_
              refine im_ld (q := 166) (i := 4) D111_164 rfl rfl rfl ?_
              refine im_ifc (q := 169) (t := 226) D111_166 rfl (by decide) (fun _ => ?_) (fun hc => absurd (show ¬ ((-8) : Int) = 0 by decide) hc)
              refine im_ld (q := 228) (i := 4) D111_226 rfl rfl rfl ?_
              refine im_ifc (q := 231) (t := 234) D111_228 rfl (by decide) (fun hc => absurd hc (show ¬ (((-8) : Int) = 0) by decide)) (fun _ => ?_)
              refine im_ld (q := 233) (i := 4) D111_231 rfl rfl rfl ?_
              exact im_iret (q := 234) D111_233 rfl hP
          · replace hP := hP.2 (Decidable.not_not.mp hc77)
            refine im_ld (q := 69) (i := 0) D111_68 rfl rfl rfl ?_
            obtain ⟨b106, hb107, hP⟩ := hP
            obtain ⟨hb108, hP⟩ := hP
            refine im_gfD (q := 72) D111_69 (im_fl cn_111 fl_2_31) sf_931 rfl rfl tR_2_4 rfl hb107 ?_
            refine im_gfR (q := 75) (b := (b106 + 1)) D111_72 (im_fl cn_111 fl_2_145) hb108.1 rfl rfl tR_9_0 rfl ?_
            refine im_gfR (q := 78) (b := ((b106 + 1) + 3)) D111_75 (im_fl cn_111 fl_2_207) hb108.2.1.1 rfl rfl tR_0_0 rfl ?_
            refine im_iconst (q := 79) D111_78 ?_
            refine im_rng (j := 0) hb108.2.1.2.1 (by decide) (by decide) (fun hr109 => ?_)
            refine im_lald (q := 80) D111_79 hb108.2.1.2.1 (by decide) (by decide) (by decide) rfl ?_
            refine im_st2 (q := 82) (i := 5) (L' := [some (.ref 931), some (vI p1), some (vI (M b3 5)), some (vI (M 14 (M b3 5))), none, some (vL (M ((b106 + 1) + 3) 0)), none]) D111_80 (Or.inr rfl) (Nat.le_of_ble_eq_true rfl) rfl ?_
            refine im_ld (q := 83) (i := 0) D111_82 rfl rfl rfl ?_
            refine im_gfR (q := 86) (b := 934) D111_83 (im_fl cn_111 fl_2_22) sf_931 rfl rfl tR_2_3 rfl ?_
            refine im_ld (q := 87) (i := 0) D111_86 rfl rfl rfl ?_
            obtain ⟨b110, hb111, hP⟩ := hP
            obtain ⟨hb112, hP⟩ := hP
            refine im_gfD (q := 90) D111_87 (im_fl cn_111 fl_2_31) sf_931 rfl rfl tR_2_4 rfl hb111 ?_
            refine im_gfR (q := 93) (b := (b110 + 1)) D111_90 (im_fl cn_111 fl_2_145) hb112.1 rfl rfl tR_9_0 rfl ?_
            refine im_gfR (q := 96) (b := ((b110 + 1) + 5)) D111_93 (im_fl cn_111 fl_2_208) hb112.2.1.1 rfl rfl tR_0_2 rfl ?_
            refine im_iconst (q := 97) D111_96 ?_
            obtain ⟨b113, hb114, hP⟩ := hP
            obtain ⟨hb115, hP⟩ := hP
            refine im_aald (q := 98) D111_97 hb112.2.1.2.2.2.1 (Or.inl rfl) (by decide) (by decide) (by decide) hb114 ?_
            refine im_callV (q := 101) (kd := 1) (y := 66) (n := 1) (ci := 3) (a := 934) (vs := [.ref 934, .ref b113]) (r := []) (L2 := [some (.ref 934), some (.ref b113), none]) D111_98 (im_cal cn_111 cl_2_141) (Or.inl rfl) rfl sf_934 rfl rfl rfl rfl hd ⟨rfl, rfl, trivial⟩ ?_
            refine hP.mono ?_
            rintro _ e126 M116 ⟨rfl, rfl, hP⟩
            refine im_bkN ?_
            refine im_ld (q := 102) (i := 0) D111_101 rfl rfl rfl ?_
            refine im_iconst (q := 103) D111_102 ?_
            refine im_pfZ (q := 106) D111_103 (im_fl cn_111 fl_2_180) sf_931 rfl rfl tz_2_13 (by decide) ?_
            refine im_ld (q := 107) (i := 0) D111_106 rfl rfl rfl ?_
            refine im_iconst (q := 108) D111_107 ?_
            refine im_ld (q := 110) (i := 5) D111_108 rfl rfl rfl ?_
            refine im_ld (q := 112) (i := 5) D111_110 rfl rfl rfl ?_
            refine im_ld (q := 113) (i := 0) D111_112 rfl rfl rfl ?_
            obtain ⟨b117, hb118, hP⟩ := hP
            obtain ⟨hb119, hP⟩ := hP
            refine im_gfD (q := 116) D111_113 (im_fl cn_111 fl_2_31) sf_931 rfl rfl tR_2_4 rfl (((im_rdk _ _ _ (by decide))).trans hb118) ?_
            refine im_gfR (q := 119) (b := (b117 + 1)) D111_116 (im_fl cn_111 fl_2_145) hb119.1 rfl rfl tR_9_0 rfl ?_
            refine im_gfR (q := 122) (b := ((b117 + 1) + 4)) D111_119 (im_fl cn_111 fl_2_209) hb119.2.1.1 rfl rfl tR_0_1 rfl ?_
            refine im_iconst (q := 123) D111_122 ?_
            refine im_rng (j := 0) hb119.2.1.2.2.1 (by decide) (by decide) (fun hr120 => ?_)
            refine im_lald (q := 124) D111_123 hb119.2.1.2.2.1 (by decide) (by decide) (by decide) rfl ?_
            refine im_callV (q := 127) (kd := 1) (y := 117) (n := 4) (ci := 2) (a := 931) (vs := [.ref 931, vI 0, vL (M ((b106 + 1) + 3) 0), vL (M ((b106 + 1) + 3) 0), vL ((im_u M116 931 13 1) ((b117 + 1) + 4) 0)]) (r := []) (L2 := [some (.ref 931), some (vI 0), some (vL (M ((b106 + 1) + 3) 0)), none, some (vL (M ((b106 + 1) + 3) 0)), none, some (vL ((im_u M116 931 13 1) ((b117 + 1) + 4) 0)), none]) D111_124 (im_cal cn_111 cl_2_210) (Or.inl rfl) rfl sf_931 rfl rfl rfl rfl hd ⟨rfl, rfl, rfl, rfl, rfl, trivial⟩ ?_
            refine hP.mono ?_
            rintro _ e125 M121 ⟨x122, rfl, rfl, hP⟩
            refine im_bkS ?_
            refine im_st1 (q := 129) (i := 4) (L' := [some (.ref 931), some (vI p1), some (vI (M b3 5)), some (vI (M 14 (M b3 5))), some (vI x122), some (vL (M ((b106 + 1) + 3) 0)), none]) D111_127 (Or.inr rfl) (Nat.le_of_ble_eq_true rfl) rfl ?_
            refine im_goto (q := 132) (t := 226) D111_129 rfl ?_
            refine im_ld (q := 228) (i := 4) D111_226 rfl rfl rfl ?_
            obtain ⟨hg123, hP⟩ := hP
            refine im_ifc (q := 231) (t := 234) D111_228 rfl hg123 (fun hc124 => ?_) (fun hc124 => ?_)
            · replace hP := hP.1 hc124
              refine im_iinc (q := 237) (i := 1) (L' := [some (.ref 931), some (vI (p1 + 1)), some (vI (M b3 5)), some (vI (M 14 (M b3 5))), some (vI x122), some (vL (M ((b106 + 1) + 3) 0)), none]) D111_234 rfl (Nat.le_of_ble_eq_true rfl) rfl ?_
              refine im_goto (q := 240) (t := 2) D111_237 rfl ?_
              exact hP.wk ⟨rfl, rfl, trivial⟩
            · replace hP := hP.2 hc124
              refine im_ld (q := 233) (i := 4) D111_231 rfl rfl rfl ?_
              exact im_iret (q := 234) D111_233 rfl hP
        · replace hP := hP.2 (Decidable.not_not.mp hc76)
          refine im_ld (q := 55) (i := 0) D111_54 rfl rfl rfl ?_
          refine im_ld (q := 56) (i := 2) D111_55 rfl rfl rfl ?_
          refine im_callV (q := 59) (kd := 1) (y := 114) (n := 1) (ci := 2) (a := 931) (vs := [.ref 931, vI (M b3 5)]) (r := []) (L2 := [some (.ref 931), some (vI (M b3 5))]) D111_56 (im_cal cn_111 cl_2_203) (Or.inl rfl) rfl sf_931 rfl rfl rfl rfl hd ⟨rfl, rfl, trivial⟩ ?_
          refine hP.mono ?_
          rintro _ e131 M127 ⟨x128, rfl, rfl, hP⟩
          refine im_bkS ?_
          refine im_st1 (q := 61) (i := 4) (L' := [some (.ref 931), some (vI p1), some (vI (M b3 5)), some (vI (M 14 (M b3 5))), some (vI x128), none, none]) D111_59 (Or.inr rfl) (Nat.le_of_ble_eq_true rfl) rfl ?_
          refine im_goto (q := 64) (t := 226) D111_61 rfl ?_
          refine im_ld (q := 228) (i := 4) D111_226 rfl rfl rfl ?_
          obtain ⟨hg129, hP⟩ := hP
          refine im_ifc (q := 231) (t := 234) D111_228 rfl hg129 (fun hc130 => ?_) (fun hc130 => ?_)
          · replace hP := hP.1 hc130
            refine im_iinc (q := 237) (i := 1) (L' := [some (.ref 931), some (vI (p1 + 1)), some (vI (M b3 5)), some (vI (M 14 (M b3 5))), some (vI x128), none, none]) D111_234 rfl (Nat.le_of_ble_eq_true rfl) rfl ?_
            refine im_goto (q := 240) (t := 2) D111_237 rfl ?_
            exact hP.wk ⟨rfl, rfl, trivial⟩
          · replace hP := hP.2 hc130
            refine im_ld (q := 233) (i := 4) D111_231 rfl rfl rfl ?_
            exact im_iret (q := 234) D111_233 rfl hP
      · exact (kJ12  (Or.inr ⟨hc9, (Decidable.not_not.mp hc10)⟩)).wk ⟨rfl, rfl, rfl, rfl, trivial⟩
set_option maxRecDepth 20000 in
set_option maxHeartbeats 4000000 in
theorem k_Machine_isQuietAt_0 {g : im_g} {d : Nat} {e : im_E} {M : im_M} {K : im_K} {p1 : Int} (hd : 1 ≤ d) (hP : ∃ b1 : Nat, ((M 931 4) = (b1 : Int)) ∧ (im_state e b1) ∧ (0 ≤ (M b1 5) ∧ (M b1 5) < 5000) ∧ ((¬ (M 14 (M b1 5)) = 0 → ((¬ (M 14 (M b1 5)) = 3 → K (.inl (some (vI 0))) e M) ∧ ((M 14 (M b1 5)) = 3 → ∃ b9 : Nat, ((M 931 4) = (b9 : Int)) ∧ (im_state e b9) ∧ im_T g (d - 1) 113 0 [some (.ref 931), some (vI (M b9 5)), none, none] [] e M (im_rl (fun x14 e_ M13 => e = e_ ∧ (im_i64 p1) ∧ (im_i64 x14) ∧ ((x14 ≤ p1 → K (.inl (some (vI 0))) e M13) ∧ (p1 < x14 → K (.inl (some (vI 1))) e M13))))))) ∧ ((M 14 (M b1 5)) = 0 → ∃ b19 : Nat, ((M 931 4) = (b19 : Int)) ∧ (im_state e b19) ∧ ((∀ x24 : Int, (((¬ (M (b19 + 1) 4) = 0) ∧ x24 = 0) ∨ (((M (b19 + 1) 4) = 0) ∧ x24 = 1)) → K (.inl (some (vI x24))) e M))))) : im_T g d 112 0 [some (.ref 931), some (vL p1), none, none] [] e M K := by
  refine im_ld (q := 1) (i := 0) D112_0 rfl rfl rfl ?_
  refine im_gfR (q := 4) (b := 13) D112_1 (im_fl cn_112 fl_2_55) sf_931 rfl rfl tR_2_0 rfl ?_
  refine im_gfR (q := 7) (b := 14) D112_4 (im_fl cn_112 fl_2_89) sf_13 rfl rfl tR_5_0 rfl ?_
  refine im_ld (q := 8) (i := 0) D112_7 rfl rfl rfl ?_
  obtain ⟨b1, hb2, hP⟩ := hP
  obtain ⟨hb3, hP⟩ := hP
  refine im_gfD (q := 11) D112_8 (im_fl cn_112 fl_2_31) sf_931 rfl rfl tR_2_4 rfl hb2 ?_
  refine im_rng (j := 5) hb3.1 (by decide) (show (5 : Int) < ((7 : Nat) : Int) by decide) (fun hr4 => ?_)
  refine im_gfI (q := 14) D112_11 (im_fl cn_112 fl_2_183) hb3.1 rfl rfl tI_9_5 rfl ?_
  obtain ⟨hg5, hP⟩ := hP
  refine im_rng (j := (M b1 5)) sf_14 hg5.1 hg5.2 (fun hr6 => ?_)
  refine im_iald (q := 15) D112_14 sf_14 hg5.1 hg5.2 (by decide) rfl ?_
  refine im_st1 (q := 16) (i := 3) (L' := [some (.ref 931), some (vL p1), none, some (vI (M 14 (M b1 5)))]) D112_15 (Or.inl ⟨_, rfl, rfl⟩) (Nat.le_of_ble_eq_true rfl) rfl ?_
  refine im_ld (q := 17) (i := 3) D112_16 rfl rfl rfl ?_
  refine im_ifc (q := 20) (t := 39) D112_17 rfl hr6 (fun hc7 => ?_) (fun hc7 => ?_)
  · replace hP := hP.1 hc7
    refine im_ld (q := 40) (i := 3) D112_39 rfl rfl rfl ?_
    refine im_iconst (q := 41) D112_40 ?_
    refine im_icmp (q := 44) (t := 64) D112_41 rfl hr6 (by decide) (fun hc8 => ?_) (fun hc8 => ?_)
    · replace hP := hP.1 hc8
      refine im_iconst (q := 65) D112_64 ?_
      exact im_zret (q := 66) D112_65 rfl (by decide) hP
    · replace hP := hP.2 (Decidable.not_not.mp hc8)
      refine im_ld (q := 45) (i := 1) D112_44 rfl rfl rfl ?_
      refine im_ld (q := 46) (i := 0) D112_45 rfl rfl rfl ?_
      refine im_ld (q := 47) (i := 0) D112_46 rfl rfl rfl ?_
      obtain ⟨b9, hb10, hP⟩ := hP
      obtain ⟨hb11, hP⟩ := hP
      refine im_gfD (q := 50) D112_47 (im_fl cn_112 fl_2_31) sf_931 rfl rfl tR_2_4 rfl hb10 ?_
      refine im_rng (j := 5) hb11.1 (by decide) (show (5 : Int) < ((7 : Nat) : Int) by decide) (fun hr12 => ?_)
      refine im_gfI (q := 53) D112_50 (im_fl cn_112 fl_2_183) hb11.1 rfl rfl tI_9_5 rfl ?_
      refine im_callV (q := 56) (kd := 1) (y := 113) (n := 1) (ci := 2) (a := 931) (vs := [.ref 931, vI (M b9 5)]) (r := [vL p1]) (L2 := [some (.ref 931), some (vI (M b9 5)), none, none]) D112_53 (im_cal cn_112 cl_2_195) (Or.inl rfl) rfl sf_931 rfl rfl rfl rfl hd ⟨rfl, rfl, trivial⟩ ?_
      refine hP.mono ?_
      rintro _ e18 M13 ⟨x14, rfl, rfl, hP⟩
      refine im_bkS ?_
      obtain ⟨hg15, hP⟩ := hP
      obtain ⟨hg16, hP⟩ := hP
      refine im_lif (q := 57) (q2 := 60) (t := 64) D112_56 D112_57 rfl hg15 hg16 (fun hc17 => ?_) (fun hc17 => ?_)
      · replace hP := hP.1 hc17
        refine im_iconst (q := 65) D112_64 ?_
        exact im_zret (q := 66) D112_65 rfl (by decide) hP
      · replace hP := hP.2 (Int.not_le.mp hc17)
        refine im_iconst (q := 61) D112_60 ?_
        refine im_goto (q := 64) (t := 65) D112_61 rfl ?_
        exact im_zret (q := 66) D112_65 rfl (by decide) hP
  · replace hP := hP.2 (Decidable.not_not.mp hc7)
    refine im_ld (q := 21) (i := 0) D112_20 rfl rfl rfl ?_
    obtain ⟨b19, hb20, hP⟩ := hP
    obtain ⟨hb21, hP⟩ := hP
    refine im_gfD (q := 24) D112_21 (im_fl cn_112 fl_2_31) sf_931 rfl rfl tR_2_4 rfl hb20 ?_
    refine im_gfR (q := 27) (b := (b19 + 1)) D112_24 (im_fl cn_112 fl_2_145) hb21.1 rfl rfl tR_9_0 rfl ?_
    refine im_rng (j := 4) hb21.2.1.1 (by decide) (show (4 : Int) < ((5 : Nat) : Int) by decide) (fun hr22 => ?_)
    refine im_gfI (q := 30) D112_27 (im_fl cn_112 fl_2_194) hb21.2.1.1 rfl rfl tI_0_4 rfl ?_
    have hJ25 := hP
    have kJ26 : ∀ x24 : Int, (((¬ (M (b19 + 1) 4) = 0) ∧ x24 = 0) ∨ (((M (b19 + 1) 4) = 0) ∧ x24 = 1)) → im_T g d 112 38 [none, none, none, none] [vI x24] e M K := by
      intro x24 hx27
      have hP := hJ25 x24 hx27
      exact im_zret (q := 39) D112_38 rfl (by clear hP; omega) hP
    refine im_ifc (q := 33) (t := 37) D112_30 rfl hr22 (fun hc23 => ?_) (fun hc23 => ?_)
    · refine im_iconst (q := 38) D112_37 ?_
      exact (kJ26 (0) (Or.inl ⟨hc23, rfl⟩)).wk trivial
    · refine im_iconst (q := 34) D112_33 ?_
      refine im_goto (q := 37) (t := 38) D112_34 rfl ?_
      exact (kJ26 (1) (Or.inr ⟨(Decidable.not_not.mp hc23), rfl⟩)).wk trivial
set_option maxRecDepth 20000 in
set_option maxHeartbeats 4000000 in
theorem k_Machine_timeOf_0 {g : im_g} {d : Nat} {e : im_E} {M : im_M} {K : im_K} {p1 : Int} (hd : 1 ≤ d) (hP : (0 ≤ p1 ∧ p1 < 5000) ∧ ((¬ (M 20 p1) = 0 → ∃ b5 : Nat, ((M 931 5) = (b5 : Int)) ∧ ∃ n8 : Nat, (im_book e b5 n8) ∧ im_T g (d - 1) 89 0 [some (.ref b5), some (vL (M 20 p1)), none, some (vL 0), none, none] [] e M (im_rr (fun a10 e_ M9 => e = e_ ∧ im_num e a10 ∧ im_T g (d - 1) 64 0 [some (.ref a10), none, none, none] [] e M9 (im_rl (fun x13 e_ M12 => e = e_ ∧ K (.inl (some (vL x13))) e M12))))) ∧ ((M 20 p1) = 0 → K (.inl (some (vL (M 19 p1)))) e M))) : im_T g d 113 0 [some (.ref 931), some (vI p1), none, none] [] e M K := by
  refine im_ld (q := 1) (i := 0) D113_0 rfl rfl rfl ?_
  refine im_gfR (q := 4) (b := 13) D113_1 (im_fl cn_113 fl_2_55) sf_931 rfl rfl tR_2_0 rfl ?_
  refine im_gfR (q := 7) (b := 20) D113_4 (im_fl cn_113 fl_2_63) sf_13 rfl rfl tR_5_6 rfl ?_
  refine im_ld (q := 8) (i := 1) D113_7 rfl rfl rfl ?_
  obtain ⟨hg1, hP⟩ := hP
  refine im_rng (j := p1) sf_20 hg1.1 hg1.2 (fun hr2 => ?_)
  refine im_lald (q := 9) D113_8 sf_20 hg1.1 hg1.2 (by decide) rfl ?_
  refine im_st2 (q := 10) (i := 2) (L' := [some (.ref 931), some (vI p1), some (vL (M 20 p1)), none]) D113_9 (Or.inl ⟨_, rfl, rfl⟩) (Nat.le_of_ble_eq_true rfl) rfl ?_
  refine im_ld (q := 11) (i := 2) D113_10 rfl rfl rfl ?_
  refine im_lconst (q := 12) (z := 0) D113_11 rfl ?_
  refine im_lif (q := 13) (q2 := 16) (t := 28) D113_12 D113_13 rfl hr2 (by decide) (fun hc3 => ?_) (fun hc3 => ?_)
  · replace hP := hP.1 hc3
    refine im_ld (q := 29) (i := 0) D113_28 rfl rfl rfl ?_
    obtain ⟨b5, hb6, hP⟩ := hP
    obtain ⟨n8, hb7, hP⟩ := hP
    refine im_gfD (q := 32) D113_29 (im_fl cn_113 fl_2_38) sf_931 rfl rfl tR_2_5 rfl hb6 ?_
    refine im_ld (q := 33) (i := 2) D113_32 rfl rfl rfl ?_
    refine im_lconst (q := 34) (z := 0) D113_33 rfl ?_
    refine im_callV (q := 37) (kd := 1) (y := 89) (n := 2) (ci := 0) (a := b5) (vs := [.ref b5, vL (M 20 p1), vL 0]) (r := []) (L2 := [some (.ref b5), some (vL (M 20 p1)), none, some (vL 0), none, none]) D113_34 (im_cal cn_113 cl_2_71) (Or.inl rfl) rfl hb7.1 rfl rfl rfl rfl hd ⟨rfl, rfl, rfl, trivial⟩ ?_
    refine hP.mono ?_
    rintro _ e15 M9 ⟨a10, rfl, rfl, hP⟩
    refine im_bkS ?_
    obtain ⟨hb11, hP⟩ := hP
    refine im_callV (q := 40) (kd := 1) (y := 64) (n := 0) (ci := 3) (a := a10) (vs := [.ref a10]) (r := []) (L2 := [some (.ref a10), none, none, none]) D113_37 (im_cal cn_113 cl_2_75) (Or.inl rfl) rfl hb11.1 rfl rfl rfl rfl hd ⟨rfl, trivial⟩ ?_
    refine hP.mono ?_
    rintro _ e14 M12 ⟨x13, rfl, rfl, hP⟩
    refine im_bkS ?_
    exact im_lret (q := 41) D113_40 rfl hP
  · replace hP := hP.2 (Decidable.not_not.mp hc3)
    refine im_ld (q := 17) (i := 0) D113_16 rfl rfl rfl ?_
    refine im_gfR (q := 20) (b := 13) D113_17 (im_fl cn_113 fl_2_55) sf_931 rfl rfl tR_2_0 rfl ?_
    refine im_gfR (q := 23) (b := 19) D113_20 (im_fl cn_113 fl_2_68) sf_13 rfl rfl tR_5_5 rfl ?_
    refine im_ld (q := 24) (i := 1) D113_23 rfl rfl rfl ?_
    refine im_rng (j := p1) sf_19 hg1.1 hg1.2 (fun hr4 => ?_)
    refine im_lald (q := 25) D113_24 sf_19 hg1.1 hg1.2 (by decide) rfl ?_
    refine im_goto (q := 28) (t := 40) D113_25 rfl ?_
    exact im_lret (q := 41) D113_40 rfl hP
set_option maxRecDepth 20000 in
set_option maxHeartbeats 4000000 in
theorem k_Machine_passWhen_0 {g : im_g} {d : Nat} {e : im_E} {M : im_M} {K : im_K} {p1 : Int} (hd : 1 ≤ d) (hP : im_T g (d - 1) 113 0 [some (.ref 931), some (vI p1), none, none] [] e M (im_rl (fun x3 e_ M2 => e = e_ ∧ (im_i64 x3) ∧ ((x3 ≤ (M 931 10) → ∃ b6 : Nat, ((M2 931 4) = (b6 : Int)) ∧ (im_state e b6) ∧ im_T g (d - 1) 115 0 [some (.ref 13), some (vI p1), none, none] [] e M2 (im_ri (fun x10 e_ M9 => e = e_ ∧ (im_i32 x10) ∧ K (.inl (some (vI 0))) e (im_u M9 b6 5 x10)))) ∧ ((M 931 10) < x3 → K (.inl (some (vI (-4)))) e M2))))) : im_T g d 114 0 [some (.ref 931), some (vI p1)] [] e M K := by
  refine im_ld (q := 1) (i := 0) D114_0 rfl rfl rfl ?_
  refine im_rng (j := 10) sf_931 (by decide) (by decide) (fun hr1 => ?_)
  refine im_gfL (q := 4) D114_1 (im_fl cn_114 fl_2_79) sf_931 rfl rfl tL_2_10 rfl ?_
  refine im_ld (q := 5) (i := 0) D114_4 rfl rfl rfl ?_
  refine im_ld (q := 6) (i := 1) D114_5 rfl rfl rfl ?_
  refine im_callV (q := 9) (kd := 1) (y := 113) (n := 1) (ci := 2) (a := 931) (vs := [.ref 931, vI p1]) (r := [vL (M 931 10)]) (L2 := [some (.ref 931), some (vI p1), none, none]) D114_6 (im_cal cn_114 cl_2_195) (Or.inl rfl) rfl sf_931 rfl rfl rfl rfl hd ⟨rfl, rfl, trivial⟩ ?_
  refine hP.mono ?_
  rintro _ e13 M2 ⟨x3, rfl, rfl, hP⟩
  refine im_bkS ?_
  obtain ⟨hg4, hP⟩ := hP
  refine im_lif (q := 10) (q2 := 13) (t := 16) D114_9 D114_10 rfl hr1 hg4 (fun hc5 => ?_) (fun hc5 => ?_)
  · replace hP := hP.1 hc5
    refine im_ld (q := 17) (i := 0) D114_16 rfl rfl rfl ?_
    obtain ⟨b6, hb7, hP⟩ := hP
    obtain ⟨hb8, hP⟩ := hP
    refine im_gfD (q := 20) D114_17 (im_fl cn_114 fl_2_31) sf_931 rfl rfl tR_2_4 rfl hb7 ?_
    refine im_ld (q := 21) (i := 0) D114_20 rfl rfl rfl ?_
    refine im_gfR (q := 24) (b := 13) D114_21 (im_fl cn_114 fl_2_55) sf_931 rfl rfl tR_2_0 rfl ?_
    refine im_ld (q := 25) (i := 1) D114_24 rfl rfl rfl ?_
    refine im_callV (q := 28) (kd := 1) (y := 115) (n := 1) (ci := 5) (a := 13) (vs := [.ref 13, vI p1]) (r := [.ref b6]) (L2 := [some (.ref 13), some (vI p1), none, none]) D114_25 (im_cal cn_114 cl_2_221) (Or.inl rfl) rfl sf_13 rfl rfl rfl rfl hd ⟨rfl, rfl, trivial⟩ ?_
    refine hP.mono ?_
    rintro _ e12 M9 ⟨x10, rfl, rfl, hP⟩
    refine im_bkS ?_
    obtain ⟨hg11, hP⟩ := hP
    refine im_pfI (q := 31) D114_28 (im_fl cn_114 fl_2_183) hb8.1 rfl rfl ti_9_5 hg11 ?_
    refine im_iconst (q := 32) D114_31 ?_
    exact im_iret (q := 33) D114_32 rfl hP
  · replace hP := hP.2 (Int.not_le.mp hc5)
    refine im_bipush (q := 15) D114_13 rfl ?_
    exact im_iret (q := 16) D114_15 rfl hP
set_option maxRecDepth 20000 in
set_option maxHeartbeats 4000000 in
theorem k_Pool_behindCases_0 {g : im_g} {d : Nat} {e : im_E} {M : im_M} {K : im_K} {p1 : Int} (hP : im_T g d 115 6 [some (.ref 13), none, some (vI (p1 + 1)), some (vI 0)] [] e M K) : im_T g d 115 0 [some (.ref 13), some (vI p1), none, none] [] e M K := by
  refine im_ld (q := 1) (i := 1) D115_0 rfl rfl rfl ?_
  refine im_iconst (q := 2) D115_1 ?_
  refine im_iadd (q := 3) D115_2 ?_
  refine im_st1 (q := 4) (i := 2) (L' := [some (.ref 13), some (vI p1), some (vI (p1 + 1)), none]) D115_3 (Or.inl ⟨_, rfl, rfl⟩) (Nat.le_of_ble_eq_true rfl) rfl ?_
  refine im_iconst (q := 5) D115_4 ?_
  refine im_st1 (q := 6) (i := 3) (L' := [some (.ref 13), some (vI p1), some (vI (p1 + 1)), some (vI 0)]) D115_5 (Or.inl ⟨_, rfl, rfl⟩) (Nat.le_of_ble_eq_true rfl) rfl ?_
  exact hP.wk ⟨rfl, rfl, rfl, trivial⟩
set_option maxRecDepth 20000 in
set_option maxHeartbeats 4000000 in
theorem k_Pool_behindCases_6 {g : im_g} {d : Nat} {e : im_E} {M : im_M} {K : im_K} {p2 p3 : Int} (hd : 1 ≤ d) (hP : (im_i32 p3) ∧ ((8 ≤ p3 → K (.inl (some (vI p2))) e M) ∧ (p3 < 8 → im_T g (d - 1) 116 0 [some (.ref 13), some (vI p2)] [] e M (im_ri (fun x4 e_ M3 => e = e_ ∧ (im_i32 x4) ∧ ((x4 = 0 → K (.inl (some (vI p2))) e M3) ∧ (¬ x4 = 0 → (0 ≤ p2 ∧ p2 < 5000) ∧ im_T g d 115 6 [some (.ref 13), none, some (vI (M3 15 p2)), some (vI (p3 + 1))] [] e M3 K))))))) : im_T g d 115 6 [some (.ref 13), none, some (vI p2), some (vI p3)] [] e M K := by
  refine im_ld (q := 7) (i := 3) D115_6 rfl rfl rfl ?_
  refine im_bipush (q := 9) D115_7 rfl ?_
  obtain ⟨hg1, hP⟩ := hP
  refine im_icmp (q := 12) (t := 33) D115_9 rfl hg1 (by decide) (fun hc2 => ?_) (fun hc2 => ?_)
  · replace hP := hP.1 hc2
    refine im_ld (q := 34) (i := 2) D115_33 rfl rfl rfl ?_
    exact im_iret (q := 35) D115_34 rfl hP
  · replace hP := hP.2 (Int.not_le.mp hc2)
    refine im_ld (q := 13) (i := 0) D115_12 rfl rfl rfl ?_
    refine im_ld (q := 14) (i := 2) D115_13 rfl rfl rfl ?_
    refine im_callV (q := 17) (kd := 1) (y := 116) (n := 1) (ci := 5) (a := 13) (vs := [.ref 13, vI p2]) (r := []) (L2 := [some (.ref 13), some (vI p2)]) D115_14 (im_cal cn_115 cl_5_81) (Or.inl rfl) rfl sf_13 rfl rfl rfl rfl hd ⟨rfl, rfl, trivial⟩ ?_
    refine hP.mono ?_
    rintro _ e9 M3 ⟨x4, rfl, rfl, hP⟩
    refine im_bkS ?_
    obtain ⟨hg5, hP⟩ := hP
    refine im_ifc (q := 20) (t := 33) D115_17 rfl hg5 (fun hc6 => ?_) (fun hc6 => ?_)
    · replace hP := hP.1 hc6
      refine im_ld (q := 34) (i := 2) D115_33 rfl rfl rfl ?_
      exact im_iret (q := 35) D115_34 rfl hP
    · replace hP := hP.2 hc6
      refine im_ld (q := 21) (i := 0) D115_20 rfl rfl rfl ?_
      refine im_gfR (q := 24) (b := 15) D115_21 (im_fl cn_115 fl_5_15) sf_13 rfl rfl tR_5_1 rfl ?_
      refine im_ld (q := 25) (i := 2) D115_24 rfl rfl rfl ?_
      obtain ⟨hg7, hP⟩ := hP
      refine im_rng (j := p2) sf_15 hg7.1 hg7.2 (fun hr8 => ?_)
      refine im_iald (q := 26) D115_25 sf_15 hg7.1 hg7.2 (by decide) rfl ?_
      refine im_st1 (q := 27) (i := 2) (L' := [some (.ref 13), none, some (vI (M3 15 p2)), some (vI p3)]) D115_26 (Or.inl ⟨_, rfl, rfl⟩) (Nat.le_of_ble_eq_true rfl) rfl ?_
      refine im_iinc (q := 30) (i := 3) (L' := [some (.ref 13), none, some (vI (M3 15 p2)), some (vI (p3 + 1))]) D115_27 rfl (Nat.le_of_ble_eq_true rfl) rfl ?_
      refine im_goto (q := 33) (t := 6) D115_30 rfl ?_
      exact hP.wk ⟨rfl, rfl, rfl, trivial⟩
set_option maxRecDepth 20000 in
set_option maxHeartbeats 4000000 in
theorem k_Pool_isCase_0 {g : im_g} {d : Nat} {e : im_E} {M : im_M} {K : im_K} {p1 : Int} (hP : (im_i32 p1) ∧ ((((0 ≤ p1 → ((p1 < 5000 → (0 ≤ p1 ∧ p1 < 5000) ∧ ((28 ≤ (M 14 p1) → (((M 14 p1) ≤ 30 → K (.inl (some (vI 1))) e M))))))))) ∧ ((((p1 < 0)) ∨ ((0 ≤ p1) ∧ (5000 ≤ p1)) ∨ ((0 ≤ p1) ∧ (p1 < 5000) ∧ ((M 14 p1) < 28)) ∨ ((0 ≤ p1) ∧ (p1 < 5000) ∧ (28 ≤ (M 14 p1)) ∧ (30 < (M 14 p1)))) → K (.inl (some (vI 0))) e M))) : im_T g d 116 0 [some (.ref 13), some (vI p1)] [] e M K := by
  refine im_ld (q := 1) (i := 1) D116_0 rfl rfl rfl ?_
  obtain ⟨hg1, hP⟩ := hP
  obtain ⟨hP, hJ9⟩ := hP
  have kJ10 : (((p1 < 0)) ∨ ((0 ≤ p1) ∧ (5000 ≤ p1)) ∨ ((0 ≤ p1) ∧ (p1 < 5000) ∧ ((M 14 p1) < 28)) ∨ ((0 ≤ p1) ∧ (p1 < 5000) ∧ (28 ≤ (M 14 p1)) ∧ (30 < (M 14 p1)))) → im_T g d 116 39 [none, none] [] e M K := by
    intro  hx11
    have hP := hJ9  hx11
    refine im_iconst (q := 40) D116_39 ?_
    exact im_zret (q := 41) D116_40 rfl (by decide) hP
  refine im_ifc (q := 4) (t := 39) D116_1 rfl hg1 (fun hc2 => ?_) (fun hc2 => ?_)
  · exact (kJ10  (Or.inl hc2)).wk trivial
  · replace hP := hP (Int.not_lt.mp hc2)
    refine im_ld (q := 5) (i := 1) D116_4 rfl rfl rfl ?_
    refine im_ld (q := 6) (i := 0) D116_5 rfl rfl rfl ?_
    refine im_gfR (q := 9) (b := 14) D116_6 (im_fl cn_116 fl_5_9) sf_13 rfl rfl tR_5_0 rfl ?_
    refine im_alen (q := 10) D116_9 sf_14 (by decide) ?_
    refine im_icmp (q := 13) (t := 39) D116_10 rfl hg1 (by decide) (fun hc3 => ?_) (fun hc3 => ?_)
    · exact (kJ10  (Or.inr (Or.inl ⟨(Int.not_lt.mp hc2), hc3⟩))).wk trivial
    · replace hP := hP (Int.not_le.mp hc3)
      refine im_ld (q := 14) (i := 0) D116_13 rfl rfl rfl ?_
      refine im_gfR (q := 17) (b := 14) D116_14 (im_fl cn_116 fl_5_9) sf_13 rfl rfl tR_5_0 rfl ?_
      refine im_ld (q := 18) (i := 1) D116_17 rfl rfl rfl ?_
      obtain ⟨hg4, hP⟩ := hP
      refine im_rng (j := p1) sf_14 hg4.1 hg4.2 (fun hr5 => ?_)
      refine im_iald (q := 19) D116_18 sf_14 hg4.1 hg4.2 (by decide) rfl ?_
      refine im_bipush (q := 21) D116_19 rfl ?_
      refine im_icmp (q := 24) (t := 39) D116_21 rfl hr5 (by decide) (fun hc6 => ?_) (fun hc6 => ?_)
      · exact (kJ10  (Or.inr (Or.inr (Or.inl ⟨(Int.not_lt.mp hc2), (Int.not_le.mp hc3), hc6⟩)))).wk trivial
      · replace hP := hP (Int.not_lt.mp hc6)
        refine im_ld (q := 25) (i := 0) D116_24 rfl rfl rfl ?_
        refine im_gfR (q := 28) (b := 14) D116_25 (im_fl cn_116 fl_5_9) sf_13 rfl rfl tR_5_0 rfl ?_
        refine im_ld (q := 29) (i := 1) D116_28 rfl rfl rfl ?_
        refine im_iald (q := 30) D116_29 sf_14 hg4.1 hg4.2 (by decide) rfl ?_
        refine im_bipush (q := 32) D116_30 rfl ?_
        refine im_icmp (q := 35) (t := 39) D116_32 rfl hr5 (by decide) (fun hc8 => ?_) (fun hc8 => ?_)
        · exact (kJ10  (Or.inr (Or.inr (Or.inr ⟨(Int.not_lt.mp hc2), (Int.not_le.mp hc3), (Int.not_lt.mp hc6), hc8⟩)))).wk trivial
        · replace hP := hP (Int.not_lt.mp hc8)
          refine im_iconst (q := 36) D116_35 ?_
          refine im_goto (q := 39) (t := 40) D116_36 rfl ?_
          exact im_zret (q := 41) D116_40 rfl (by decide) hP
set_option maxRecDepth 20000 in
set_option maxHeartbeats 4000000 in
theorem k_Machine_payOut_0 {g : im_g} {d : Nat} {e : im_E} {M : im_M} {K : im_K} {p1 p2 p4 p6 : Int} (hd : 1 ≤ d) (hP : im_T g (d - 1) 118 0 [some (.ref 1333), some (vI p1), some (vL p2), none, some (vL p4), none, some (vL p6), none, some (.ref 934)] [] e M (im_ri (fun x2 e_ M1 => e = e_ ∧ (im_i32 x2) ∧ ((¬ x2 = 0 → ∃ b5 : Nat, ((M1 931 4) = (b5 : Int)) ∧ (im_state e b5) ∧ im_T g (d - 1) 119 0 [some (.ref (b5 + 1)), some (vL p2), none, some (vL p6), none, some (.ref 934), none] [] e M1 (im_r0 (fun  e_ M8 => e = e_ ∧ (im_i32 p1) ∧ ((¬ p1 = 1 → (((M8 931 6) = 0 → im_T g (d - 1) 99 0 [some (.ref 1207), some (vL p4), none, some (vL p6), none, some (.ref 934), none] [] e M8 (im_ri (fun x14 e_ M13 => e = e_ ∧ K (.inl (some (vI x14))) e M13))) ∧ (¬ (M8 931 6) = 0 → K (.inl (some (vI 0))) e M8))) ∧ (p1 = 1 → ∃ b16 : Nat, ((M8 931 4) = (b16 : Int)) ∧ (im_state e b16) ∧ im_T g (d - 1) 99 0 [some (.ref (b16 + 1)), some (vL p4), none, some (vL p6), none, some (.ref 934), none] [] e M8 (im_ri (fun x20 e_ M19 => e = e_ ∧ K (.inl (some (vI x20))) e M19))))))) ∧ (x2 = 0 → K (.inl (some (vI (-9)))) e M1))))) : im_T g d 117 0 [some (.ref 931), some (vI p1), some (vL p2), none, some (vL p4), none, some (vL p6), none] [] e M K := by
  refine im_ld (q := 1) (i := 0) D117_0 rfl rfl rfl ?_
  refine im_gfR (q := 4) (b := 1333) D117_1 (im_fl cn_117 fl_2_48) sf_931 rfl rfl tR_2_8 rfl ?_
  refine im_ld (q := 5) (i := 1) D117_4 rfl rfl rfl ?_
  refine im_ld (q := 6) (i := 2) D117_5 rfl rfl rfl ?_
  refine im_ld (q := 8) (i := 4) D117_6 rfl rfl rfl ?_
  refine im_ld (q := 10) (i := 6) D117_8 rfl rfl rfl ?_
  refine im_ld (q := 11) (i := 0) D117_10 rfl rfl rfl ?_
  refine im_gfR (q := 14) (b := 934) D117_11 (im_fl cn_117 fl_2_22) sf_931 rfl rfl tR_2_3 rfl ?_
  refine im_callV (q := 17) (kd := 1) (y := 118) (n := 5) (ci := 7) (a := 1333) (vs := [.ref 1333, vI p1, vL p2, vL p4, vL p6, .ref 934]) (r := []) (L2 := [some (.ref 1333), some (vI p1), some (vL p2), none, some (vL p4), none, some (vL p6), none, some (.ref 934)]) D117_14 (im_cal cn_117 cl_2_234) (Or.inl rfl) rfl sf_1333 rfl rfl rfl rfl hd ⟨rfl, rfl, rfl, rfl, rfl, rfl, trivial⟩ ?_
  refine hP.mono ?_
  rintro _ e23 M1 ⟨x2, rfl, rfl, hP⟩
  refine im_bkS ?_
  obtain ⟨hg3, hP⟩ := hP
  refine im_ifc (q := 20) (t := 23) D117_17 rfl hg3 (fun hc4 => ?_) (fun hc4 => ?_)
  · replace hP := hP.1 hc4
    refine im_ld (q := 24) (i := 0) D117_23 rfl rfl rfl ?_
    obtain ⟨b5, hb6, hP⟩ := hP
    obtain ⟨hb7, hP⟩ := hP
    refine im_gfD (q := 27) D117_24 (im_fl cn_117 fl_2_31) sf_931 rfl rfl tR_2_4 rfl hb6 ?_
    refine im_gfR (q := 30) (b := (b5 + 1)) D117_27 (im_fl cn_117 fl_2_145) hb7.1 rfl rfl tR_9_0 rfl ?_
    refine im_ld (q := 31) (i := 2) D117_30 rfl rfl rfl ?_
    refine im_ld (q := 33) (i := 6) D117_31 rfl rfl rfl ?_
    refine im_ld (q := 34) (i := 0) D117_33 rfl rfl rfl ?_
    refine im_gfR (q := 37) (b := 934) D117_34 (im_fl cn_117 fl_2_22) sf_931 rfl rfl tR_2_3 rfl ?_
    refine im_callV (q := 40) (kd := 1) (y := 119) (n := 3) (ci := 0) (a := (b5 + 1)) (vs := [.ref (b5 + 1), vL p2, vL p6, .ref 934]) (r := []) (L2 := [some (.ref (b5 + 1)), some (vL p2), none, some (vL p6), none, some (.ref 934), none]) D117_37 (im_cal cn_117 cl_2_244) (Or.inl rfl) rfl hb7.2.1.1 rfl rfl rfl rfl hd ⟨rfl, rfl, rfl, rfl, trivial⟩ ?_
    refine hP.mono ?_
    rintro _ e22 M8 ⟨rfl, rfl, hP⟩
    refine im_bkN ?_
    refine im_ld (q := 41) (i := 1) D117_40 rfl rfl rfl ?_
    refine im_iconst (q := 42) D117_41 ?_
    obtain ⟨hg9, hP⟩ := hP
    refine im_icmp (q := 45) (t := 64) D117_42 rfl hg9 (by decide) (fun hc10 => ?_) (fun hc10 => ?_)
    · replace hP := hP.1 hc10
      refine im_ld (q := 65) (i := 0) D117_64 rfl rfl rfl ?_
      refine im_rng (j := 6) sf_931 (by decide) (by decide) (fun hr11 => ?_)
      refine im_gfI (q := 68) D117_65 (im_fl cn_117 fl_2_59) sf_931 rfl rfl tI_2_6 rfl ?_
      refine im_ifc (q := 71) (t := 75) D117_68 rfl (im_z32 hr11) (fun hc12 => ?_) (fun hc12 => ?_)
      · replace hP := hP.1 hc12
        refine im_ld (q := 76) (i := 0) D117_75 rfl rfl rfl ?_
        refine im_gfR (q := 79) (b := 1207) D117_76 (im_fl cn_117 fl_2_42) sf_931 rfl rfl tR_2_7 rfl ?_
        refine im_ld (q := 81) (i := 4) D117_79 rfl rfl rfl ?_
        refine im_ld (q := 83) (i := 6) D117_81 rfl rfl rfl ?_
        refine im_ld (q := 84) (i := 0) D117_83 rfl rfl rfl ?_
        refine im_gfR (q := 87) (b := 934) D117_84 (im_fl cn_117 fl_2_22) sf_931 rfl rfl tR_2_3 rfl ?_
        refine im_callV (q := 90) (kd := 1) (y := 99) (n := 3) (ci := 0) (a := 1207) (vs := [.ref 1207, vL p4, vL p6, .ref 934]) (r := []) (L2 := [some (.ref 1207), some (vL p4), none, some (vL p6), none, some (.ref 934), none]) D117_87 (im_cal cn_117 cl_2_248) (Or.inl rfl) rfl sf_1207 rfl rfl rfl rfl hd ⟨rfl, rfl, rfl, rfl, trivial⟩ ?_
        refine hP.mono ?_
        rintro _ e15 M13 ⟨x14, rfl, rfl, hP⟩
        refine im_bkS ?_
        exact im_iret (q := 91) D117_90 rfl hP
      · replace hP := hP.2 hc12
        refine im_iconst (q := 72) D117_71 ?_
        refine im_goto (q := 75) (t := 90) D117_72 rfl ?_
        exact im_iret (q := 91) D117_90 rfl hP
    · replace hP := hP.2 (Decidable.not_not.mp hc10)
      refine im_ld (q := 46) (i := 0) D117_45 rfl rfl rfl ?_
      obtain ⟨b16, hb17, hP⟩ := hP
      obtain ⟨hb18, hP⟩ := hP
      refine im_gfD (q := 49) D117_46 (im_fl cn_117 fl_2_31) sf_931 rfl rfl tR_2_4 rfl hb17 ?_
      refine im_gfR (q := 52) (b := (b16 + 1)) D117_49 (im_fl cn_117 fl_2_145) hb18.1 rfl rfl tR_9_0 rfl ?_
      refine im_ld (q := 54) (i := 4) D117_52 rfl rfl rfl ?_
      refine im_ld (q := 56) (i := 6) D117_54 rfl rfl rfl ?_
      refine im_ld (q := 57) (i := 0) D117_56 rfl rfl rfl ?_
      refine im_gfR (q := 60) (b := 934) D117_57 (im_fl cn_117 fl_2_22) sf_931 rfl rfl tR_2_3 rfl ?_
      refine im_callV (q := 63) (kd := 1) (y := 99) (n := 3) (ci := 0) (a := (b16 + 1)) (vs := [.ref (b16 + 1), vL p4, vL p6, .ref 934]) (r := []) (L2 := [some (.ref (b16 + 1)), some (vL p4), none, some (vL p6), none, some (.ref 934), none]) D117_60 (im_cal cn_117 cl_2_248) (Or.inl rfl) rfl hb18.2.1.1 rfl rfl rfl rfl hd ⟨rfl, rfl, rfl, rfl, trivial⟩ ?_
      refine hP.mono ?_
      rintro _ e21 M19 ⟨x20, rfl, rfl, hP⟩
      refine im_bkS ?_
      exact im_iret (q := 64) D117_63 rfl hP
  · replace hP := hP.2 (Decidable.not_not.mp hc4)
    refine im_bipush (q := 22) D117_20 rfl ?_
    exact im_iret (q := 23) D117_22 rfl hP
set_option maxRecDepth 20000 in
set_option maxHeartbeats 4000000 in
theorem k_Row_add_0 {g : im_g} {d : Nat} {e : im_E} {M : im_M} {K : im_K} {p1 p2 p4 p6 : Int} {a0 na0 : Nat} (ha0 : im_row e a0 na0) {p8 : Nat} (hp8 : im_num e p8) (hd : 1 ≤ d) (hP : (im_i32 na0) ∧ (((M a0 5) < na0 → im_T g (d - 1) 106 0 [some (.ref a0), some (vI (M a0 5)), some (vI p1), some (vL p2), none, some (vL p4), none, some (vL p6), none] [] e M (im_r0 (fun  e_ M5 => e = e_ ∧ (0 ≤ (M5 a0 5) ∧ (M5 a0 5) < na0) ∧ ∃ b8 : Nat, ((M5 (a0 + 5) (M5 a0 5)) = (b8 : Int)) ∧ (im_num e b8) ∧ im_T g (d - 1) 66 0 [some (.ref b8), some (.ref p8), none] [] e M5 (im_r0 (fun  e_ M11 => e = e_ ∧ (im_i32 ((M11 a0 5) + 1)) ∧ K (.inl (some (vI 1))) e (im_u M11 a0 5 ((M11 a0 5) + 1))))))) ∧ (na0 ≤ (M a0 5) → K (.inl (some (vI 0))) e M))) : im_T g d 118 0 [some (.ref a0), some (vI p1), some (vL p2), none, some (vL p4), none, some (vL p6), none, some (.ref p8)] [] e M K := by
  refine im_ld (q := 1) (i := 0) D118_0 rfl rfl rfl ?_
  refine im_rng (j := 5) ha0.1 (by decide) (show (5 : Int) < ((6 : Nat) : Int) by decide) (fun hr1 => ?_)
  refine im_gfI (q := 4) D118_1 (im_fl cn_118 fl_7_30) ha0.1 rfl rfl tI_7_5 rfl ?_
  refine im_ld (q := 5) (i := 0) D118_4 rfl rfl rfl ?_
  refine im_gfR (q := 8) (b := (a0 + 5)) D118_5 (im_fl cn_118 fl_7_25) ha0.1 rfl rfl tR_7_4 rfl ?_
  refine im_alen (q := 9) D118_8 ha0.2.2.2.2.2.1 (by decide) ?_
  obtain ⟨hg2, hP⟩ := hP
  refine im_icmp (q := 12) (t := 14) D118_9 rfl hr1 hg2 (fun hc3 => ?_) (fun hc3 => ?_)
  · replace hP := hP.1 hc3
    refine im_ld (q := 15) (i := 0) D118_14 rfl rfl rfl ?_
    refine im_ld (q := 16) (i := 0) D118_15 rfl rfl rfl ?_
    refine im_gfI (q := 19) D118_16 (im_fl cn_118 fl_7_30) ha0.1 rfl rfl tI_7_5 rfl ?_
    refine im_ld (q := 20) (i := 1) D118_19 rfl rfl rfl ?_
    refine im_ld (q := 21) (i := 2) D118_20 rfl rfl rfl ?_
    refine im_ld (q := 23) (i := 4) D118_21 rfl rfl rfl ?_
    refine im_ld (q := 25) (i := 6) D118_23 rfl rfl rfl ?_
    refine im_callV (q := 28) (kd := 1) (y := 106) (n := 5) (ci := 7) (a := a0) (vs := [.ref a0, vI (M a0 5), vI p1, vL p2, vL p4, vL p6]) (r := []) (L2 := [some (.ref a0), some (vI (M a0 5)), some (vI p1), some (vL p2), none, some (vL p4), none, some (vL p6), none]) D118_25 (im_cal cn_118 cl_7_34) (Or.inl rfl) rfl ha0.1 rfl rfl rfl rfl hd ⟨rfl, rfl, rfl, rfl, rfl, rfl, trivial⟩ ?_
    refine hP.mono ?_
    rintro _ e15 M5 ⟨rfl, rfl, hP⟩
    refine im_bkN ?_
    refine im_ld (q := 29) (i := 0) D118_28 rfl rfl rfl ?_
    refine im_gfR (q := 32) (b := (a0 + 5)) D118_29 (im_fl cn_118 fl_7_25) ha0.1 rfl rfl tR_7_4 rfl ?_
    refine im_ld (q := 33) (i := 0) D118_32 rfl rfl rfl ?_
    refine im_rng (j := 5) ha0.1 (by decide) (show (5 : Int) < ((6 : Nat) : Int) by decide) (fun hr6 => ?_)
    refine im_gfI (q := 36) D118_33 (im_fl cn_118 fl_7_30) ha0.1 rfl rfl tI_7_5 rfl ?_
    obtain ⟨hg7, hP⟩ := hP
    obtain ⟨b8, hb9, hP⟩ := hP
    obtain ⟨hb10, hP⟩ := hP
    refine im_aald (q := 37) D118_36 ha0.2.2.2.2.2.1 (Or.inl rfl) hg7.1 hg7.2 (Nat.le_trans ha0.2.2.2.2.2.2 (by decide)) hb9 ?_
    refine im_ld (q := 39) (i := 8) D118_37 rfl rfl rfl ?_
    refine im_callV (q := 42) (kd := 1) (y := 66) (n := 1) (ci := 3) (a := b8) (vs := [.ref b8, .ref p8]) (r := []) (L2 := [some (.ref b8), some (.ref p8), none]) D118_39 (im_cal cn_118 cl_7_38) (Or.inl rfl) rfl hb10.1 rfl rfl rfl rfl hd ⟨rfl, rfl, trivial⟩ ?_
    refine hP.mono ?_
    rintro _ e14 M11 ⟨rfl, rfl, hP⟩
    refine im_bkN ?_
    refine im_ld (q := 43) (i := 0) D118_42 rfl rfl rfl ?_
    refine im_dup (q := 44) D118_43 rfl ?_
    refine im_rng (j := 5) ha0.1 (by decide) (show (5 : Int) < ((6 : Nat) : Int) by decide) (fun hr12 => ?_)
    refine im_gfI (q := 47) D118_44 (im_fl cn_118 fl_7_30) ha0.1 rfl rfl tI_7_5 rfl ?_
    refine im_iconst (q := 48) D118_47 ?_
    refine im_iadd (q := 49) D118_48 ?_
    obtain ⟨hg13, hP⟩ := hP
    refine im_pfI (q := 52) D118_49 (im_fl cn_118 fl_7_30) ha0.1 rfl rfl ti_7_5 hg13 ?_
    refine im_iconst (q := 53) D118_52 ?_
    exact im_zret (q := 54) D118_53 rfl (by decide) hP
  · replace hP := hP.2 (Int.not_lt.mp hc3)
    refine im_iconst (q := 13) D118_12 ?_
    exact im_zret (q := 14) D118_13 rfl (by decide) hP
set_option maxRecDepth 20000 in
set_option maxHeartbeats 4000000 in
theorem k_Book_debit_0 {g : im_g} {d : Nat} {e : im_E} {M : im_M} {K : im_K} {p1 p3 : Int} {a0 na0 : Nat} (ha0 : im_book e a0 na0) {p5 : Nat} (hp5 : im_num e p5) (hd : 1 ≤ d) (hP : im_T g (d - 1) 88 0 [some (.ref a0), some (vL p1), none, some (vL p3), none, none] [] e M (im_ri (fun x2 e_ M1 => e = e_ ∧ (im_i32 x2) ∧ ((0 ≤ x2 → (0 ≤ x2 ∧ x2 < na0) ∧ ∃ b6 : Nat, ((M1 (a0 + 5) x2) = (b6 : Int)) ∧ (im_num e b6) ∧ ∃ b9 : Nat, ((M1 (a0 + 5) x2) = (b9 : Int)) ∧ (im_num e b9) ∧ im_T g (d - 1) 120 0 [some (.ref b6), some (.ref b9), some (.ref p5), none, none, none, none] [] e M1 (im_r0 (fun  e_ M12 => e = e_ ∧ ∃ b13 : Nat, ((M12 (a0 + 5) x2) = (b13 : Int)) ∧ (im_num e b13) ∧ ((¬ (M12 b13 0) = 0 → K (.inl none) e M12) ∧ ((M12 b13 0) = 0 → im_T g (d - 1) 121 0 [some (.ref a0), some (vI x2), none, none] [] e M12 (im_r0 (fun  e_ M18 => e = e_ ∧ K (.inl none) e M18))))))) ∧ (x2 < 0 → K (.inl none) e M1))))) : im_T g d 119 0 [some (.ref a0), some (vL p1), none, some (vL p3), none, some (.ref p5), none] [] e M K := by
  refine im_ld (q := 1) (i := 0) D119_0 rfl rfl rfl ?_
  refine im_ld (q := 2) (i := 1) D119_1 rfl rfl rfl ?_
  refine im_ld (q := 3) (i := 3) D119_2 rfl rfl rfl ?_
  refine im_callV (q := 6) (kd := 1) (y := 88) (n := 2) (ci := 0) (a := a0) (vs := [.ref a0, vL p1, vL p3]) (r := []) (L2 := [some (.ref a0), some (vL p1), none, some (vL p3), none, none]) D119_3 (im_cal cn_119 cl_0_43) (Or.inl rfl) rfl ha0.1 rfl rfl rfl rfl hd ⟨rfl, rfl, rfl, trivial⟩ ?_
  refine hP.mono ?_
  rintro _ e21 M1 ⟨x2, rfl, rfl, hP⟩
  refine im_bkS ?_
  refine im_st1 (q := 8) (i := 6) (L' := [some (.ref a0), some (vL p1), none, some (vL p3), none, some (.ref p5), some (vI x2)]) D119_6 (Or.inr rfl) (Nat.le_of_ble_eq_true rfl) rfl ?_
  refine im_ld (q := 10) (i := 6) D119_8 rfl rfl rfl ?_
  obtain ⟨hg3, hP⟩ := hP
  refine im_ifc (q := 13) (t := 14) D119_10 rfl hg3 (fun hc4 => ?_) (fun hc4 => ?_)
  · replace hP := hP.1 hc4
    refine im_ld (q := 15) (i := 0) D119_14 rfl rfl rfl ?_
    refine im_gfR (q := 18) (b := (a0 + 5)) D119_15 (im_fl cn_119 fl_0_25) ha0.1 rfl rfl tR_0_2 rfl ?_
    refine im_ld (q := 20) (i := 6) D119_18 rfl rfl rfl ?_
    obtain ⟨hg5, hP⟩ := hP
    obtain ⟨b6, hb7, hP⟩ := hP
    obtain ⟨hb8, hP⟩ := hP
    refine im_aald (q := 21) D119_20 ha0.2.2.2.1 (Or.inl rfl) hg5.1 hg5.2 (Nat.le_trans ha0.2.2.2.2.2 (by decide)) hb7 ?_
    refine im_ld (q := 22) (i := 0) D119_21 rfl rfl rfl ?_
    refine im_gfR (q := 25) (b := (a0 + 5)) D119_22 (im_fl cn_119 fl_0_25) ha0.1 rfl rfl tR_0_2 rfl ?_
    refine im_ld (q := 27) (i := 6) D119_25 rfl rfl rfl ?_
    obtain ⟨b9, hb10, hP⟩ := hP
    obtain ⟨hb11, hP⟩ := hP
    refine im_aald (q := 28) D119_27 ha0.2.2.2.1 (Or.inl rfl) hg5.1 hg5.2 (Nat.le_trans ha0.2.2.2.2.2 (by decide)) hb10 ?_
    refine im_ld (q := 30) (i := 5) D119_28 rfl rfl rfl ?_
    refine im_callV (q := 33) (kd := 1) (y := 120) (n := 2) (ci := 3) (a := b6) (vs := [.ref b6, .ref b9, .ref p5]) (r := []) (L2 := [some (.ref b6), some (.ref b9), some (.ref p5), none, none, none, none]) D119_30 (im_cal cn_119 cl_0_58) (Or.inl rfl) rfl hb8.1 rfl rfl rfl rfl hd ⟨rfl, rfl, rfl, trivial⟩ ?_
    refine hP.mono ?_
    rintro _ e20 M12 ⟨rfl, rfl, hP⟩
    refine im_bkN ?_
    refine im_ld (q := 34) (i := 0) D119_33 rfl rfl rfl ?_
    refine im_gfR (q := 37) (b := (a0 + 5)) D119_34 (im_fl cn_119 fl_0_25) ha0.1 rfl rfl tR_0_2 rfl ?_
    refine im_ld (q := 39) (i := 6) D119_37 rfl rfl rfl ?_
    obtain ⟨b13, hb14, hP⟩ := hP
    obtain ⟨hb15, hP⟩ := hP
    refine im_aald (q := 40) D119_39 ha0.2.2.2.1 (Or.inl rfl) hg5.1 hg5.2 (Nat.le_trans ha0.2.2.2.2.2 (by decide)) hb14 ?_
    refine im_rng (j := 0) hb15.1 (by decide) (show (0 : Int) < ((3 : Nat) : Int) by decide) (fun hr16 => ?_)
    refine im_gfI (q := 43) D119_40 (im_fl cn_119 fl_0_62) hb15.1 rfl rfl tI_3_0 rfl ?_
    refine im_ifc (q := 46) (t := 52) D119_43 rfl hr16 (fun hc17 => ?_) (fun hc17 => ?_)
    · replace hP := hP.1 hc17
      exact im_vret (q := 53) D119_52 rfl hP
    · replace hP := hP.2 (Decidable.not_not.mp hc17)
      refine im_ld (q := 47) (i := 0) D119_46 rfl rfl rfl ?_
      refine im_ld (q := 49) (i := 6) D119_47 rfl rfl rfl ?_
      refine im_callV (q := 52) (kd := 1) (y := 121) (n := 1) (ci := 0) (a := a0) (vs := [.ref a0, vI x2]) (r := []) (L2 := [some (.ref a0), some (vI x2), none, none]) D119_49 (im_cal cn_119 cl_0_65) (Or.inl rfl) rfl ha0.1 rfl rfl rfl rfl hd ⟨rfl, rfl, trivial⟩ ?_
      refine hP.mono ?_
      rintro _ e19 M18 ⟨rfl, rfl, hP⟩
      refine im_bkN ?_
      exact im_vret (q := 53) D119_52 rfl hP
  · replace hP := hP.2 (Int.not_le.mp hc4)
    exact im_vret (q := 14) D119_13 rfl hP
set_option maxRecDepth 20000 in
set_option maxHeartbeats 4000000 in
theorem k_Num_shrink_0 {g : im_g} {d : Nat} {e : im_E} {M : im_M} {K : im_K} {a0 : Nat} (ha0 : im_num e a0) {p1 : Nat} (hp1 : im_num e p1) {p2 : Nat} (hp2 : im_num e p2) (hP : im_T g d 120 11 [some (.ref a0), some (.ref p1), some (.ref p2), some (vI (M p1 1)), some (vI 0), some (vI 0), none] [] e M K) : im_T g d 120 0 [some (.ref a0), some (.ref p1), some (.ref p2), none, none, none, none] [] e M K := by
  refine im_ld (q := 1) (i := 1) D120_0 rfl rfl rfl ?_
  refine im_rng (j := 1) hp1.1 (by decide) (show (1 : Int) < ((3 : Nat) : Int) by decide) (fun hr1 => ?_)
  refine im_gfI (q := 4) D120_1 (im_fl cn_120 fl_3_19) hp1.1 rfl rfl tI_3_1 rfl ?_
  refine im_st1 (q := 5) (i := 3) (L' := [some (.ref a0), some (.ref p1), some (.ref p2), some (vI (M p1 1)), none, none, none]) D120_4 (Or.inl ⟨_, rfl, rfl⟩) (Nat.le_of_ble_eq_true rfl) rfl ?_
  refine im_iconst (q := 6) D120_5 ?_
  refine im_st1 (q := 8) (i := 4) (L' := [some (.ref a0), some (.ref p1), some (.ref p2), some (vI (M p1 1)), some (vI 0), none, none]) D120_6 (Or.inr rfl) (Nat.le_of_ble_eq_true rfl) rfl ?_
  refine im_iconst (q := 9) D120_8 ?_
  refine im_st1 (q := 11) (i := 5) (L' := [some (.ref a0), some (.ref p1), some (.ref p2), some (vI (M p1 1)), some (vI 0), some (vI 0), none]) D120_9 (Or.inr rfl) (Nat.le_of_ble_eq_true rfl) rfl ?_
  exact hP.wk ⟨rfl, rfl, rfl, rfl, rfl, rfl, trivial⟩
set_option maxRecDepth 20000 in
set_option maxHeartbeats 4000000 in
theorem k_Num_shrink_11 {g : im_g} {d : Nat} {e : im_E} {M : im_M} {K : im_K} {p3 p4 p5 : Int} {a0 : Nat} (ha0 : im_num e a0) {p1 : Nat} (hp1 : im_num e p1) {p2 : Nat} (hp2 : im_num e p2) (hd : 1 ≤ d) (hP : (im_i32 p5) ∧ (im_i32 p3) ∧ ((((p3 ≤ p5 → im_T g (d - 1) 98 0 [some (.ref a0), none] [] e (im_u M a0 1 p3) (im_ri (fun x22 e_ M21 => e = e_ ∧ K (.inl none) e M21))) ∧ (p5 < p3 → (0 ≤ p5 ∧ p5 < 34)))) ∧ (∀ x9 : Int, (((p5 < p3) ∧ ((M p2 1) ≤ p5) ∧ x9 = 0) ∨ ((p5 < p3) ∧ (p5 < (M p2 1)) ∧ x9 = (M (p2 + 1) p5))) → (im_i32 (((M (p1 + 1) p5) - p4) - x9)) ∧ ((∀ x15 : Int, (((0 ≤ (((M (p1 + 1) p5) - p4) - x9)) ∧ x15 = 0) ∨ (((((M (p1 + 1) p5) - p4) - x9) < 0) ∧ x15 = 1)) → (0 ≤ p5 ∧ p5 < 34) ∧ (im_i32 ((((M (p1 + 1) p5) - p4) - x9) + (x15 * 1000000000))) ∧ im_T g d 120 11 [some (.ref a0), some (.ref p1), some (.ref p2), some (vI p3), some (vI x15), some (vI (p5 + 1)), none] [] e (im_u M (a0 + 1) p5 ((((M (p1 + 1) p5) - p4) - x9) + (x15 * 1000000000))) K))))) : im_T g d 120 11 [some (.ref a0), some (.ref p1), some (.ref p2), some (vI p3), some (vI p4), some (vI p5), none] [] e M K := by
  refine im_ld (q := 13) (i := 5) D120_11 rfl rfl rfl ?_
  refine im_ld (q := 14) (i := 3) D120_13 rfl rfl rfl ?_
  obtain ⟨hg1, hP⟩ := hP
  obtain ⟨hg2, hP⟩ := hP
  obtain ⟨hP, hJ10⟩ := hP
  have kJ11 : ∀ x9 : Int, (((p5 < p3) ∧ ((M p2 1) ≤ p5) ∧ x9 = 0) ∨ ((p5 < p3) ∧ (p5 < (M p2 1)) ∧ x9 = (M (p2 + 1) p5))) → im_T g d 120 47 [some (.ref a0), some (.ref p1), some (.ref p2), some (vI p3), none, some (vI p5), none] [vI x9, vI ((M (p1 + 1) p5) - p4)] e M K := by
    intro x9 hx12
    have hP := hJ10 x9 hx12
    refine im_isub (q := 48) D120_47 ?_
    refine im_st1 (q := 50) (i := 6) (L' := [some (.ref a0), some (.ref p1), some (.ref p2), some (vI p3), none, some (vI p5), some (vI (((M (p1 + 1) p5) - p4) - x9))]) D120_48 (Or.inr rfl) (Nat.le_of_ble_eq_true rfl) rfl ?_
    refine im_ld (q := 52) (i := 6) D120_50 rfl rfl rfl ?_
    obtain ⟨hg13, hP⟩ := hP
    have hJ16 := hP
    have kJ17 : ∀ x15 : Int, (((0 ≤ (((M (p1 + 1) p5) - p4) - x9)) ∧ x15 = 0) ∨ (((((M (p1 + 1) p5) - p4) - x9) < 0) ∧ x15 = 1)) → im_T g d 120 60 [some (.ref a0), some (.ref p1), some (.ref p2), some (vI p3), none, some (vI p5), some (vI (((M (p1 + 1) p5) - p4) - x9))] [vI x15] e M K := by
      intro x15 hx18
      have hP := hJ16 x15 hx18
      refine im_st1 (q := 62) (i := 4) (L' := [some (.ref a0), some (.ref p1), some (.ref p2), some (vI p3), some (vI x15), some (vI p5), some (vI (((M (p1 + 1) p5) - p4) - x9))]) D120_60 (Or.inr rfl) (Nat.le_of_ble_eq_true rfl) rfl ?_
      refine im_ld (q := 63) (i := 0) D120_62 rfl rfl rfl ?_
      refine im_gfR (q := 66) (b := (a0 + 1)) D120_63 (im_fl cn_120 fl_3_9) ha0.1 rfl rfl tR_3_2 rfl ?_
      refine im_ld (q := 68) (i := 5) D120_66 rfl rfl rfl ?_
      refine im_ld (q := 70) (i := 6) D120_68 rfl rfl rfl ?_
      refine im_ld (q := 72) (i := 4) D120_70 rfl rfl rfl ?_
      refine im_ldc (q := 74) (n := 1000000000) (Or.inl rfl) D120_72 rfl rfl ?_
      refine im_imul (q := 75) D120_74 ?_
      refine im_iadd (q := 76) D120_75 ?_
      obtain ⟨hg19, hP⟩ := hP
      obtain ⟨hg20, hP⟩ := hP
      refine im_iast (q := 77) D120_76 ha0.2 hg19.1 hg19.2 (by decide) hg20 ?_
      refine im_iinc (q := 80) (i := 5) (L' := [some (.ref a0), some (.ref p1), some (.ref p2), some (vI p3), some (vI x15), some (vI (p5 + 1)), some (vI (((M (p1 + 1) p5) - p4) - x9))]) D120_77 rfl (Nat.le_of_ble_eq_true rfl) rfl ?_
      refine im_goto (q := 83) (t := 11) D120_80 rfl ?_
      exact hP.wk ⟨rfl, rfl, rfl, rfl, rfl, rfl, trivial⟩
    refine im_ifc (q := 55) (t := 59) D120_52 rfl hg13 (fun hc14 => ?_) (fun hc14 => ?_)
    · refine im_iconst (q := 60) D120_59 ?_
      exact (kJ17 (0) (Or.inl ⟨hc14, rfl⟩)).wk ⟨rfl, rfl, rfl, rfl, rfl, rfl, trivial⟩
    · refine im_iconst (q := 56) D120_55 ?_
      refine im_goto (q := 59) (t := 60) D120_56 rfl ?_
      exact (kJ17 (1) (Or.inr ⟨(Int.not_le.mp hc14), rfl⟩)).wk ⟨rfl, rfl, rfl, rfl, rfl, rfl, trivial⟩
  refine im_icmp (q := 17) (t := 83) D120_14 rfl hg1 hg2 (fun hc3 => ?_) (fun hc3 => ?_)
  · replace hP := hP.1 hc3
    refine im_ld (q := 84) (i := 0) D120_83 rfl rfl rfl ?_
    refine im_ld (q := 85) (i := 3) D120_84 rfl rfl rfl ?_
    refine im_pfI (q := 88) D120_85 (im_fl cn_120 fl_3_19) ha0.1 rfl rfl ti_3_1 hg2 ?_
    refine im_ld (q := 89) (i := 0) D120_88 rfl rfl rfl ?_
    refine im_callV (q := 92) (kd := 1) (y := 98) (n := 0) (ci := 3) (a := a0) (vs := [.ref a0]) (r := []) (L2 := [some (.ref a0), none]) D120_89 (im_cal cn_120 cl_3_42) (Or.inl rfl) rfl ha0.1 rfl rfl rfl rfl hd ⟨rfl, trivial⟩ ?_
    refine hP.mono ?_
    rintro _ e23 M21 ⟨x22, rfl, rfl, hP⟩
    refine im_bkS ?_
    refine im_pop (q := 93) D120_92 rfl ?_
    exact im_vret (q := 94) D120_93 rfl hP
  · replace hP := hP.2 (Int.not_le.mp hc3)
    refine im_ld (q := 18) (i := 1) D120_17 rfl rfl rfl ?_
    refine im_gfR (q := 21) (b := (p1 + 1)) D120_18 (im_fl cn_120 fl_3_9) hp1.1 rfl rfl tR_3_2 rfl ?_
    refine im_ld (q := 23) (i := 5) D120_21 rfl rfl rfl ?_
    have hg4 := hP
    refine im_rng (j := p5) hp1.2 hg4.1 hg4.2 (fun hr5 => ?_)
    refine im_iald (q := 24) D120_23 hp1.2 hg4.1 hg4.2 (by decide) rfl ?_
    refine im_ld (q := 26) (i := 4) D120_24 rfl rfl rfl ?_
    refine im_isub (q := 27) D120_26 ?_
    refine im_ld (q := 29) (i := 5) D120_27 rfl rfl rfl ?_
    refine im_ld (q := 30) (i := 2) D120_29 rfl rfl rfl ?_
    refine im_rng (j := 1) hp2.1 (by decide) (show (1 : Int) < ((3 : Nat) : Int) by decide) (fun hr6 => ?_)
    refine im_gfI (q := 33) D120_30 (im_fl cn_120 fl_3_19) hp2.1 rfl rfl tI_3_1 rfl ?_
    refine im_icmp (q := 36) (t := 46) D120_33 rfl hg1 hr6 (fun hc7 => ?_) (fun hc7 => ?_)
    · refine im_iconst (q := 47) D120_46 ?_
      exact (kJ11 (0) (Or.inl ⟨(Int.not_le.mp hc3), hc7, rfl⟩)).wk ⟨rfl, rfl, rfl, rfl, rfl, trivial⟩
    · refine im_ld (q := 37) (i := 2) D120_36 rfl rfl rfl ?_
      refine im_gfR (q := 40) (b := (p2 + 1)) D120_37 (im_fl cn_120 fl_3_9) hp2.1 rfl rfl tR_3_2 rfl ?_
      refine im_ld (q := 42) (i := 5) D120_40 rfl rfl rfl ?_
      refine im_rng (j := p5) hp2.2 hg4.1 hg4.2 (fun hr8 => ?_)
      refine im_iald (q := 43) D120_42 hp2.2 hg4.1 hg4.2 (by decide) rfl ?_
      refine im_goto (q := 46) (t := 47) D120_43 rfl ?_
      exact (kJ11 ((M (p2 + 1) p5)) (Or.inr ⟨(Int.not_le.mp hc3), (Int.not_le.mp hc7), rfl⟩)).wk ⟨rfl, rfl, rfl, rfl, rfl, trivial⟩
set_option maxRecDepth 20000 in
set_option maxHeartbeats 4000000 in
theorem k_Book_remove_0 {g : im_g} {d : Nat} {e : im_E} {M : im_M} {K : im_K} {p1 : Int} {a0 na0 : Nat} (ha0 : im_book e a0 na0) (hP : (im_i32 p1) ∧ ((((0 ≤ p1 → ((p1 < (M a0 4) → (0 ≤ p1 ∧ p1 < na0) ∧ ∃ b9 : Nat, ((M (a0 + 5) p1) = (b9 : Int)) ∧ (im_num e b9) ∧ (im_i32 ((M a0 4) - 1)) ∧ im_T g d 121 32 [some (.ref a0), none, some (.ref b9), some (vI p1)] [] e (im_u M a0 4 ((M a0 4) - 1)) K))))) ∧ ((((p1 < 0)) ∨ ((0 ≤ p1) ∧ ((M a0 4) ≤ p1))) → K (.inl none) e M))) : im_T g d 121 0 [some (.ref a0), some (vI p1), none, none] [] e M K := by
  refine im_ld (q := 1) (i := 1) D121_0 rfl rfl rfl ?_
  obtain ⟨hg1, hP⟩ := hP
  obtain ⟨hP, hJ5⟩ := hP
  have kJ6 : (((p1 < 0)) ∨ ((0 ≤ p1) ∧ ((M a0 4) ≤ p1))) → im_T g d 121 12 [none, none, none, none] [] e M K := by
    intro  hx7
    have hP := hJ5  hx7
    exact im_vret (q := 13) D121_12 rfl hP
  refine im_ifc (q := 4) (t := 12) D121_1 rfl hg1 (fun hc2 => ?_) (fun hc2 => ?_)
  · exact (kJ6  (Or.inl hc2)).wk trivial
  · replace hP := hP (Int.not_lt.mp hc2)
    refine im_ld (q := 5) (i := 1) D121_4 rfl rfl rfl ?_
    refine im_ld (q := 6) (i := 0) D121_5 rfl rfl rfl ?_
    refine im_rng (j := 4) ha0.1 (by decide) (show (4 : Int) < ((5 : Nat) : Int) by decide) (fun hr3 => ?_)
    refine im_gfI (q := 9) D121_6 (im_fl cn_121 fl_0_29) ha0.1 rfl rfl tI_0_4 rfl ?_
    refine im_icmp (q := 12) (t := 13) D121_9 rfl hg1 hr3 (fun hc4 => ?_) (fun hc4 => ?_)
    · replace hP := hP hc4
      refine im_ld (q := 14) (i := 0) D121_13 rfl rfl rfl ?_
      refine im_gfR (q := 17) (b := (a0 + 5)) D121_14 (im_fl cn_121 fl_0_25) ha0.1 rfl rfl tR_0_2 rfl ?_
      refine im_ld (q := 18) (i := 1) D121_17 rfl rfl rfl ?_
      obtain ⟨hg8, hP⟩ := hP
      obtain ⟨b9, hb10, hP⟩ := hP
      obtain ⟨hb11, hP⟩ := hP
      refine im_aald (q := 19) D121_18 ha0.2.2.2.1 (Or.inl rfl) hg8.1 hg8.2 (Nat.le_trans ha0.2.2.2.2.2 (by decide)) hb10 ?_
      refine im_stR (q := 20) (i := 2) (L' := [some (.ref a0), some (vI p1), some (.ref b9), none]) D121_19 (Or.inl ⟨_, rfl, rfl⟩) (Nat.le_of_ble_eq_true rfl) rfl ?_
      refine im_ld (q := 21) (i := 0) D121_20 rfl rfl rfl ?_
      refine im_dup (q := 22) D121_21 rfl ?_
      refine im_gfI (q := 25) D121_22 (im_fl cn_121 fl_0_29) ha0.1 rfl rfl tI_0_4 rfl ?_
      refine im_iconst (q := 26) D121_25 ?_
      refine im_isub (q := 27) D121_26 ?_
      obtain ⟨hg13, hP⟩ := hP
      refine im_pfI (q := 30) D121_27 (im_fl cn_121 fl_0_29) ha0.1 rfl rfl ti_0_4 hg13 ?_
      refine im_ld (q := 31) (i := 1) D121_30 rfl rfl rfl ?_
      refine im_st1 (q := 32) (i := 3) (L' := [some (.ref a0), some (vI p1), some (.ref b9), some (vI p1)]) D121_31 (Or.inl ⟨_, rfl, rfl⟩) (Nat.le_of_ble_eq_true rfl) rfl ?_
      exact hP.wk ⟨rfl, rfl, rfl, trivial⟩
    · exact (kJ6  (Or.inr ⟨(Int.not_lt.mp hc2), (Int.not_lt.mp hc4)⟩)).wk trivial
set_option maxRecDepth 20000 in
set_option maxHeartbeats 4000000 in
theorem k_Book_remove_32 {g : im_g} {d : Nat} {e : im_E} {M : im_M} {K : im_K} {p3 : Int} {a0 na0 : Nat} (ha0 : im_book e a0 na0) {p2 : Nat} (hp2 : im_num e p2) (hP : (im_i32 p3) ∧ (((M a0 4) ≤ p3 → (0 ≤ (M a0 4) ∧ (M a0 4) < na0) ∧ K (.inl none) e (im_u M (a0 + 5) (M a0 4) (p2 : Nat))) ∧ (p3 < (M a0 4) → (0 ≤ (p3 + 1) ∧ (p3 + 1) < na0) ∧ (0 ≤ p3 ∧ p3 < na0) ∧ ∃ b10 : Nat, (((im_u (im_u M (a0 + 3) p3 (M (a0 + 3) (p3 + 1))) (a0 + 4) p3 ((im_u M (a0 + 3) p3 (M (a0 + 3) (p3 + 1))) (a0 + 4) (p3 + 1))) (a0 + 5) (p3 + 1)) = (b10 : Int)) ∧ (im_num e b10) ∧ im_T g d 121 32 [some (.ref a0), none, some (.ref p2), some (vI (p3 + 1))] [] e (im_u (im_u (im_u M (a0 + 3) p3 (M (a0 + 3) (p3 + 1))) (a0 + 4) p3 ((im_u M (a0 + 3) p3 (M (a0 + 3) (p3 + 1))) (a0 + 4) (p3 + 1))) (a0 + 5) p3 (b10 : Nat)) K))) : im_T g d 121 32 [some (.ref a0), none, some (.ref p2), some (vI p3)] [] e M K := by
  refine im_ld (q := 33) (i := 3) D121_32 rfl rfl rfl ?_
  refine im_ld (q := 34) (i := 0) D121_33 rfl rfl rfl ?_
  refine im_rng (j := 4) ha0.1 (by decide) (show (4 : Int) < ((5 : Nat) : Int) by decide) (fun hr1 => ?_)
  refine im_gfI (q := 37) D121_34 (im_fl cn_121 fl_0_29) ha0.1 rfl rfl tI_0_4 rfl ?_
  obtain ⟨hg2, hP⟩ := hP
  refine im_icmp (q := 40) (t := 88) D121_37 rfl hg2 hr1 (fun hc3 => ?_) (fun hc3 => ?_)
  · replace hP := hP.1 hc3
    refine im_ld (q := 89) (i := 0) D121_88 rfl rfl rfl ?_
    refine im_gfR (q := 92) (b := (a0 + 5)) D121_89 (im_fl cn_121 fl_0_25) ha0.1 rfl rfl tR_0_2 rfl ?_
    refine im_ld (q := 93) (i := 0) D121_92 rfl rfl rfl ?_
    refine im_gfI (q := 96) D121_93 (im_fl cn_121 fl_0_29) ha0.1 rfl rfl tI_0_4 rfl ?_
    refine im_ld (q := 97) (i := 2) D121_96 rfl rfl rfl ?_
    obtain ⟨hg7, hP⟩ := hP
    refine im_aast (q := 98) D121_97 ha0.2.2.2.1 (Or.inl rfl) hp2.1 rfl hg7.1 hg7.2 (Nat.le_trans ha0.2.2.2.2.2 (by decide)) ?_
    exact im_vret (q := 99) D121_98 rfl hP
  · replace hP := hP.2 (Int.not_le.mp hc3)
    refine im_ld (q := 41) (i := 0) D121_40 rfl rfl rfl ?_
    refine im_gfR (q := 44) (b := (a0 + 3)) D121_41 (im_fl cn_121 fl_0_18) ha0.1 rfl rfl tR_0_0 rfl ?_
    refine im_ld (q := 45) (i := 3) D121_44 rfl rfl rfl ?_
    refine im_ld (q := 46) (i := 0) D121_45 rfl rfl rfl ?_
    refine im_gfR (q := 49) (b := (a0 + 3)) D121_46 (im_fl cn_121 fl_0_18) ha0.1 rfl rfl tR_0_0 rfl ?_
    refine im_ld (q := 50) (i := 3) D121_49 rfl rfl rfl ?_
    refine im_iconst (q := 51) D121_50 ?_
    refine im_iadd (q := 52) D121_51 ?_
    obtain ⟨hg5, hP⟩ := hP
    refine im_rng (j := (p3 + 1)) ha0.2.1 hg5.1 hg5.2 (fun hr6 => ?_)
    refine im_lald (q := 53) D121_52 ha0.2.1 hg5.1 hg5.2 (Nat.le_trans ha0.2.2.2.2.2 (by decide)) rfl ?_
    obtain ⟨hg8, hP⟩ := hP
    refine im_last (q := 54) D121_53 ha0.2.1 hg8.1 hg8.2 (Nat.le_trans ha0.2.2.2.2.2 (by decide)) hr6 ?_
    refine im_ld (q := 55) (i := 0) D121_54 rfl rfl rfl ?_
    refine im_gfR (q := 58) (b := (a0 + 4)) D121_55 (im_fl cn_121 fl_0_22) ha0.1 rfl rfl tR_0_1 rfl ?_
    refine im_ld (q := 59) (i := 3) D121_58 rfl rfl rfl ?_
    refine im_ld (q := 60) (i := 0) D121_59 rfl rfl rfl ?_
    refine im_gfR (q := 63) (b := (a0 + 4)) D121_60 (im_fl cn_121 fl_0_22) ha0.1 rfl rfl tR_0_1 rfl ?_
    refine im_ld (q := 64) (i := 3) D121_63 rfl rfl rfl ?_
    refine im_iconst (q := 65) D121_64 ?_
    refine im_iadd (q := 66) D121_65 ?_
    refine im_rng (j := (p3 + 1)) ha0.2.2.1 hg5.1 hg5.2 (fun hr9 => ?_)
    refine im_lald (q := 67) D121_66 ha0.2.2.1 hg5.1 hg5.2 (Nat.le_trans ha0.2.2.2.2.2 (by decide)) rfl ?_
    refine im_last (q := 68) D121_67 ha0.2.2.1 hg8.1 hg8.2 (Nat.le_trans ha0.2.2.2.2.2 (by decide)) hr9 ?_
    refine im_ld (q := 69) (i := 0) D121_68 rfl rfl rfl ?_
    refine im_gfR (q := 72) (b := (a0 + 5)) D121_69 (im_fl cn_121 fl_0_25) ha0.1 rfl rfl tR_0_2 rfl ?_
    refine im_ld (q := 73) (i := 3) D121_72 rfl rfl rfl ?_
    refine im_ld (q := 74) (i := 0) D121_73 rfl rfl rfl ?_
    refine im_gfR (q := 77) (b := (a0 + 5)) D121_74 (im_fl cn_121 fl_0_25) ha0.1 rfl rfl tR_0_2 rfl ?_
    refine im_ld (q := 78) (i := 3) D121_77 rfl rfl rfl ?_
    refine im_iconst (q := 79) D121_78 ?_
    refine im_iadd (q := 80) D121_79 ?_
    obtain ⟨b10, hb11, hP⟩ := hP
    obtain ⟨hb12, hP⟩ := hP
    refine im_aald (q := 81) D121_80 ha0.2.2.2.1 (Or.inl rfl) hg5.1 hg5.2 (Nat.le_trans ha0.2.2.2.2.2 (by decide)) hb11 ?_
    refine im_aast (q := 82) D121_81 ha0.2.2.2.1 (Or.inl rfl) hb12.1 rfl hg8.1 hg8.2 (Nat.le_trans ha0.2.2.2.2.2 (by decide)) ?_
    refine im_iinc (q := 85) (i := 3) (L' := [some (.ref a0), none, some (.ref p2), some (vI (p3 + 1))]) D121_82 rfl (Nat.le_of_ble_eq_true rfl) rfl ?_
    refine im_goto (q := 88) (t := 32) D121_85 rfl ?_
    exact hP.wk ⟨rfl, rfl, rfl, trivial⟩

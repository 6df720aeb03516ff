/-! blocks of the reference -/
theorem D416_0 {g : im_g} : im_D g 416 0 (.aload_n 0) 1 := im_D.of (by decide +kernel)
theorem D416_1 {g : im_g} : im_D g 416 1 (.aload_n 0) 2 := im_D.of (by decide +kernel)
theorem D416_2 {g : im_g} : im_D g 416 2 (.getfield 971) 5 := im_D.of (by decide +kernel)
theorem D416_5 {g : im_g} : im_D g 416 5 (.putfield 1035) 8 := im_D.of (by decide +kernel)
theorem D416_8 {g : im_g} : im_D g 416 8 (.iconst 0) 9 := im_D.of (by decide +kernel)
theorem D416_9 {g : im_g} : im_D g 416 9 (.istore_n 1) 10 := im_D.of (by decide +kernel)
theorem D416_10 {g : im_g} : im_D g 416 10 (.iload_n 1) 11 := im_D.of (by decide +kernel)
theorem D416_11 {g : im_g} : im_D g 416 11 (.aload_n 0) 12 := im_D.of (by decide +kernel)
theorem D416_12 {g : im_g} : im_D g 416 12 (.getfield 971) 15 := im_D.of (by decide +kernel)
theorem D416_15 {g : im_g} : im_D g 416 15 (.if_icmp .ge 72) 18 := im_D.of (by decide +kernel)
theorem D416_18 {g : im_g} : im_D g 416 18 (.aload_n 0) 19 := im_D.of (by decide +kernel)
theorem D416_19 {g : im_g} : im_D g 416 19 (.getfield 297) 22 := im_D.of (by decide +kernel)
theorem D416_22 {g : im_g} : im_D g 416 22 (.iload_n 1) 23 := im_D.of (by decide +kernel)
theorem D416_23 {g : im_g} : im_D g 416 23 (.aload_n 0) 24 := im_D.of (by decide +kernel)
theorem D416_24 {g : im_g} : im_D g 416 24 (.getfield 219) 27 := im_D.of (by decide +kernel)
theorem D416_27 {g : im_g} : im_D g 416 27 (.iload_n 1) 28 := im_D.of (by decide +kernel)
theorem D416_28 {g : im_g} : im_D g 416 28 (.iaload) 29 := im_D.of (by decide +kernel)
theorem D416_29 {g : im_g} : im_D g 416 29 (.iastore) 30 := im_D.of (by decide +kernel)
theorem D416_30 {g : im_g} : im_D g 416 30 (.aload_n 0) 31 := im_D.of (by decide +kernel)
theorem D416_31 {g : im_g} : im_D g 416 31 (.getfield 300) 34 := im_D.of (by decide +kernel)
theorem D416_34 {g : im_g} : im_D g 416 34 (.iload_n 1) 35 := im_D.of (by decide +kernel)
theorem D416_35 {g : im_g} : im_D g 416 35 (.aload_n 0) 36 := im_D.of (by decide +kernel)
theorem D416_36 {g : im_g} : im_D g 416 36 (.getfield 222) 39 := im_D.of (by decide +kernel)
theorem D416_39 {g : im_g} : im_D g 416 39 (.iload_n 1) 40 := im_D.of (by decide +kernel)
theorem D416_40 {g : im_g} : im_D g 416 40 (.laload) 41 := im_D.of (by decide +kernel)
theorem D416_41 {g : im_g} : im_D g 416 41 (.lastore) 42 := im_D.of (by decide +kernel)
theorem D416_42 {g : im_g} : im_D g 416 42 (.aload_n 0) 43 := im_D.of (by decide +kernel)
theorem D416_43 {g : im_g} : im_D g 416 43 (.getfield 303) 46 := im_D.of (by decide +kernel)
theorem D416_46 {g : im_g} : im_D g 416 46 (.iload_n 1) 47 := im_D.of (by decide +kernel)
theorem D416_47 {g : im_g} : im_D g 416 47 (.aload_n 0) 48 := im_D.of (by decide +kernel)
theorem D416_48 {g : im_g} : im_D g 416 48 (.getfield 225) 51 := im_D.of (by decide +kernel)
theorem D416_51 {g : im_g} : im_D g 416 51 (.iload_n 1) 52 := im_D.of (by decide +kernel)
theorem D416_52 {g : im_g} : im_D g 416 52 (.laload) 53 := im_D.of (by decide +kernel)
theorem D416_53 {g : im_g} : im_D g 416 53 (.lastore) 54 := im_D.of (by decide +kernel)
theorem D416_54 {g : im_g} : im_D g 416 54 (.aload_n 0) 55 := im_D.of (by decide +kernel)
theorem D416_55 {g : im_g} : im_D g 416 55 (.getfield 306) 58 := im_D.of (by decide +kernel)
theorem D416_58 {g : im_g} : im_D g 416 58 (.iload_n 1) 59 := im_D.of (by decide +kernel)
theorem D416_59 {g : im_g} : im_D g 416 59 (.aload_n 0) 60 := im_D.of (by decide +kernel)
theorem D416_60 {g : im_g} : im_D g 416 60 (.getfield 228) 63 := im_D.of (by decide +kernel)
theorem D416_63 {g : im_g} : im_D g 416 63 (.iload_n 1) 64 := im_D.of (by decide +kernel)
theorem D416_64 {g : im_g} : im_D g 416 64 (.laload) 65 := im_D.of (by decide +kernel)
theorem D416_65 {g : im_g} : im_D g 416 65 (.lastore) 66 := im_D.of (by decide +kernel)
theorem D416_66 {g : im_g} : im_D g 416 66 (.aload_n 0) 67 := im_D.of (by decide +kernel)
theorem D416_67 {g : im_g} : im_D g 416 67 (.aload_n 0) 68 := im_D.of (by decide +kernel)
theorem D416_68 {g : im_g} : im_D g 416 68 (.getfield 309) 71 := im_D.of (by decide +kernel)
theorem D416_71 {g : im_g} : im_D g 416 71 (.iload_n 1) 72 := im_D.of (by decide +kernel)
theorem D416_72 {g : im_g} : im_D g 416 72 (.aload_n 0) 73 := im_D.of (by decide +kernel)
theorem D416_73 {g : im_g} : im_D g 416 73 (.getfield 231) 76 := im_D.of (by decide +kernel)
theorem D416_76 {g : im_g} : im_D g 416 76 (.iload_n 1) 77 := im_D.of (by decide +kernel)
theorem D416_77 {g : im_g} : im_D g 416 77 (.iaload) 78 := im_D.of (by decide +kernel)
theorem D416_78 {g : im_g} : im_D g 416 78 (.invokevirtual 816) 81 := im_D.of (by decide +kernel)
theorem D416_81 {g : im_g} : im_D g 416 81 (.iinc 1 1) 84 := im_D.of (by decide +kernel)
theorem D416_84 {g : im_g} : im_D g 416 84 (.goto (-74)) 87 := im_D.of (by decide +kernel)
theorem D416_87 {g : im_g} : im_D g 416 87 (.aload_n 0) 88 := im_D.of (by decide +kernel)
theorem D416_88 {g : im_g} : im_D g 416 88 (.aload_n 0) 89 := im_D.of (by decide +kernel)
theorem D416_89 {g : im_g} : im_D g 416 89 (.getfield 981) 92 := im_D.of (by decide +kernel)
theorem D416_92 {g : im_g} : im_D g 416 92 (.putfield 1038) 95 := im_D.of (by decide +kernel)
theorem D416_95 {g : im_g} : im_D g 416 95 (.iconst 0) 96 := im_D.of (by decide +kernel)
theorem D416_96 {g : im_g} : im_D g 416 96 (.istore_n 1) 97 := im_D.of (by decide +kernel)
theorem D416_97 {g : im_g} : im_D g 416 97 (.iload_n 1) 98 := im_D.of (by decide +kernel)
theorem D416_98 {g : im_g} : im_D g 416 98 (.aload_n 0) 99 := im_D.of (by decide +kernel)
theorem D416_99 {g : im_g} : im_D g 416 99 (.getfield 981) 102 := im_D.of (by decide +kernel)
theorem D416_102 {g : im_g} : im_D g 416 102 (.if_icmp .ge 82) 105 := im_D.of (by decide +kernel)
theorem D416_105 {g : im_g} : im_D g 416 105 (.aload_n 0) 106 := im_D.of (by decide +kernel)
theorem D416_106 {g : im_g} : im_D g 416 106 (.getfield 312) 109 := im_D.of (by decide +kernel)
theorem D416_109 {g : im_g} : im_D g 416 109 (.iload_n 1) 110 := im_D.of (by decide +kernel)
theorem D416_110 {g : im_g} : im_D g 416 110 (.aload_n 0) 111 := im_D.of (by decide +kernel)
theorem D416_111 {g : im_g} : im_D g 416 111 (.getfield 234) 114 := im_D.of (by decide +kernel)
theorem D416_114 {g : im_g} : im_D g 416 114 (.iload_n 1) 115 := im_D.of (by decide +kernel)
theorem D416_115 {g : im_g} : im_D g 416 115 (.iaload) 116 := im_D.of (by decide +kernel)
theorem D416_116 {g : im_g} : im_D g 416 116 (.iastore) 117 := im_D.of (by decide +kernel)
theorem D416_117 {g : im_g} : im_D g 416 117 (.aload_n 0) 118 := im_D.of (by decide +kernel)
theorem D416_118 {g : im_g} : im_D g 416 118 (.getfield 315) 121 := im_D.of (by decide +kernel)
theorem D416_121 {g : im_g} : im_D g 416 121 (.iload_n 1) 122 := im_D.of (by decide +kernel)
theorem D416_122 {g : im_g} : im_D g 416 122 (.aload_n 0) 123 := im_D.of (by decide +kernel)
theorem D416_123 {g : im_g} : im_D g 416 123 (.getfield 237) 126 := im_D.of (by decide +kernel)
theorem D416_126 {g : im_g} : im_D g 416 126 (.iload_n 1) 127 := im_D.of (by decide +kernel)
theorem D416_127 {g : im_g} : im_D g 416 127 (.laload) 128 := im_D.of (by decide +kernel)
theorem D416_128 {g : im_g} : im_D g 416 128 (.lastore) 129 := im_D.of (by decide +kernel)
theorem D416_129 {g : im_g} : im_D g 416 129 (.aload_n 0) 130 := im_D.of (by decide +kernel)
theorem D416_130 {g : im_g} : im_D g 416 130 (.getfield 318) 133 := im_D.of (by decide +kernel)
theorem D416_133 {g : im_g} : im_D g 416 133 (.iload_n 1) 134 := im_D.of (by decide +kernel)
theorem D416_134 {g : im_g} : im_D g 416 134 (.aload_n 0) 135 := im_D.of (by decide +kernel)
theorem D416_135 {g : im_g} : im_D g 416 135 (.getfield 240) 138 := im_D.of (by decide +kernel)
theorem D416_138 {g : im_g} : im_D g 416 138 (.iload_n 1) 139 := im_D.of (by decide +kernel)
theorem D416_139 {g : im_g} : im_D g 416 139 (.laload) 140 := im_D.of (by decide +kernel)
theorem D416_140 {g : im_g} : im_D g 416 140 (.lastore) 141 := im_D.of (by decide +kernel)
theorem D416_141 {g : im_g} : im_D g 416 141 (.aload_n 0) 142 := im_D.of (by decide +kernel)
theorem D416_142 {g : im_g} : im_D g 416 142 (.getfield 321) 145 := im_D.of (by decide +kernel)
theorem D416_145 {g : im_g} : im_D g 416 145 (.iload_n 1) 146 := im_D.of (by decide +kernel)
theorem D416_146 {g : im_g} : im_D g 416 146 (.aload_n 0) 147 := im_D.of (by decide +kernel)
theorem D416_147 {g : im_g} : im_D g 416 147 (.getfield 243) 150 := im_D.of (by decide +kernel)
theorem D416_150 {g : im_g} : im_D g 416 150 (.iload_n 1) 151 := im_D.of (by decide +kernel)
theorem D416_151 {g : im_g} : im_D g 416 151 (.laload) 152 := im_D.of (by decide +kernel)
theorem D416_152 {g : im_g} : im_D g 416 152 (.lastore) 153 := im_D.of (by decide +kernel)
theorem D416_153 {g : im_g} : im_D g 416 153 (.aload_n 0) 154 := im_D.of (by decide +kernel)
theorem D416_154 {g : im_g} : im_D g 416 154 (.getfield 246) 157 := im_D.of (by decide +kernel)
theorem D416_157 {g : im_g} : im_D g 416 157 (.iload_n 1) 158 := im_D.of (by decide +kernel)
theorem D416_158 {g : im_g} : im_D g 416 158 (.iaload) 159 := im_D.of (by decide +kernel)
theorem D416_159 {g : im_g} : im_D g 416 159 (.iconst (-1)) 160 := im_D.of (by decide +kernel)
theorem D416_160 {g : im_g} : im_D g 416 160 (.if_icmp .eq 18) 163 := im_D.of (by decide +kernel)
theorem D416_163 {g : im_g} : im_D g 416 163 (.aload_n 0) 164 := im_D.of (by decide +kernel)
theorem D416_164 {g : im_g} : im_D g 416 164 (.aload_n 0) 165 := im_D.of (by decide +kernel)
theorem D416_165 {g : im_g} : im_D g 416 165 (.getfield 324) 168 := im_D.of (by decide +kernel)
theorem D416_168 {g : im_g} : im_D g 416 168 (.iload_n 1) 169 := im_D.of (by decide +kernel)
theorem D416_169 {g : im_g} : im_D g 416 169 (.aload_n 0) 170 := im_D.of (by decide +kernel)
theorem D416_170 {g : im_g} : im_D g 416 170 (.getfield 246) 173 := im_D.of (by decide +kernel)
theorem D416_173 {g : im_g} : im_D g 416 173 (.iload_n 1) 174 := im_D.of (by decide +kernel)
theorem D416_174 {g : im_g} : im_D g 416 174 (.iaload) 175 := im_D.of (by decide +kernel)
theorem D416_175 {g : im_g} : im_D g 416 175 (.invokevirtual 816) 178 := im_D.of (by decide +kernel)
theorem D416_178 {g : im_g} : im_D g 416 178 (.iinc 1 1) 181 := im_D.of (by decide +kernel)
theorem D416_181 {g : im_g} : im_D g 416 181 (.goto (-84)) 184 := im_D.of (by decide +kernel)
theorem D416_184 {g : im_g} : im_D g 416 184 (.return_) 185 := im_D.of (by decide +kernel)
theorem D417_0 {g : im_g} : im_D g 417 0 (.aload_n 0) 1 := im_D.of (by decide +kernel)
theorem D417_1 {g : im_g} : im_D g 417 1 (.iconst 2) 2 := im_D.of (by decide +kernel)
theorem D417_2 {g : im_g} : im_D g 417 2 (.iload_n 1) 3 := im_D.of (by decide +kernel)
theorem D417_3 {g : im_g} : im_D g 417 3 (.i2l) 4 := im_D.of (by decide +kernel)
theorem D417_4 {g : im_g} : im_D g 417 4 (.lconst 0) 5 := im_D.of (by decide +kernel)
theorem D417_5 {g : im_g} : im_D g 417 5 (.lconst 1) 6 := im_D.of (by decide +kernel)
theorem D417_6 {g : im_g} : im_D g 417 6 (.invokestatic 428) 9 := im_D.of (by decide +kernel)
theorem D417_9 {g : im_g} : im_D g 417 9 (.iconst 1) 10 := im_D.of (by decide +kernel)
theorem D417_10 {g : im_g} : im_D g 417 10 (.iconst 1) 11 := im_D.of (by decide +kernel)
theorem D417_11 {g : im_g} : im_D g 417 11 (.invokevirtual 419) 14 := im_D.of (by decide +kernel)
theorem D417_14 {g : im_g} : im_D g 417 14 (.ifCond .ne 5) 17 := im_D.of (by decide +kernel)
theorem D417_17 {g : im_g} : im_D g 417 17 (.iconst 0) 18 := im_D.of (by decide +kernel)
theorem D417_18 {g : im_g} : im_D g 417 18 (.ireturn) 19 := im_D.of (by decide +kernel)
theorem D417_19 {g : im_g} : im_D g 417 19 (.iload_n 1) 20 := im_D.of (by decide +kernel)
theorem D417_20 {g : im_g} : im_D g 417 20 (.ifCond .ne 10) 23 := im_D.of (by decide +kernel)
theorem D417_23 {g : im_g} : im_D g 417 23 (.aload_n 0) 24 := im_D.of (by decide +kernel)
theorem D417_24 {g : im_g} : im_D g 417 24 (.getfield 1035) 27 := im_D.of (by decide +kernel)
theorem D417_27 {g : im_g} : im_D g 417 27 (.goto 7) 30 := im_D.of (by decide +kernel)
theorem D417_30 {g : im_g} : im_D g 417 30 (.aload_n 0) 31 := im_D.of (by decide +kernel)
theorem D417_31 {g : im_g} : im_D g 417 31 (.getfield 1038) 34 := im_D.of (by decide +kernel)
theorem D417_34 {g : im_g} : im_D g 417 34 (.ireturn) 35 := im_D.of (by decide +kernel)
theorem D418_0 {g : im_g} : im_D g 418 0 (.aload_n 0) 1 := im_D.of (by decide +kernel)
theorem D418_1 {g : im_g} : im_D g 418 1 (.iconst 3) 2 := im_D.of (by decide +kernel)
theorem D418_2 {g : im_g} : im_D g 418 2 (.iload_n 1) 3 := im_D.of (by decide +kernel)
theorem D418_3 {g : im_g} : im_D g 418 3 (.i2l) 4 := im_D.of (by decide +kernel)
theorem D418_4 {g : im_g} : im_D g 418 4 (.lconst 0) 5 := im_D.of (by decide +kernel)
theorem D418_5 {g : im_g} : im_D g 418 5 (.aload_n 0) 6 := im_D.of (by decide +kernel)
theorem D418_6 {g : im_g} : im_D g 418 6 (.getfield 1035) 9 := im_D.of (by decide +kernel)
theorem D418_9 {g : im_g} : im_D g 418 9 (.iconst 1) 10 := im_D.of (by decide +kernel)
theorem D418_10 {g : im_g} : im_D g 418 10 (.isub) 11 := im_D.of (by decide +kernel)
theorem D418_11 {g : im_g} : im_D g 418 11 (.i2l) 12 := im_D.of (by decide +kernel)
theorem D418_12 {g : im_g} : im_D g 418 12 (.invokestatic 428) 15 := im_D.of (by decide +kernel)
theorem D418_15 {g : im_g} : im_D g 418 15 (.iload_n 2) 16 := im_D.of (by decide +kernel)
theorem D418_16 {g : im_g} : im_D g 418 16 (.i2l) 17 := im_D.of (by decide +kernel)
theorem D418_17 {g : im_g} : im_D g 418 17 (.lconst 0) 18 := im_D.of (by decide +kernel)
theorem D418_18 {g : im_g} : im_D g 418 18 (.ldc2_w 1069) 21 := im_D.of (by decide +kernel)
theorem D418_21 {g : im_g} : im_D g 418 21 (.invokestatic 428) 24 := im_D.of (by decide +kernel)
theorem D418_24 {g : im_g} : im_D g 418 24 (.iconst 1) 25 := im_D.of (by decide +kernel)
theorem D418_25 {g : im_g} : im_D g 418 25 (.invokevirtual 419) 28 := im_D.of (by decide +kernel)
theorem D418_28 {g : im_g} : im_D g 418 28 (.ifCond .ne 5) 31 := im_D.of (by decide +kernel)
theorem D418_31 {g : im_g} : im_D g 418 31 (.lconst 0) 32 := im_D.of (by decide +kernel)
theorem D418_32 {g : im_g} : im_D g 418 32 (.lreturn) 33 := im_D.of (by decide +kernel)
theorem D418_33 {g : im_g} : im_D g 418 33 (.iload_n 2) 34 := im_D.of (by decide +kernel)
theorem D418_34 {g : im_g} : im_D g 418 34 (.ifCond .ne 13) 37 := im_D.of (by decide +kernel)
theorem D418_37 {g : im_g} : im_D g 418 37 (.aload_n 0) 38 := im_D.of (by decide +kernel)
theorem D418_38 {g : im_g} : im_D g 418 38 (.getfield 297) 41 := im_D.of (by decide +kernel)
theorem D418_41 {g : im_g} : im_D g 418 41 (.iload_n 1) 42 := im_D.of (by decide +kernel)
theorem D418_42 {g : im_g} : im_D g 418 42 (.iaload) 43 := im_D.of (by decide +kernel)
theorem D418_43 {g : im_g} : im_D g 418 43 (.i2l) 44 := im_D.of (by decide +kernel)
theorem D418_44 {g : im_g} : im_D g 418 44 (.goto 37) 47 := im_D.of (by decide +kernel)
theorem D418_47 {g : im_g} : im_D g 418 47 (.iload_n 2) 48 := im_D.of (by decide +kernel)
theorem D418_48 {g : im_g} : im_D g 418 48 (.iconst 1) 49 := im_D.of (by decide +kernel)
theorem D418_49 {g : im_g} : im_D g 418 49 (.if_icmp .ne 12) 52 := im_D.of (by decide +kernel)
theorem D418_52 {g : im_g} : im_D g 418 52 (.aload_n 0) 53 := im_D.of (by decide +kernel)
theorem D418_53 {g : im_g} : im_D g 418 53 (.getfield 300) 56 := im_D.of (by decide +kernel)
theorem D418_56 {g : im_g} : im_D g 418 56 (.iload_n 1) 57 := im_D.of (by decide +kernel)
theorem D418_57 {g : im_g} : im_D g 418 57 (.laload) 58 := im_D.of (by decide +kernel)
theorem D418_58 {g : im_g} : im_D g 418 58 (.goto 23) 61 := im_D.of (by decide +kernel)
theorem D418_61 {g : im_g} : im_D g 418 61 (.iload_n 2) 62 := im_D.of (by decide +kernel)
theorem D418_62 {g : im_g} : im_D g 418 62 (.iconst 2) 63 := im_D.of (by decide +kernel)
theorem D418_63 {g : im_g} : im_D g 418 63 (.if_icmp .ne 12) 66 := im_D.of (by decide +kernel)
theorem D418_66 {g : im_g} : im_D g 418 66 (.aload_n 0) 67 := im_D.of (by decide +kernel)
theorem D418_67 {g : im_g} : im_D g 418 67 (.getfield 303) 70 := im_D.of (by decide +kernel)
theorem D418_70 {g : im_g} : im_D g 418 70 (.iload_n 1) 71 := im_D.of (by decide +kernel)
theorem D418_71 {g : im_g} : im_D g 418 71 (.laload) 72 := im_D.of (by decide +kernel)
theorem D418_72 {g : im_g} : im_D g 418 72 (.goto 9) 75 := im_D.of (by decide +kernel)
theorem D418_75 {g : im_g} : im_D g 418 75 (.aload_n 0) 76 := im_D.of (by decide +kernel)
theorem D418_76 {g : im_g} : im_D g 418 76 (.getfield 306) 79 := im_D.of (by decide +kernel)
theorem D418_79 {g : im_g} : im_D g 418 79 (.iload_n 1) 80 := im_D.of (by decide +kernel)
theorem D418_80 {g : im_g} : im_D g 418 80 (.laload) 81 := im_D.of (by decide +kernel)
theorem D418_81 {g : im_g} : im_D g 418 81 (.lreturn) 82 := im_D.of (by decide +kernel)
theorem D419_0 {g : im_g} : im_D g 419 0 (.aload_n 0) 1 := im_D.of (by decide +kernel)
theorem D419_1 {g : im_g} : im_D g 419 1 (.iconst 2) 2 := im_D.of (by decide +kernel)
theorem D419_2 {g : im_g} : im_D g 419 2 (.iload_n 1) 3 := im_D.of (by decide +kernel)
theorem D419_3 {g : im_g} : im_D g 419 3 (.i2l) 4 := im_D.of (by decide +kernel)
theorem D419_4 {g : im_g} : im_D g 419 4 (.lconst 0) 5 := im_D.of (by decide +kernel)
theorem D419_5 {g : im_g} : im_D g 419 5 (.iload_n 2) 6 := im_D.of (by decide +kernel)
theorem D419_6 {g : im_g} : im_D g 419 6 (.ifCond .eq 10) 9 := im_D.of (by decide +kernel)
theorem D419_9 {g : im_g} : im_D g 419 9 (.aload_n 0) 10 := im_D.of (by decide +kernel)
theorem D419_10 {g : im_g} : im_D g 419 10 (.getfield 1038) 13 := im_D.of (by decide +kernel)
theorem D419_13 {g : im_g} : im_D g 419 13 (.goto 7) 16 := im_D.of (by decide +kernel)
theorem D419_16 {g : im_g} : im_D g 419 16 (.aload_n 0) 17 := im_D.of (by decide +kernel)
theorem D419_17 {g : im_g} : im_D g 419 17 (.getfield 1035) 20 := im_D.of (by decide +kernel)
theorem D419_20 {g : im_g} : im_D g 419 20 (.iconst 1) 21 := im_D.of (by decide +kernel)
theorem D419_21 {g : im_g} : im_D g 419 21 (.isub) 22 := im_D.of (by decide +kernel)
theorem D419_22 {g : im_g} : im_D g 419 22 (.i2l) 23 := im_D.of (by decide +kernel)
theorem D419_23 {g : im_g} : im_D g 419 23 (.invokestatic 428) 26 := im_D.of (by decide +kernel)
theorem D419_26 {g : im_g} : im_D g 419 26 (.iconst 1) 27 := im_D.of (by decide +kernel)
theorem D419_27 {g : im_g} : im_D g 419 27 (.iconst 1) 28 := im_D.of (by decide +kernel)
theorem D419_28 {g : im_g} : im_D g 419 28 (.invokevirtual 419) 31 := im_D.of (by decide +kernel)
theorem D419_31 {g : im_g} : im_D g 419 31 (.ifCond .ne 5) 34 := im_D.of (by decide +kernel)
theorem D419_34 {g : im_g} : im_D g 419 34 (.iconst 0) 35 := im_D.of (by decide +kernel)
theorem D419_35 {g : im_g} : im_D g 419 35 (.ireturn) 36 := im_D.of (by decide +kernel)
theorem D419_36 {g : im_g} : im_D g 419 36 (.aload_n 0) 37 := im_D.of (by decide +kernel)
theorem D419_37 {g : im_g} : im_D g 419 37 (.iconst 0) 38 := im_D.of (by decide +kernel)
theorem D419_38 {g : im_g} : im_D g 419 38 (.putfield 423) 41 := im_D.of (by decide +kernel)
theorem D419_41 {g : im_g} : im_D g 419 41 (.aload_n 0) 42 := im_D.of (by decide +kernel)
theorem D419_42 {g : im_g} : im_D g 419 42 (.aload_n 0) 43 := im_D.of (by decide +kernel)
theorem D419_43 {g : im_g} : im_D g 419 43 (.getfield 617) 46 := im_D.of (by decide +kernel)
theorem D419_46 {g : im_g} : im_D g 419 46 (.putfield 449) 49 := im_D.of (by decide +kernel)
theorem D419_49 {g : im_g} : im_D g 419 49 (.iload_n 2) 50 := im_D.of (by decide +kernel)
theorem D419_50 {g : im_g} : im_D g 419 50 (.ifCond .ne 19) 53 := im_D.of (by decide +kernel)
theorem D419_53 {g : im_g} : im_D g 419 53 (.aload_n 0) 54 := im_D.of (by decide +kernel)
theorem D419_54 {g : im_g} : im_D g 419 54 (.aload_n 0) 55 := im_D.of (by decide +kernel)
theorem D419_55 {g : im_g} : im_D g 419 55 (.aload_n 0) 56 := im_D.of (by decide +kernel)
theorem D419_56 {g : im_g} : im_D g 419 56 (.getfield 309) 59 := im_D.of (by decide +kernel)
theorem D419_59 {g : im_g} : im_D g 419 59 (.iload_n 1) 60 := im_D.of (by decide +kernel)
theorem D419_60 {g : im_g} : im_D g 419 60 (.invokevirtual 825) 63 := im_D.of (by decide +kernel)
theorem D419_63 {g : im_g} : im_D g 419 63 (.invokevirtual 756) 66 := im_D.of (by decide +kernel)
theorem D419_66 {g : im_g} : im_D g 419 66 (.goto 26) 69 := im_D.of (by decide +kernel)
theorem D419_69 {g : im_g} : im_D g 419 69 (.aload_n 0) 70 := im_D.of (by decide +kernel)
theorem D419_70 {g : im_g} : im_D g 419 70 (.getfield 312) 73 := im_D.of (by decide +kernel)
theorem D419_73 {g : im_g} : im_D g 419 73 (.iload_n 1) 74 := im_D.of (by decide +kernel)
theorem D419_74 {g : im_g} : im_D g 419 74 (.iaload) 75 := im_D.of (by decide +kernel)
theorem D419_75 {g : im_g} : im_D g 419 75 (.iconst 5) 76 := im_D.of (by decide +kernel)
theorem D419_76 {g : im_g} : im_D g 419 76 (.if_icmp .ge 16) 79 := im_D.of (by decide +kernel)
theorem D419_79 {g : im_g} : im_D g 419 79 (.aload_n 0) 80 := im_D.of (by decide +kernel)
theorem D419_80 {g : im_g} : im_D g 419 80 (.aload_n 0) 81 := im_D.of (by decide +kernel)
theorem D419_81 {g : im_g} : im_D g 419 81 (.aload_n 0) 82 := im_D.of (by decide +kernel)
theorem D419_82 {g : im_g} : im_D g 419 82 (.getfield 324) 85 := im_D.of (by decide +kernel)
theorem D419_85 {g : im_g} : im_D g 419 85 (.iload_n 1) 86 := im_D.of (by decide +kernel)
theorem D419_86 {g : im_g} : im_D g 419 86 (.invokevirtual 825) 89 := im_D.of (by decide +kernel)
theorem D419_89 {g : im_g} : im_D g 419 89 (.invokevirtual 756) 92 := im_D.of (by decide +kernel)
theorem D419_92 {g : im_g} : im_D g 419 92 (.aload_n 0) 93 := im_D.of (by decide +kernel)
theorem D419_93 {g : im_g} : im_D g 419 93 (.getfield 423) 96 := im_D.of (by decide +kernel)
theorem D419_96 {g : im_g} : im_D g 419 96 (.ireturn) 97 := im_D.of (by decide +kernel)
theorem D420_0 {g : im_g} : im_D g 420 0 (.aload_n 0) 1 := im_D.of (by decide +kernel)
theorem D420_1 {g : im_g} : im_D g 420 1 (.iconst 3) 2 := im_D.of (by decide +kernel)
theorem D420_2 {g : im_g} : im_D g 420 2 (.iload_n 1) 3 := im_D.of (by decide +kernel)
theorem D420_3 {g : im_g} : im_D g 420 3 (.i2l) 4 := im_D.of (by decide +kernel)
theorem D420_4 {g : im_g} : im_D g 420 4 (.lconst 0) 5 := im_D.of (by decide +kernel)
theorem D420_5 {g : im_g} : im_D g 420 5 (.aload_n 0) 6 := im_D.of (by decide +kernel)
theorem D420_6 {g : im_g} : im_D g 420 6 (.getfield 1038) 9 := im_D.of (by decide +kernel)
theorem D420_9 {g : im_g} : im_D g 420 9 (.iconst 1) 10 := im_D.of (by decide +kernel)
theorem D420_10 {g : im_g} : im_D g 420 10 (.isub) 11 := im_D.of (by decide +kernel)
theorem D420_11 {g : im_g} : im_D g 420 11 (.i2l) 12 := im_D.of (by decide +kernel)
theorem D420_12 {g : im_g} : im_D g 420 12 (.invokestatic 428) 15 := im_D.of (by decide +kernel)
theorem D420_15 {g : im_g} : im_D g 420 15 (.iload_n 2) 16 := im_D.of (by decide +kernel)
theorem D420_16 {g : im_g} : im_D g 420 16 (.i2l) 17 := im_D.of (by decide +kernel)
theorem D420_17 {g : im_g} : im_D g 420 17 (.lconst 0) 18 := im_D.of (by decide +kernel)
theorem D420_18 {g : im_g} : im_D g 420 18 (.ldc2_w 1069) 21 := im_D.of (by decide +kernel)
theorem D420_21 {g : im_g} : im_D g 420 21 (.invokestatic 428) 24 := im_D.of (by decide +kernel)
theorem D420_24 {g : im_g} : im_D g 420 24 (.iconst 1) 25 := im_D.of (by decide +kernel)
theorem D420_25 {g : im_g} : im_D g 420 25 (.invokevirtual 419) 28 := im_D.of (by decide +kernel)
theorem D420_28 {g : im_g} : im_D g 420 28 (.ifCond .ne 5) 31 := im_D.of (by decide +kernel)
theorem D420_31 {g : im_g} : im_D g 420 31 (.lconst 0) 32 := im_D.of (by decide +kernel)
theorem D420_32 {g : im_g} : im_D g 420 32 (.lreturn) 33 := im_D.of (by decide +kernel)
theorem D420_33 {g : im_g} : im_D g 420 33 (.iload_n 2) 34 := im_D.of (by decide +kernel)
theorem D420_34 {g : im_g} : im_D g 420 34 (.ifCond .ne 13) 37 := im_D.of (by decide +kernel)
theorem D420_37 {g : im_g} : im_D g 420 37 (.aload_n 0) 38 := im_D.of (by decide +kernel)
theorem D420_38 {g : im_g} : im_D g 420 38 (.getfield 312) 41 := im_D.of (by decide +kernel)
theorem D420_41 {g : im_g} : im_D g 420 41 (.iload_n 1) 42 := im_D.of (by decide +kernel)
theorem D420_42 {g : im_g} : im_D g 420 42 (.iaload) 43 := im_D.of (by decide +kernel)
theorem D420_43 {g : im_g} : im_D g 420 43 (.i2l) 44 := im_D.of (by decide +kernel)
theorem D420_44 {g : im_g} : im_D g 420 44 (.goto 37) 47 := im_D.of (by decide +kernel)
theorem D420_47 {g : im_g} : im_D g 420 47 (.iload_n 2) 48 := im_D.of (by decide +kernel)
theorem D420_48 {g : im_g} : im_D g 420 48 (.iconst 1) 49 := im_D.of (by decide +kernel)
theorem D420_49 {g : im_g} : im_D g 420 49 (.if_icmp .ne 12) 52 := im_D.of (by decide +kernel)
theorem D420_52 {g : im_g} : im_D g 420 52 (.aload_n 0) 53 := im_D.of (by decide +kernel)
theorem D420_53 {g : im_g} : im_D g 420 53 (.getfield 315) 56 := im_D.of (by decide +kernel)
theorem D420_56 {g : im_g} : im_D g 420 56 (.iload_n 1) 57 := im_D.of (by decide +kernel)
theorem D420_57 {g : im_g} : im_D g 420 57 (.laload) 58 := im_D.of (by decide +kernel)
theorem D420_58 {g : im_g} : im_D g 420 58 (.goto 23) 61 := im_D.of (by decide +kernel)
theorem D420_61 {g : im_g} : im_D g 420 61 (.iload_n 2) 62 := im_D.of (by decide +kernel)
theorem D420_62 {g : im_g} : im_D g 420 62 (.iconst 2) 63 := im_D.of (by decide +kernel)
theorem D420_63 {g : im_g} : im_D g 420 63 (.if_icmp .ne 12) 66 := im_D.of (by decide +kernel)
theorem D420_66 {g : im_g} : im_D g 420 66 (.aload_n 0) 67 := im_D.of (by decide +kernel)
theorem D420_67 {g : im_g} : im_D g 420 67 (.getfield 318) 70 := im_D.of (by decide +kernel)
theorem D420_70 {g : im_g} : im_D g 420 70 (.iload_n 1) 71 := im_D.of (by decide +kernel)
theorem D420_71 {g : im_g} : im_D g 420 71 (.laload) 72 := im_D.of (by decide +kernel)
theorem D420_72 {g : im_g} : im_D g 420 72 (.goto 9) 75 := im_D.of (by decide +kernel)
theorem D420_75 {g : im_g} : im_D g 420 75 (.aload_n 0) 76 := im_D.of (by decide +kernel)
theorem D420_76 {g : im_g} : im_D g 420 76 (.getfield 321) 79 := im_D.of (by decide +kernel)
theorem D420_79 {g : im_g} : im_D g 420 79 (.iload_n 1) 80 := im_D.of (by decide +kernel)
theorem D420_80 {g : im_g} : im_D g 420 80 (.laload) 81 := im_D.of (by decide +kernel)
theorem D420_81 {g : im_g} : im_D g 420 81 (.lreturn) 82 := im_D.of (by decide +kernel)
theorem D421_0 {g : im_g} : im_D g 421 0 (.aload_n 0) 1 := im_D.of (by decide +kernel)
theorem D421_1 {g : im_g} : im_D g 421 1 (.getfield 412) 4 := im_D.of (by decide +kernel)
theorem D421_4 {g : im_g} : im_D g 421 4 (.ifCond .eq 10) 7 := im_D.of (by decide +kernel)
theorem D421_7 {g : im_g} : im_D g 421 7 (.aload_n 0) 8 := im_D.of (by decide +kernel)
theorem D421_8 {g : im_g} : im_D g 421 8 (.iconst 2) 9 := im_D.of (by decide +kernel)
theorem D421_9 {g : im_g} : im_D g 421 9 (.putfield 409) 12 := im_D.of (by decide +kernel)
theorem D421_12 {g : im_g} : im_D g 421 12 (.iconst 0) 13 := im_D.of (by decide +kernel)
theorem D421_13 {g : im_g} : im_D g 421 13 (.ireturn) 14 := im_D.of (by decide +kernel)
theorem D421_14 {g : im_g} : im_D g 421 14 (.aload_n 0) 15 := im_D.of (by decide +kernel)
theorem D421_15 {g : im_g} : im_D g 421 15 (.invokevirtual 734) 18 := im_D.of (by decide +kernel)
theorem D421_18 {g : im_g} : im_D g 421 18 (.aload_n 0) 19 := im_D.of (by decide +kernel)
theorem D421_19 {g : im_g} : im_D g 421 19 (.iconst 2) 20 := im_D.of (by decide +kernel)
theorem D421_20 {g : im_g} : im_D g 421 20 (.lload_n 1) 21 := im_D.of (by decide +kernel)
theorem D421_21 {g : im_g} : im_D g 421 21 (.invokestatic 800) 24 := im_D.of (by decide +kernel)
theorem D421_24 {g : im_g} : im_D g 421 24 (.ifCond .eq 14) 27 := im_D.of (by decide +kernel)
theorem D421_27 {g : im_g} : im_D g 421 27 (.lload_n 3) 28 := im_D.of (by decide +kernel)
theorem D421_28 {g : im_g} : im_D g 421 28 (.invokestatic 800) 31 := im_D.of (by decide +kernel)
theorem D421_31 {g : im_g} : im_D g 421 31 (.ifCond .eq 7) 34 := im_D.of (by decide +kernel)
theorem D421_34 {g : im_g} : im_D g 421 34 (.iconst 1) 35 := im_D.of (by decide +kernel)
theorem D421_35 {g : im_g} : im_D g 421 35 (.goto 4) 38 := im_D.of (by decide +kernel)
theorem D421_38 {g : im_g} : im_D g 421 38 (.iconst 0) 39 := im_D.of (by decide +kernel)
theorem D421_39 {g : im_g} : im_D g 421 39 (.iconst 1) 40 := im_D.of (by decide +kernel)
theorem D421_40 {g : im_g} : im_D g 421 40 (.iconst 1) 41 := im_D.of (by decide +kernel)
theorem D421_41 {g : im_g} : im_D g 421 41 (.invokevirtual 419) 44 := im_D.of (by decide +kernel)
theorem D421_44 {g : im_g} : im_D g 421 44 (.ifCond .ne 5) 47 := im_D.of (by decide +kernel)
theorem D421_47 {g : im_g} : im_D g 421 47 (.iconst 0) 48 := im_D.of (by decide +kernel)
theorem D421_48 {g : im_g} : im_D g 421 48 (.ireturn) 49 := im_D.of (by decide +kernel)
theorem D421_49 {g : im_g} : im_D g 421 49 (.aload_n 0) 50 := im_D.of (by decide +kernel)
theorem D421_50 {g : im_g} : im_D g 421 50 (.lload_n 1) 51 := im_D.of (by decide +kernel)
theorem D421_51 {g : im_g} : im_D g 421 51 (.lload_n 3) 52 := im_D.of (by decide +kernel)
theorem D421_52 {g : im_g} : im_D g 421 52 (.invokevirtual 1083) 55 := im_D.of (by decide +kernel)
theorem D421_55 {g : im_g} : im_D g 421 55 (.istore 5) 57 := im_D.of (by decide +kernel)
theorem D421_57 {g : im_g} : im_D g 421 57 (.iload 5) 59 := im_D.of (by decide +kernel)
theorem D421_59 {g : im_g} : im_D g 421 59 (.ifCond .ne 15) 62 := im_D.of (by decide +kernel)
theorem D421_62 {g : im_g} : im_D g 421 62 (.aload_n 0) 63 := im_D.of (by decide +kernel)
theorem D421_63 {g : im_g} : im_D g 421 63 (.iconst 5) 64 := im_D.of (by decide +kernel)
theorem D421_64 {g : im_g} : im_D g 421 64 (.iconst 2) 65 := im_D.of (by decide +kernel)
theorem D421_65 {g : im_g} : im_D g 421 65 (.lload_n 1) 66 := im_D.of (by decide +kernel)
theorem D421_66 {g : im_g} : im_D g 421 66 (.lload_n 3) 67 := im_D.of (by decide +kernel)
theorem D421_67 {g : im_g} : im_D g 421 67 (.lconst 0) 68 := im_D.of (by decide +kernel)
theorem D421_68 {g : im_g} : im_D g 421 68 (.iconst 1) 69 := im_D.of (by decide +kernel)
theorem D421_69 {g : im_g} : im_D g 421 69 (.invokevirtual 740) 72 := im_D.of (by decide +kernel)
theorem D421_72 {g : im_g} : im_D g 421 72 (.istore 5) 74 := im_D.of (by decide +kernel)
theorem D421_74 {g : im_g} : im_D g 421 74 (.iload 5) 76 := im_D.of (by decide +kernel)
theorem D421_76 {g : im_g} : im_D g 421 76 (.bipush (-100)) 78 := im_D.of (by decide +kernel)
theorem D421_78 {g : im_g} : im_D g 421 78 (.if_icmp .ne 10) 81 := im_D.of (by decide +kernel)
theorem D421_81 {g : im_g} : im_D g 421 81 (.aload_n 0) 82 := im_D.of (by decide +kernel)
theorem D421_82 {g : im_g} : im_D g 421 82 (.iconst 2) 83 := im_D.of (by decide +kernel)
theorem D421_83 {g : im_g} : im_D g 421 83 (.putfield 409) 86 := im_D.of (by decide +kernel)
theorem D421_86 {g : im_g} : im_D g 421 86 (.iconst 0) 87 := im_D.of (by decide +kernel)
theorem D421_87 {g : im_g} : im_D g 421 87 (.ireturn) 88 := im_D.of (by decide +kernel)
theorem D421_88 {g : im_g} : im_D g 421 88 (.iload 5) 90 := im_D.of (by decide +kernel)
theorem D421_90 {g : im_g} : im_D g 421 90 (.ifCond .ge 8) 93 := im_D.of (by decide +kernel)
theorem D421_93 {g : im_g} : im_D g 421 93 (.iload 5) 95 := im_D.of (by decide +kernel)
theorem D421_95 {g : im_g} : im_D g 421 95 (.goto 9) 98 := im_D.of (by decide +kernel)
theorem D421_98 {g : im_g} : im_D g 421 98 (.aload_n 0) 99 := im_D.of (by decide +kernel)
theorem D421_99 {g : im_g} : im_D g 421 99 (.lload_n 1) 100 := im_D.of (by decide +kernel)
theorem D421_100 {g : im_g} : im_D g 421 100 (.lload_n 3) 101 := im_D.of (by decide +kernel)
theorem D421_101 {g : im_g} : im_D g 421 101 (.invokevirtual 1086) 104 := im_D.of (by decide +kernel)
theorem D421_104 {g : im_g} : im_D g 421 104 (.ireturn) 105 := im_D.of (by decide +kernel)
theorem D422_0 {g : im_g} : im_D g 422 0 (.lload_n 1) 1 := im_D.of (by decide +kernel)
theorem D422_1 {g : im_g} : im_D g 422 1 (.invokestatic 800) 4 := im_D.of (by decide +kernel)
theorem D422_4 {g : im_g} : im_D g 422 4 (.ifCond .eq 10) 7 := im_D.of (by decide +kernel)
theorem D422_7 {g : im_g} : im_D g 422 7 (.lload_n 3) 8 := im_D.of (by decide +kernel)
theorem D422_8 {g : im_g} : im_D g 422 8 (.invokestatic 800) 11 := im_D.of (by decide +kernel)
theorem D422_11 {g : im_g} : im_D g 422 11 (.ifCond .ne 6) 14 := im_D.of (by decide +kernel)
theorem D422_14 {g : im_g} : im_D g 422 14 (.bipush (-101)) 16 := im_D.of (by decide +kernel)
theorem D422_16 {g : im_g} : im_D g 422 16 (.ireturn) 17 := im_D.of (by decide +kernel)
theorem D422_17 {g : im_g} : im_D g 422 17 (.aload_n 0) 18 := im_D.of (by decide +kernel)
theorem D422_18 {g : im_g} : im_D g 422 18 (.aload_n 0) 19 := im_D.of (by decide +kernel)
theorem D422_19 {g : im_g} : im_D g 422 19 (.invokevirtual 803) 22 := im_D.of (by decide +kernel)
theorem D422_22 {g : im_g} : im_D g 422 22 (.putfield 806) 25 := im_D.of (by decide +kernel)
theorem D422_25 {g : im_g} : im_D g 422 25 (.aload_n 0) 26 := im_D.of (by decide +kernel)
theorem D422_26 {g : im_g} : im_D g 422 26 (.getfield 403) 29 := im_D.of (by decide +kernel)
theorem D422_29 {g : im_g} : im_D g 422 29 (.ifCond .le 5) 32 := im_D.of (by decide +kernel)
theorem D422_32 {g : im_g} : im_D g 422 32 (.iconst (-1)) 33 := im_D.of (by decide +kernel)
theorem D422_33 {g : im_g} : im_D g 422 33 (.ireturn) 34 := im_D.of (by decide +kernel)
theorem D422_34 {g : im_g} : im_D g 422 34 (.aload_n 0) 35 := im_D.of (by decide +kernel)
theorem D422_35 {g : im_g} : im_D g 422 35 (.getfield 17) 38 := im_D.of (by decide +kernel)
theorem D422_38 {g : im_g} : im_D g 422 38 (.aload_n 0) 39 := im_D.of (by decide +kernel)
theorem D422_39 {g : im_g} : im_D g 422 39 (.getfield 806) 42 := im_D.of (by decide +kernel)
theorem D422_42 {g : im_g} : im_D g 422 42 (.iaload) 43 := im_D.of (by decide +kernel)
theorem D422_43 {g : im_g} : im_D g 422 43 (.ifCond .gt 6) 46 := im_D.of (by decide +kernel)
theorem D422_46 {g : im_g} : im_D g 422 46 (.bipush (-5)) 48 := im_D.of (by decide +kernel)
theorem D422_48 {g : im_g} : im_D g 422 48 (.ireturn) 49 := im_D.of (by decide +kernel)
theorem D422_49 {g : im_g} : im_D g 422 49 (.aload_n 0) 50 := im_D.of (by decide +kernel)
theorem D422_50 {g : im_g} : im_D g 422 50 (.invokevirtual 1047) 53 := im_D.of (by decide +kernel)
theorem D422_53 {g : im_g} : im_D g 422 53 (.aload_n 0) 54 := im_D.of (by decide +kernel)
theorem D422_54 {g : im_g} : im_D g 422 54 (.lload_n 3) 55 := im_D.of (by decide +kernel)
theorem D422_55 {g : im_g} : im_D g 422 55 (.invokevirtual 1074) 58 := im_D.of (by decide +kernel)
theorem D422_58 {g : im_g} : im_D g 422 58 (.istore 5) 60 := im_D.of (by decide +kernel)
theorem D422_60 {g : im_g} : im_D g 422 60 (.aload_n 0) 61 := im_D.of (by decide +kernel)
theorem D422_61 {g : im_g} : im_D g 422 61 (.lload_n 1) 62 := im_D.of (by decide +kernel)
theorem D422_62 {g : im_g} : im_D g 422 62 (.lload_n 3) 63 := im_D.of (by decide +kernel)
theorem D422_63 {g : im_g} : im_D g 422 63 (.invokevirtual 968) 66 := im_D.of (by decide +kernel)
theorem D422_66 {g : im_g} : im_D g 422 66 (.istore 6) 68 := im_D.of (by decide +kernel)
theorem D422_68 {g : im_g} : im_D g 422 68 (.aload_n 0) 69 := im_D.of (by decide +kernel)
theorem D422_69 {g : im_g} : im_D g 422 69 (.iconst 0) 70 := im_D.of (by decide +kernel)
theorem D422_70 {g : im_g} : im_D g 422 70 (.putfield 855) 73 := im_D.of (by decide +kernel)
theorem D422_73 {g : im_g} : im_D g 422 73 (.iload 5) 75 := im_D.of (by decide +kernel)
theorem D422_75 {g : im_g} : im_D g 422 75 (.iconst (-1)) 76 := im_D.of (by decide +kernel)
theorem D422_76 {g : im_g} : im_D g 422 76 (.if_icmp .ne 10) 79 := im_D.of (by decide +kernel)
theorem D422_79 {g : im_g} : im_D g 422 79 (.aload_n 0) 80 := im_D.of (by decide +kernel)
theorem D422_80 {g : im_g} : im_D g 422 80 (.getfield 806) 83 := im_D.of (by decide +kernel)
theorem D422_83 {g : im_g} : im_D g 422 83 (.goto 22) 86 := im_D.of (by decide +kernel)
theorem D422_86 {g : im_g} : im_D g 422 86 (.aload_n 0) 87 := im_D.of (by decide +kernel)
theorem D422_87 {g : im_g} : im_D g 422 87 (.aload_n 0) 88 := im_D.of (by decide +kernel)
theorem D422_88 {g : im_g} : im_D g 422 88 (.aload_n 0) 89 := im_D.of (by decide +kernel)
theorem D422_89 {g : im_g} : im_D g 422 89 (.getfield 294) 92 := im_D.of (by decide +kernel)
theorem D422_92 {g : im_g} : im_D g 422 92 (.iload 5) 94 := im_D.of (by decide +kernel)
theorem D422_94 {g : im_g} : im_D g 422 94 (.invokevirtual 825) 97 := im_D.of (by decide +kernel)
theorem D422_97 {g : im_g} : im_D g 422 97 (.aload_n 0) 98 := im_D.of (by decide +kernel)
theorem D422_98 {g : im_g} : im_D g 422 98 (.getfield 806) 101 := im_D.of (by decide +kernel)
theorem D422_101 {g : im_g} : im_D g 422 101 (.iconst 1) 102 := im_D.of (by decide +kernel)
theorem D422_102 {g : im_g} : im_D g 422 102 (.invokevirtual 962) 105 := im_D.of (by decide +kernel)
theorem D422_105 {g : im_g} : im_D g 422 105 (.istore 7) 107 := im_D.of (by decide +kernel)
theorem D422_107 {g : im_g} : im_D g 422 107 (.iload 6) 109 := im_D.of (by decide +kernel)
theorem D422_109 {g : im_g} : im_D g 422 109 (.iconst (-1)) 110 := im_D.of (by decide +kernel)
theorem D422_110 {g : im_g} : im_D g 422 110 (.if_icmp .ne 10) 113 := im_D.of (by decide +kernel)
theorem D422_113 {g : im_g} : im_D g 422 113 (.aload_n 0) 114 := im_D.of (by decide +kernel)
theorem D422_114 {g : im_g} : im_D g 422 114 (.getfield 806) 117 := im_D.of (by decide +kernel)
theorem D422_117 {g : im_g} : im_D g 422 117 (.goto 19) 120 := im_D.of (by decide +kernel)
theorem D422_120 {g : im_g} : im_D g 422 120 (.aload_n 0) 121 := im_D.of (by decide +kernel)
theorem D422_121 {g : im_g} : im_D g 422 121 (.aload_n 0) 122 := im_D.of (by decide +kernel)
theorem D422_122 {g : im_g} : im_D g 422 122 (.getfield 255) 125 := im_D.of (by decide +kernel)
theorem D422_125 {g : im_g} : im_D g 422 125 (.iload 6) 127 := im_D.of (by decide +kernel)
theorem D422_127 {g : im_g} : im_D g 422 127 (.iaload) 128 := im_D.of (by decide +kernel)
theorem D422_128 {g : im_g} : im_D g 422 128 (.aload_n 0) 129 := im_D.of (by decide +kernel)
theorem D422_129 {g : im_g} : im_D g 422 129 (.getfield 806) 132 := im_D.of (by decide +kernel)
theorem D422_132 {g : im_g} : im_D g 422 132 (.iconst 1) 133 := im_D.of (by decide +kernel)
theorem D422_133 {g : im_g} : im_D g 422 133 (.invokevirtual 962) 136 := im_D.of (by decide +kernel)
theorem D422_136 {g : im_g} : im_D g 422 136 (.istore 8) 138 := im_D.of (by decide +kernel)
theorem D422_138 {g : im_g} : im_D g 422 138 (.aload_n 0) 139 := im_D.of (by decide +kernel)
theorem D422_139 {g : im_g} : im_D g 422 139 (.getfield 855) 142 := im_D.of (by decide +kernel)
theorem D422_142 {g : im_g} : im_D g 422 142 (.ifCond .ge 6) 145 := im_D.of (by decide +kernel)
theorem D422_145 {g : im_g} : im_D g 422 145 (.bipush (-8)) 147 := im_D.of (by decide +kernel)
theorem D422_147 {g : im_g} : im_D g 422 147 (.ireturn) 148 := im_D.of (by decide +kernel)
theorem D422_148 {g : im_g} : im_D g 422 148 (.iload 6) 150 := im_D.of (by decide +kernel)
theorem D422_150 {g : im_g} : im_D g 422 150 (.iconst (-1)) 151 := im_D.of (by decide +kernel)
theorem D422_151 {g : im_g} : im_D g 422 151 (.if_icmp .ne 12) 154 := im_D.of (by decide +kernel)
theorem D422_154 {g : im_g} : im_D g 422 154 (.aload_n 0) 155 := im_D.of (by decide +kernel)
theorem D422_155 {g : im_g} : im_D g 422 155 (.getfield 1032) 158 := im_D.of (by decide +kernel)
theorem D422_158 {g : im_g} : im_D g 422 158 (.bipush 60) 160 := im_D.of (by decide +kernel)
theorem D422_160 {g : im_g} : im_D g 422 160 (.if_icmp .eq 18) 163 := im_D.of (by decide +kernel)
theorem D422_163 {g : im_g} : im_D g 422 163 (.iload 5) 165 := im_D.of (by decide +kernel)
theorem D422_165 {g : im_g} : im_D g 422 165 (.iconst (-1)) 166 := im_D.of (by decide +kernel)
theorem D422_166 {g : im_g} : im_D g 422 166 (.if_icmp .ne 15) 169 := im_D.of (by decide +kernel)
theorem D422_169 {g : im_g} : im_D g 422 169 (.aload_n 0) 170 := im_D.of (by decide +kernel)
theorem D422_170 {g : im_g} : im_D g 422 170 (.getfield 1071) 173 := im_D.of (by decide +kernel)
theorem D422_173 {g : im_g} : im_D g 422 173 (.bipush 60) 175 := im_D.of (by decide +kernel)
theorem D422_175 {g : im_g} : im_D g 422 175 (.if_icmp .ne 6) 178 := im_D.of (by decide +kernel)
theorem D422_178 {g : im_g} : im_D g 422 178 (.bipush (-9)) 180 := im_D.of (by decide +kernel)
theorem D422_180 {g : im_g} : im_D g 422 180 (.ireturn) 181 := im_D.of (by decide +kernel)
theorem D422_181 {g : im_g} : im_D g 422 181 (.aload_n 0) 182 := im_D.of (by decide +kernel)
theorem D422_182 {g : im_g} : im_D g 422 182 (.iload 7) 184 := im_D.of (by decide +kernel)
theorem D422_184 {g : im_g} : im_D g 422 184 (.putfield 1077) 187 := im_D.of (by decide +kernel)
theorem D422_187 {g : im_g} : im_D g 422 187 (.aload_n 0) 188 := im_D.of (by decide +kernel)
theorem D422_188 {g : im_g} : im_D g 422 188 (.iload 8) 190 := im_D.of (by decide +kernel)
theorem D422_190 {g : im_g} : im_D g 422 190 (.putfield 1080) 193 := im_D.of (by decide +kernel)
theorem D422_193 {g : im_g} : im_D g 422 193 (.iconst 0) 194 := im_D.of (by decide +kernel)
theorem D422_194 {g : im_g} : im_D g 422 194 (.ireturn) 195 := im_D.of (by decide +kernel)
theorem D423_0 {g : im_g} : im_D g 423 0 (.iconst 0) 1 := im_D.of (by decide +kernel)
theorem D423_1 {g : im_g} : im_D g 423 1 (.istore_n 3) 2 := im_D.of (by decide +kernel)
theorem D423_2 {g : im_g} : im_D g 423 2 (.iload_n 3) 3 := im_D.of (by decide +kernel)
theorem D423_3 {g : im_g} : im_D g 423 3 (.aload_n 0) 4 := im_D.of (by decide +kernel)
theorem D423_4 {g : im_g} : im_D g 423 4 (.getfield 1071) 7 := im_D.of (by decide +kernel)
theorem D423_7 {g : im_g} : im_D g 423 7 (.if_icmp .ge 22) 10 := im_D.of (by decide +kernel)
theorem D423_10 {g : im_g} : im_D g 423 10 (.aload_n 0) 11 := im_D.of (by decide +kernel)
theorem D423_11 {g : im_g} : im_D g 423 11 (.getfield 291) 14 := im_D.of (by decide +kernel)
theorem D423_14 {g : im_g} : im_D g 423 14 (.iload_n 3) 15 := im_D.of (by decide +kernel)
theorem D423_15 {g : im_g} : im_D g 423 15 (.laload) 16 := im_D.of (by decide +kernel)
theorem D423_16 {g : im_g} : im_D g 423 16 (.lload_n 1) 17 := im_D.of (by decide +kernel)
theorem D423_17 {g : im_g} : im_D g 423 17 (.lcmp) 18 := im_D.of (by decide +kernel)
theorem D423_18 {g : im_g} : im_D g 423 18 (.ifCond .ne 5) 21 := im_D.of (by decide +kernel)
theorem D423_21 {g : im_g} : im_D g 423 21 (.iload_n 3) 22 := im_D.of (by decide +kernel)
theorem D423_22 {g : im_g} : im_D g 423 22 (.ireturn) 23 := im_D.of (by decide +kernel)
theorem D423_23 {g : im_g} : im_D g 423 23 (.iinc 3 1) 26 := im_D.of (by decide +kernel)
theorem D423_26 {g : im_g} : im_D g 423 26 (.goto (-24)) 29 := im_D.of (by decide +kernel)
theorem D423_29 {g : im_g} : im_D g 423 29 (.iconst (-1)) 30 := im_D.of (by decide +kernel)
theorem D423_30 {g : im_g} : im_D g 423 30 (.ireturn) 31 := im_D.of (by decide +kernel)
set_option maxRecDepth 20000 in
set_option maxHeartbeats 4000000 in
theorem b_keepTold_0 {g : im_g} {d : Nat} {e : im_E} {M : im_M} {K : im_K} (hP : im_T g d 416 10 [some (.ref 6952), some (vI 0)] [] e (im_u M 6952 137 (M 6952 104)) K) : im_T g d 416 0 [some (.ref 6952), none] [] e M K := by
  refine im_ld (q := 1) (i := 0) D416_0 rfl rfl rfl ?_
  refine im_ld (q := 2) (i := 0) D416_1 rfl rfl rfl ?_
  refine im_rng (j := 104) sf_6952 (by decide) (by decide) (fun hr1 => ?_)
  refine im_gfI (q := 5) D416_2 (im_fl cn_416 fl_12_971) sf_6952 rfl rfl tI_12_104 rfl ?_
  refine im_pfI (q := 8) D416_5 (im_fl cn_416 fl_12_1035) sf_6952 rfl rfl ti_12_137 hr1 ?_
  refine im_iconst (q := 9) D416_8 ?_
  refine im_st1 (q := 10) (i := 1) (L' := [some (.ref 6952), some (vI 0)]) D416_9 (Or.inl ⟨_, rfl, rfl⟩) (Nat.le_of_ble_eq_true rfl) rfl ?_
  exact hP.wk ⟨rfl, rfl, trivial⟩
set_option maxRecDepth 20000 in
set_option maxHeartbeats 4000000 in
theorem b_keepTold_10 {g : im_g} {d : Nat} {e : im_E} {M : im_M} {K : im_K} {p1 : Int} (hd : 1 ≤ d) (hP : (im_i32 p1) ∧ (((M 6952 104) ≤ p1 → im_T g d 416 97 [some (.ref 6952), some (vI 0)] [] e (im_u M 6952 143 (M 6952 110)) K) ∧ (p1 < (M 6952 104) → (0 ≤ p1 ∧ p1 < 60) ∧ im_T g (d - 1) 340 0 [some (.ref 6952), some (.ref 7051), some (vI p1), some (vI (M 7025 p1)), none] [] e (im_u (im_u (im_u (im_u M 7047 p1 (M 7021 p1)) 7048 p1 (M 7022 p1)) 7049 p1 (M 7023 p1)) 7050 p1 (M 7024 p1)) (im_r0 (fun  e_ M11 => e = e_ ∧ im_T g d 416 10 [some (.ref 6952), some (vI (p1 + 1))] [] e M11 K))))) : im_T g d 416 10 [some (.ref 6952), some (vI p1)] [] e M K := by
  refine im_ld (q := 11) (i := 1) D416_10 rfl rfl rfl ?_
  refine im_ld (q := 12) (i := 0) D416_11 rfl rfl rfl ?_
  refine im_rng (j := 104) sf_6952 (by decide) (by decide) (fun hr1 => ?_)
  refine im_gfI (q := 15) D416_12 (im_fl cn_416 fl_12_971) sf_6952 rfl rfl tI_12_104 rfl ?_
  obtain ⟨hg2, hP⟩ := hP
  refine im_icmp (q := 18) (t := 87) D416_15 rfl hg2 hr1 (fun hc3 => ?_) (fun hc3 => ?_)
  · replace hP := hP.1 hc3
    refine im_ld (q := 88) (i := 0) D416_87 rfl rfl rfl ?_
    refine im_ld (q := 89) (i := 0) D416_88 rfl rfl rfl ?_
    refine im_rng (j := 110) sf_6952 (by decide) (by decide) (fun hr4 => ?_)
    refine im_gfI (q := 92) D416_89 (im_fl cn_416 fl_12_981) sf_6952 rfl rfl tI_12_110 rfl ?_
    refine im_pfI (q := 95) D416_92 (im_fl cn_416 fl_12_1038) sf_6952 rfl rfl ti_12_143 hr4 ?_
    refine im_iconst (q := 96) D416_95 ?_
    refine im_st1 (q := 97) (i := 1) (L' := [some (.ref 6952), some (vI 0)]) D416_96 (Or.inl ⟨_, rfl, rfl⟩) (Nat.le_of_ble_eq_true rfl) rfl ?_
    exact hP.wk ⟨rfl, rfl, trivial⟩
  · replace hP := hP.2 (Int.not_le.mp hc3)
    refine im_ld (q := 19) (i := 0) D416_18 rfl rfl rfl ?_
    refine im_gfR (q := 22) (b := 7047) D416_19 (im_fl cn_416 fl_12_297) sf_6952 rfl rfl tR_12_138 rf_6952_138 ?_
    refine im_ld (q := 23) (i := 1) D416_22 rfl rfl rfl ?_
    refine im_ld (q := 24) (i := 0) D416_23 rfl rfl rfl ?_
    refine im_gfR (q := 27) (b := 7021) D416_24 (im_fl cn_416 fl_12_219) sf_6952 rfl rfl tR_12_105 rf_6952_105 ?_
    refine im_ld (q := 28) (i := 1) D416_27 rfl rfl rfl ?_
    obtain ⟨hg5, hP⟩ := hP
    refine im_rng (j := p1) sf_7021 hg5.1 hg5.2 (fun hr6 => ?_)
    refine im_iald (q := 29) D416_28 sf_7021 hg5.1 hg5.2 (by decide) rfl ?_
    refine im_iast (q := 30) D416_29 sf_7047 hg5.1 hg5.2 (by decide) hr6 ?_
    refine im_ld (q := 31) (i := 0) D416_30 rfl rfl rfl ?_
    refine im_gfR (q := 34) (b := 7048) D416_31 (im_fl cn_416 fl_12_300) sf_6952 rfl rfl tR_12_139 rf_6952_139 ?_
    refine im_ld (q := 35) (i := 1) D416_34 rfl rfl rfl ?_
    refine im_ld (q := 36) (i := 0) D416_35 rfl rfl rfl ?_
    refine im_gfR (q := 39) (b := 7022) D416_36 (im_fl cn_416 fl_12_222) sf_6952 rfl rfl tR_12_106 rf_6952_106 ?_
    refine im_ld (q := 40) (i := 1) D416_39 rfl rfl rfl ?_
    refine im_rng (j := p1) sf_7022 hg5.1 hg5.2 (fun hr7 => ?_)
    refine im_lald (q := 41) D416_40 sf_7022 hg5.1 hg5.2 (by decide) (im_rdn _ _ _ _ (by decide)) ?_
    refine im_last (q := 42) D416_41 sf_7048 hg5.1 hg5.2 (by decide) (im_rgc hr7 (im_rdn _ _ _ _ (by decide))) ?_
    refine im_ld (q := 43) (i := 0) D416_42 rfl rfl rfl ?_
    refine im_gfR (q := 46) (b := 7049) D416_43 (im_fl cn_416 fl_12_303) sf_6952 rfl rfl tR_12_140 rf_6952_140 ?_
    refine im_ld (q := 47) (i := 1) D416_46 rfl rfl rfl ?_
    refine im_ld (q := 48) (i := 0) D416_47 rfl rfl rfl ?_
    refine im_gfR (q := 51) (b := 7023) D416_48 (im_fl cn_416 fl_12_225) sf_6952 rfl rfl tR_12_107 rf_6952_107 ?_
    refine im_ld (q := 52) (i := 1) D416_51 rfl rfl rfl ?_
    refine im_rng (j := p1) sf_7023 hg5.1 hg5.2 (fun hr8 => ?_)
    refine im_lald (q := 53) D416_52 sf_7023 hg5.1 hg5.2 (by decide) ((im_rdn _ _ _ _ (by decide)).trans (im_rdn _ _ _ _ (by decide))) ?_
    refine im_last (q := 54) D416_53 sf_7049 hg5.1 hg5.2 (by decide) (im_rgc hr8 ((im_rdn _ _ _ _ (by decide)).trans (im_rdn _ _ _ _ (by decide)))) ?_
    refine im_ld (q := 55) (i := 0) D416_54 rfl rfl rfl ?_
    refine im_gfR (q := 58) (b := 7050) D416_55 (im_fl cn_416 fl_12_306) sf_6952 rfl rfl tR_12_141 rf_6952_141 ?_
    refine im_ld (q := 59) (i := 1) D416_58 rfl rfl rfl ?_
    refine im_ld (q := 60) (i := 0) D416_59 rfl rfl rfl ?_
    refine im_gfR (q := 63) (b := 7024) D416_60 (im_fl cn_416 fl_12_228) sf_6952 rfl rfl tR_12_108 rf_6952_108 ?_
    refine im_ld (q := 64) (i := 1) D416_63 rfl rfl rfl ?_
    refine im_rng (j := p1) sf_7024 hg5.1 hg5.2 (fun hr9 => ?_)
    refine im_lald (q := 65) D416_64 sf_7024 hg5.1 hg5.2 (by decide) ((im_rdn _ _ _ _ (by decide)).trans ((im_rdn _ _ _ _ (by decide)).trans (im_rdn _ _ _ _ (by decide)))) ?_
    refine im_last (q := 66) D416_65 sf_7050 hg5.1 hg5.2 (by decide) (im_rgc hr9 ((im_rdn _ _ _ _ (by decide)).trans ((im_rdn _ _ _ _ (by decide)).trans (im_rdn _ _ _ _ (by decide))))) ?_
    refine im_ld (q := 67) (i := 0) D416_66 rfl rfl rfl ?_
    refine im_ld (q := 68) (i := 0) D416_67 rfl rfl rfl ?_
    refine im_gfR (q := 71) (b := 7051) D416_68 (im_fl cn_416 fl_12_309) sf_6952 rfl rfl tR_12_142 rf_6952_142 ?_
    refine im_ld (q := 72) (i := 1) D416_71 rfl rfl rfl ?_
    refine im_ld (q := 73) (i := 0) D416_72 rfl rfl rfl ?_
    refine im_gfR (q := 76) (b := 7025) D416_73 (im_fl cn_416 fl_12_231) sf_6952 rfl rfl tR_12_109 rf_6952_109 ?_
    refine im_ld (q := 77) (i := 1) D416_76 rfl rfl rfl ?_
    refine im_rng (j := p1) sf_7025 hg5.1 hg5.2 (fun hr10 => ?_)
    refine im_iald (q := 78) D416_77 sf_7025 hg5.1 hg5.2 (by decide) ((im_rdn _ _ _ _ (by decide)).trans ((im_rdn _ _ _ _ (by decide)).trans ((im_rdn _ _ _ _ (by decide)).trans (im_rdn _ _ _ _ (by decide))))) ?_
    refine im_callV (q := 81) (kd := 1) (y := 340) (n := 3) (ci := 12) (a := 6952) (vs := [.ref 6952, .ref 7051, vI p1, vI (M 7025 p1)]) (r := []) (L2 := [some (.ref 6952), some (.ref 7051), some (vI p1), some (vI (M 7025 p1)), none]) D416_78 (im_cal cn_416 cl_12_816) (Or.inl rfl) rfl sf_6952 rfl rfl rfl rfl hd ⟨rfl, rfl, rfl, rfl, trivial⟩ ?_
    refine hP.mono ?_
    rintro _ e12 M11 ⟨rfl, rfl, hP⟩
    refine im_bkN ?_
    refine im_iinc (q := 84) (i := 1) (L' := [some (.ref 6952), some (vI (p1 + 1))]) D416_81 rfl (Nat.le_of_ble_eq_true rfl) rfl ?_
    refine im_goto (q := 87) (t := 10) D416_84 rfl ?_
    exact hP.wk ⟨rfl, rfl, trivial⟩
set_option maxRecDepth 20000 in
set_option maxHeartbeats 4000000 in
theorem b_keepTold_97 {g : im_g} {d : Nat} {e : im_E} {M : im_M} {K : im_K} {p1 : Int} (hd : 1 ≤ d) (hP : (im_i32 p1) ∧ (((M 6952 110) ≤ p1 → K (.inl none) e M) ∧ (p1 < (M 6952 110) → (0 ≤ p1 ∧ p1 < 60) ∧ (((M 7030 p1) = (-1) → im_T g d 416 97 [some (.ref 6952), some (vI (p1 + 1))] [] e (im_u (im_u (im_u (im_u M 7052 p1 (M 7026 p1)) 7053 p1 (M 7027 p1)) 7054 p1 (M 7028 p1)) 7055 p1 (M 7029 p1)) K) ∧ (¬ (M 7030 p1) = (-1) → im_T g (d - 1) 340 0 [some (.ref 6952), some (.ref 7056), some (vI p1), some (vI (M 7030 p1)), none] [] e (im_u (im_u (im_u (im_u M 7052 p1 (M 7026 p1)) 7053 p1 (M 7027 p1)) 7054 p1 (M 7028 p1)) 7055 p1 (M 7029 p1)) (im_r0 (fun  e_ M12 => e = e_ ∧ im_T g d 416 97 [some (.ref 6952), some (vI (p1 + 1))] [] e M12 K))))))) : im_T g d 416 97 [some (.ref 6952), some (vI p1)] [] e M K := by
  refine im_ld (q := 98) (i := 1) D416_97 rfl rfl rfl ?_
  refine im_ld (q := 99) (i := 0) D416_98 rfl rfl rfl ?_
  refine im_rng (j := 110) sf_6952 (by decide) (by decide) (fun hr1 => ?_)
  refine im_gfI (q := 102) D416_99 (im_fl cn_416 fl_12_981) sf_6952 rfl rfl tI_12_110 rfl ?_
  obtain ⟨hg2, hP⟩ := hP
  refine im_icmp (q := 105) (t := 184) D416_102 rfl hg2 hr1 (fun hc3 => ?_) (fun hc3 => ?_)
  · replace hP := hP.1 hc3
    exact im_vret (q := 185) D416_184 rfl hP
  · replace hP := hP.2 (Int.not_le.mp hc3)
    refine im_ld (q := 106) (i := 0) D416_105 rfl rfl rfl ?_
    refine im_gfR (q := 109) (b := 7052) D416_106 (im_fl cn_416 fl_12_312) sf_6952 rfl rfl tR_12_144 rf_6952_144 ?_
    refine im_ld (q := 110) (i := 1) D416_109 rfl rfl rfl ?_
    refine im_ld (q := 111) (i := 0) D416_110 rfl rfl rfl ?_
    refine im_gfR (q := 114) (b := 7026) D416_111 (im_fl cn_416 fl_12_234) sf_6952 rfl rfl tR_12_111 rf_6952_111 ?_
    refine im_ld (q := 115) (i := 1) D416_114 rfl rfl rfl ?_
    obtain ⟨hg4, hP⟩ := hP
    refine im_rng (j := p1) sf_7026 hg4.1 hg4.2 (fun hr5 => ?_)
    refine im_iald (q := 116) D416_115 sf_7026 hg4.1 hg4.2 (by decide) rfl ?_
    refine im_iast (q := 117) D416_116 sf_7052 hg4.1 hg4.2 (by decide) hr5 ?_
    refine im_ld (q := 118) (i := 0) D416_117 rfl rfl rfl ?_
    refine im_gfR (q := 121) (b := 7053) D416_118 (im_fl cn_416 fl_12_315) sf_6952 rfl rfl tR_12_145 rf_6952_145 ?_
    refine im_ld (q := 122) (i := 1) D416_121 rfl rfl rfl ?_
    refine im_ld (q := 123) (i := 0) D416_122 rfl rfl rfl ?_
    refine im_gfR (q := 126) (b := 7027) D416_123 (im_fl cn_416 fl_12_237) sf_6952 rfl rfl tR_12_112 rf_6952_112 ?_
    refine im_ld (q := 127) (i := 1) D416_126 rfl rfl rfl ?_
    refine im_rng (j := p1) sf_7027 hg4.1 hg4.2 (fun hr6 => ?_)
    refine im_lald (q := 128) D416_127 sf_7027 hg4.1 hg4.2 (by decide) (im_rdn _ _ _ _ (by decide)) ?_
    refine im_last (q := 129) D416_128 sf_7053 hg4.1 hg4.2 (by decide) (im_rgc hr6 (im_rdn _ _ _ _ (by decide))) ?_
    refine im_ld (q := 130) (i := 0) D416_129 rfl rfl rfl ?_
    refine im_gfR (q := 133) (b := 7054) D416_130 (im_fl cn_416 fl_12_318) sf_6952 rfl rfl tR_12_146 rf_6952_146 ?_
    refine im_ld (q := 134) (i := 1) D416_133 rfl rfl rfl ?_
    refine im_ld (q := 135) (i := 0) D416_134 rfl rfl rfl ?_
    refine im_gfR (q := 138) (b := 7028) D416_135 (im_fl cn_416 fl_12_240) sf_6952 rfl rfl tR_12_113 rf_6952_113 ?_
    refine im_ld (q := 139) (i := 1) D416_138 rfl rfl rfl ?_
    refine im_rng (j := p1) sf_7028 hg4.1 hg4.2 (fun hr7 => ?_)
    refine im_lald (q := 140) D416_139 sf_7028 hg4.1 hg4.2 (by decide) ((im_rdn _ _ _ _ (by decide)).trans (im_rdn _ _ _ _ (by decide))) ?_
    refine im_last (q := 141) D416_140 sf_7054 hg4.1 hg4.2 (by decide) (im_rgc hr7 ((im_rdn _ _ _ _ (by decide)).trans (im_rdn _ _ _ _ (by decide)))) ?_
    refine im_ld (q := 142) (i := 0) D416_141 rfl rfl rfl ?_
    refine im_gfR (q := 145) (b := 7055) D416_142 (im_fl cn_416 fl_12_321) sf_6952 rfl rfl tR_12_147 rf_6952_147 ?_
    refine im_ld (q := 146) (i := 1) D416_145 rfl rfl rfl ?_
    refine im_ld (q := 147) (i := 0) D416_146 rfl rfl rfl ?_
    refine im_gfR (q := 150) (b := 7029) D416_147 (im_fl cn_416 fl_12_243) sf_6952 rfl rfl tR_12_114 rf_6952_114 ?_
    refine im_ld (q := 151) (i := 1) D416_150 rfl rfl rfl ?_
    refine im_rng (j := p1) sf_7029 hg4.1 hg4.2 (fun hr8 => ?_)
    refine im_lald (q := 152) D416_151 sf_7029 hg4.1 hg4.2 (by decide) ((im_rdn _ _ _ _ (by decide)).trans ((im_rdn _ _ _ _ (by decide)).trans (im_rdn _ _ _ _ (by decide)))) ?_
    refine im_last (q := 153) D416_152 sf_7055 hg4.1 hg4.2 (by decide) (im_rgc hr8 ((im_rdn _ _ _ _ (by decide)).trans ((im_rdn _ _ _ _ (by decide)).trans (im_rdn _ _ _ _ (by decide))))) ?_
    refine im_ld (q := 154) (i := 0) D416_153 rfl rfl rfl ?_
    refine im_gfR (q := 157) (b := 7030) D416_154 (im_fl cn_416 fl_12_246) sf_6952 rfl rfl tR_12_115 rf_6952_115 ?_
    refine im_ld (q := 158) (i := 1) D416_157 rfl rfl rfl ?_
    refine im_rng (j := p1) sf_7030 hg4.1 hg4.2 (fun hr9 => ?_)
    refine im_iald (q := 159) D416_158 sf_7030 hg4.1 hg4.2 (by decide) ((im_rdn _ _ _ _ (by decide)).trans ((im_rdn _ _ _ _ (by decide)).trans ((im_rdn _ _ _ _ (by decide)).trans (im_rdn _ _ _ _ (by decide))))) ?_
    refine im_iconst (q := 160) D416_159 ?_
    refine im_icmp (q := 163) (t := 178) D416_160 rfl (im_rgc hr9 ((im_rdn _ _ _ _ (by decide)).trans ((im_rdn _ _ _ _ (by decide)).trans ((im_rdn _ _ _ _ (by decide)).trans (im_rdn _ _ _ _ (by decide)))))) (by decide) (fun hc10 => ?_) (fun hc10 => ?_)
    · replace hP := hP.1 hc10
      refine im_iinc (q := 181) (i := 1) (L' := [some (.ref 6952), some (vI (p1 + 1))]) D416_178 rfl (Nat.le_of_ble_eq_true rfl) rfl ?_
      refine im_goto (q := 184) (t := 97) D416_181 rfl ?_
      exact hP.wk ⟨rfl, rfl, trivial⟩
    · replace hP := hP.2 hc10
      refine im_ld (q := 164) (i := 0) D416_163 rfl rfl rfl ?_
      refine im_ld (q := 165) (i := 0) D416_164 rfl rfl rfl ?_
      refine im_gfR (q := 168) (b := 7056) D416_165 (im_fl cn_416 fl_12_324) sf_6952 rfl rfl tR_12_148 rf_6952_148 ?_
      refine im_ld (q := 169) (i := 1) D416_168 rfl rfl rfl ?_
      refine im_ld (q := 170) (i := 0) D416_169 rfl rfl rfl ?_
      refine im_gfR (q := 173) (b := 7030) D416_170 (im_fl cn_416 fl_12_246) sf_6952 rfl rfl tR_12_115 rf_6952_115 ?_
      refine im_ld (q := 174) (i := 1) D416_173 rfl rfl rfl ?_
      refine im_iald (q := 175) D416_174 sf_7030 hg4.1 hg4.2 (by decide) ((im_rdn _ _ _ _ (by decide)).trans ((im_rdn _ _ _ _ (by decide)).trans ((im_rdn _ _ _ _ (by decide)).trans (im_rdn _ _ _ _ (by decide))))) ?_
      refine im_callV (q := 178) (kd := 1) (y := 340) (n := 3) (ci := 12) (a := 6952) (vs := [.ref 6952, .ref 7056, vI p1, vI (M 7030 p1)]) (r := []) (L2 := [some (.ref 6952), some (.ref 7056), some (vI p1), some (vI (M 7030 p1)), none]) D416_175 (im_cal cn_416 cl_12_816) (Or.inl rfl) rfl sf_6952 rfl rfl rfl rfl hd ⟨rfl, rfl, rfl, rfl, trivial⟩ ?_
      refine hP.mono ?_
      rintro _ e13 M12 ⟨rfl, rfl, hP⟩
      refine im_bkN ?_
      refine im_iinc (q := 181) (i := 1) (L' := [some (.ref 6952), some (vI (p1 + 1))]) D416_178 rfl (Nat.le_of_ble_eq_true rfl) rfl ?_
      refine im_goto (q := 184) (t := 97) D416_181 rfl ?_
      exact hP.wk ⟨rfl, rfl, trivial⟩
set_option maxRecDepth 20000 in
set_option maxHeartbeats 4000000 in
theorem b_count_0 {g : im_g} {d : Nat} {e : im_E} {M : im_M} {K : im_K} {p1 : Int} (hd : 1 ≤ d) (hP : (im_i32 p1) ∧ im_T g (d - 1) 268 0 [some (vL p1), none, some (vL 0), none, some (vL 1), none] [] e M (im_ri (fun x3 e_ M2 => e = e_ ∧ im_T g (d - 1) 264 0 [some (.ref 6952), some (vI 2), some (vI x3), some (vI 1), some (vI 1)] [] e M2 (im_ri (fun x5 e_ M4 => e = e_ ∧ (im_i32 x5) ∧ ((((x5 = 0 → K (.inl (some (vI 0))) e M4))) ∧ (∀ x11 : Int, (((¬ x5 = 0) ∧ (¬ p1 = 0) ∧ x11 = (M4 6952 143)) ∨ ((¬ x5 = 0) ∧ (p1 = 0) ∧ x11 = (M4 6952 137))) → K (.inl (some (vI x11))) e M4))))))) : im_T g d 417 0 [some (.ref 6952), some (vI p1)] [] e M K := by
  refine im_ld (q := 1) (i := 0) D417_0 rfl rfl rfl ?_
  refine im_iconst (q := 2) D417_1 ?_
  refine im_ld (q := 3) (i := 1) D417_2 rfl rfl rfl ?_
  obtain ⟨hg1, hP⟩ := hP
  refine im_i2l (q := 4) D417_3 hg1 ?_
  refine im_lconst (q := 5) (z := 0) D417_4 rfl ?_
  refine im_lconst (q := 6) (z := 1) D417_5 rfl ?_
  refine im_callS (q := 9) (kd := 0) (y := 268) (n := 3) (z := 12) (vs := [vL p1, vL 0, vL 1]) (r := [vI 2, .ref 6952]) (L2 := [some (vL p1), none, some (vL 0), none, some (vL 1), none]) D417_6 rfl (im_cal cn_417 cl_12_428) (Or.inl rfl) rfl rfl rfl rfl rfl hd ⟨rfl, rfl, rfl, trivial⟩ ?_
  refine hP.mono ?_
  rintro _ e16 M2 ⟨x3, rfl, rfl, hP⟩
  refine im_bkS ?_
  refine im_iconst (q := 10) D417_9 ?_
  refine im_iconst (q := 11) D417_10 ?_
  refine im_callV (q := 14) (kd := 1) (y := 264) (n := 4) (ci := 12) (a := 6952) (vs := [.ref 6952, vI 2, vI x3, vI 1, vI 1]) (r := []) (L2 := [some (.ref 6952), some (vI 2), some (vI x3), some (vI 1), some (vI 1)]) D417_11 (im_cal cn_417 cl_12_419) (Or.inl rfl) rfl sf_6952 rfl rfl rfl rfl hd ⟨rfl, rfl, rfl, rfl, rfl, trivial⟩ ?_
  refine hP.mono ?_
  rintro _ e15 M4 ⟨x5, rfl, rfl, hP⟩
  refine im_bkS ?_
  obtain ⟨hg6, hP⟩ := hP
  obtain ⟨hP, hJ12⟩ := hP
  have kJ13 : ∀ x11 : Int, (((¬ x5 = 0) ∧ (¬ p1 = 0) ∧ x11 = (M4 6952 143)) ∨ ((¬ x5 = 0) ∧ (p1 = 0) ∧ x11 = (M4 6952 137))) → im_T g d 417 34 [none, none] [vI x11] e M4 K := by
    intro x11 hx14
    have hP := hJ12 x11 hx14
    exact im_iret (q := 35) D417_34 rfl hP
  refine im_ifc (q := 17) (t := 19) D417_14 rfl hg6 (fun hc7 => ?_) (fun hc7 => ?_)
  · refine im_ld (q := 20) (i := 1) D417_19 rfl rfl rfl ?_
    refine im_ifc (q := 23) (t := 30) D417_20 rfl hg1 (fun hc8 => ?_) (fun hc8 => ?_)
    · refine im_ld (q := 31) (i := 0) D417_30 rfl rfl rfl ?_
      refine im_rng (j := 143) sf_6952 (by decide) (by decide) (fun hr9 => ?_)
      refine im_gfI (q := 34) D417_31 (im_fl cn_417 fl_12_1038) sf_6952 rfl rfl tI_12_143 rfl ?_
      exact (kJ13 ((M4 6952 143)) (Or.inl ⟨hc7, hc8, rfl⟩)).wk trivial
    · refine im_ld (q := 24) (i := 0) D417_23 rfl rfl rfl ?_
      refine im_rng (j := 137) sf_6952 (by decide) (by decide) (fun hr10 => ?_)
      refine im_gfI (q := 27) D417_24 (im_fl cn_417 fl_12_1035) sf_6952 rfl rfl tI_12_137 rfl ?_
      refine im_goto (q := 30) (t := 34) D417_27 rfl ?_
      exact (kJ13 ((M4 6952 137)) (Or.inr ⟨hc7, (Decidable.not_not.mp hc8), rfl⟩)).wk trivial
  · replace hP := hP (Decidable.not_not.mp hc7)
    refine im_iconst (q := 18) D417_17 ?_
    exact im_iret (q := 19) D417_18 rfl hP
set_option maxRecDepth 20000 in
set_option maxHeartbeats 4000000 in
theorem b_payment_0 {g : im_g} {d : Nat} {e : im_E} {M : im_M} {K : im_K} {p1 p2 : Int} (hd : 1 ≤ d) (hP : (im_i32 p1) ∧ (im_i32 ((M 6952 137) - 1)) ∧ im_T g (d - 1) 268 0 [some (vL p1), none, some (vL 0), none, some (vL ((M 6952 137) - 1)), none] [] e M (im_ri (fun x5 e_ M4 => e = e_ ∧ (im_i32 p2) ∧ im_T g (d - 1) 268 0 [some (vL p2), none, some (vL 0), none, some (vL 3), none] [] e M4 (im_ri (fun x8 e_ M7 => e = e_ ∧ im_T g (d - 1) 264 0 [some (.ref 6952), some (vI 3), some (vI x5), some (vI x8), some (vI 1)] [] e M7 (im_ri (fun x10 e_ M9 => e = e_ ∧ (im_i32 x10) ∧ ((((¬ x10 = 0 → ((¬ p2 = 0 → ((¬ p2 = 1 → ((¬ p2 = 2 → (0 ≤ p1 ∧ p1 < 60)) ∧ (p2 = 2 → (0 ≤ p1 ∧ p1 < 60)))) ∧ (p2 = 1 → (0 ≤ p1 ∧ p1 < 60)))) ∧ (p2 = 0 → (0 ≤ p1 ∧ p1 < 60)))) ∧ (x10 = 0 → K (.inl (some (vL 0))) e M9))) ∧ (∀ x24 : Int, (((¬ x10 = 0) ∧ (¬ p2 = 0) ∧ (¬ p2 = 1) ∧ (¬ p2 = 2) ∧ x24 = (M9 7050 p1)) ∨ ((¬ x10 = 0) ∧ (¬ p2 = 0) ∧ (¬ p2 = 1) ∧ (p2 = 2) ∧ x24 = (M9 7049 p1)) ∨ ((¬ x10 = 0) ∧ (¬ p2 = 0) ∧ (p2 = 1) ∧ x24 = (M9 7048 p1)) ∨ ((¬ x10 = 0) ∧ (p2 = 0) ∧ x24 = (M9 7047 p1))) → K (.inl (some (vL x24))) e M9))))))))) : im_T g d 418 0 [some (.ref 6952), some (vI p1), some (vI p2)] [] e M K := by
  refine im_ld (q := 1) (i := 0) D418_0 rfl rfl rfl ?_
  refine im_iconst (q := 2) D418_1 ?_
  refine im_ld (q := 3) (i := 1) D418_2 rfl rfl rfl ?_
  obtain ⟨hg1, hP⟩ := hP
  refine im_i2l (q := 4) D418_3 hg1 ?_
  refine im_lconst (q := 5) (z := 0) D418_4 rfl ?_
  refine im_ld (q := 6) (i := 0) D418_5 rfl rfl rfl ?_
  refine im_rng (j := 137) sf_6952 (by decide) (by decide) (fun hr2 => ?_)
  refine im_gfI (q := 9) D418_6 (im_fl cn_418 fl_12_1035) sf_6952 rfl rfl tI_12_137 rfl ?_
  refine im_iconst (q := 10) D418_9 ?_
  refine im_isub (q := 11) D418_10 ?_
  obtain ⟨hg3, hP⟩ := hP
  refine im_i2l (q := 12) D418_11 hg3 ?_
  refine im_callS (q := 15) (kd := 0) (y := 268) (n := 3) (z := 12) (vs := [vL p1, vL 0, vL ((M 6952 137) - 1)]) (r := [vI 3, .ref 6952]) (L2 := [some (vL p1), none, some (vL 0), none, some (vL ((M 6952 137) - 1)), none]) D418_12 rfl (im_cal cn_418 cl_12_428) (Or.inl rfl) rfl rfl rfl rfl rfl hd ⟨rfl, rfl, rfl, trivial⟩ ?_
  refine hP.mono ?_
  rintro _ e30 M4 ⟨x5, rfl, rfl, hP⟩
  refine im_bkS ?_
  refine im_ld (q := 16) (i := 2) D418_15 rfl rfl rfl ?_
  obtain ⟨hg6, hP⟩ := hP
  refine im_i2l (q := 17) D418_16 hg6 ?_
  refine im_lconst (q := 18) (z := 0) D418_17 rfl ?_
  refine im_ldc2 (q := 21) (n := 3) D418_18 rfl ?_
  refine im_callS (q := 24) (kd := 0) (y := 268) (n := 3) (z := 12) (vs := [vL p2, vL 0, vL 3]) (r := [vI x5, vI 3, .ref 6952]) (L2 := [some (vL p2), none, some (vL 0), none, some (vL 3), none]) D418_21 rfl (im_cal cn_418 cl_12_428) (Or.inl rfl) rfl rfl rfl rfl rfl hd ⟨rfl, rfl, rfl, trivial⟩ ?_
  refine hP.mono ?_
  rintro _ e29 M7 ⟨x8, rfl, rfl, hP⟩
  refine im_bkS ?_
  refine im_iconst (q := 25) D418_24 ?_
  refine im_callV (q := 28) (kd := 1) (y := 264) (n := 4) (ci := 12) (a := 6952) (vs := [.ref 6952, vI 3, vI x5, vI x8, vI 1]) (r := []) (L2 := [some (.ref 6952), some (vI 3), some (vI x5), some (vI x8), some (vI 1)]) D418_25 (im_cal cn_418 cl_12_419) (Or.inl rfl) rfl sf_6952 rfl rfl rfl rfl hd ⟨rfl, rfl, rfl, rfl, rfl, trivial⟩ ?_
  refine hP.mono ?_
  rintro _ e28 M9 ⟨x10, rfl, rfl, hP⟩
  refine im_bkS ?_
  obtain ⟨hg11, hP⟩ := hP
  obtain ⟨hP, hJ25⟩ := hP
  have kJ26 : ∀ x24 : Int, (((¬ x10 = 0) ∧ (¬ p2 = 0) ∧ (¬ p2 = 1) ∧ (¬ p2 = 2) ∧ x24 = (M9 7050 p1)) ∨ ((¬ x10 = 0) ∧ (¬ p2 = 0) ∧ (¬ p2 = 1) ∧ (p2 = 2) ∧ x24 = (M9 7049 p1)) ∨ ((¬ x10 = 0) ∧ (¬ p2 = 0) ∧ (p2 = 1) ∧ x24 = (M9 7048 p1)) ∨ ((¬ x10 = 0) ∧ (p2 = 0) ∧ x24 = (M9 7047 p1))) → im_T g d 418 81 [none, none, none] [vL x24] e M9 K := by
    intro x24 hx27
    have hP := hJ25 x24 hx27
    exact im_lret (q := 82) D418_81 rfl hP
  refine im_ifc (q := 31) (t := 33) D418_28 rfl hg11 (fun hc12 => ?_) (fun hc12 => ?_)
  · replace hP := hP.1 hc12
    refine im_ld (q := 34) (i := 2) D418_33 rfl rfl rfl ?_
    refine im_ifc (q := 37) (t := 47) D418_34 rfl hg6 (fun hc13 => ?_) (fun hc13 => ?_)
    · replace hP := hP.1 hc13
      refine im_ld (q := 48) (i := 2) D418_47 rfl rfl rfl ?_
      refine im_iconst (q := 49) D418_48 ?_
      refine im_icmp (q := 52) (t := 61) D418_49 rfl hg6 (by decide) (fun hc14 => ?_) (fun hc14 => ?_)
      · replace hP := hP.1 hc14
        refine im_ld (q := 62) (i := 2) D418_61 rfl rfl rfl ?_
        refine im_iconst (q := 63) D418_62 ?_
        refine im_icmp (q := 66) (t := 75) D418_63 rfl hg6 (by decide) (fun hc15 => ?_) (fun hc15 => ?_)
        · replace hP := hP.1 hc15
          refine im_ld (q := 76) (i := 0) D418_75 rfl rfl rfl ?_
          refine im_gfR (q := 79) (b := 7050) D418_76 (im_fl cn_418 fl_12_306) sf_6952 rfl rfl tR_12_141 rf_6952_141 ?_
          refine im_ld (q := 80) (i := 1) D418_79 rfl rfl rfl ?_
          have hg16 := hP
          refine im_rng (j := p1) sf_7050 hg16.1 hg16.2 (fun hr17 => ?_)
          refine im_lald (q := 81) D418_80 sf_7050 hg16.1 hg16.2 (by decide) rfl ?_
          exact (kJ26 ((M9 7050 p1)) (Or.inl ⟨hc12, hc13, hc14, hc15, rfl⟩)).wk trivial
        · replace hP := hP.2 (Decidable.not_not.mp hc15)
          refine im_ld (q := 67) (i := 0) D418_66 rfl rfl rfl ?_
          refine im_gfR (q := 70) (b := 7049) D418_67 (im_fl cn_418 fl_12_303) sf_6952 rfl rfl tR_12_140 rf_6952_140 ?_
          refine im_ld (q := 71) (i := 1) D418_70 rfl rfl rfl ?_
          have hg18 := hP
          refine im_rng (j := p1) sf_7049 hg18.1 hg18.2 (fun hr19 => ?_)
          refine im_lald (q := 72) D418_71 sf_7049 hg18.1 hg18.2 (by decide) rfl ?_
          refine im_goto (q := 75) (t := 81) D418_72 rfl ?_
          exact (kJ26 ((M9 7049 p1)) (Or.inr (Or.inl ⟨hc12, hc13, hc14, (Decidable.not_not.mp hc15), rfl⟩))).wk trivial
      · replace hP := hP.2 (Decidable.not_not.mp hc14)
        refine im_ld (q := 53) (i := 0) D418_52 rfl rfl rfl ?_
        refine im_gfR (q := 56) (b := 7048) D418_53 (im_fl cn_418 fl_12_300) sf_6952 rfl rfl tR_12_139 rf_6952_139 ?_
        refine im_ld (q := 57) (i := 1) D418_56 rfl rfl rfl ?_
        have hg20 := hP
        refine im_rng (j := p1) sf_7048 hg20.1 hg20.2 (fun hr21 => ?_)
        refine im_lald (q := 58) D418_57 sf_7048 hg20.1 hg20.2 (by decide) rfl ?_
        refine im_goto (q := 61) (t := 81) D418_58 rfl ?_
        exact (kJ26 ((M9 7048 p1)) (Or.inr (Or.inr (Or.inl ⟨hc12, hc13, (Decidable.not_not.mp hc14), rfl⟩)))).wk trivial
    · replace hP := hP.2 (Decidable.not_not.mp hc13)
      refine im_ld (q := 38) (i := 0) D418_37 rfl rfl rfl ?_
      refine im_gfR (q := 41) (b := 7047) D418_38 (im_fl cn_418 fl_12_297) sf_6952 rfl rfl tR_12_138 rf_6952_138 ?_
      refine im_ld (q := 42) (i := 1) D418_41 rfl rfl rfl ?_
      have hg22 := hP
      refine im_rng (j := p1) sf_7047 hg22.1 hg22.2 (fun hr23 => ?_)
      refine im_iald (q := 43) D418_42 sf_7047 hg22.1 hg22.2 (by decide) rfl ?_
      refine im_i2l (q := 44) D418_43 hr23 ?_
      refine im_goto (q := 47) (t := 81) D418_44 rfl ?_
      exact (kJ26 ((M9 7047 p1)) (Or.inr (Or.inr (Or.inr ⟨hc12, (Decidable.not_not.mp hc13), rfl⟩)))).wk trivial
  · replace hP := hP.2 (Decidable.not_not.mp hc12)
    refine im_lconst (q := 32) (z := 0) D418_31 rfl ?_
    exact im_lret (q := 33) D418_32 rfl hP
set_option maxRecDepth 20000 in
set_option maxHeartbeats 4000000 in
theorem b_amount_0 {g : im_g} {d : Nat} {e : im_E} {M : im_M} {K : im_K} {p1 p2 : Int} (hd : 1 ≤ d) (hP : (im_i32 p1) ∧ (im_i32 p2) ∧ ((∀ x6 : Int, (((p2 = 0) ∧ x6 = (M 6952 137)) ∨ ((¬ p2 = 0) ∧ x6 = (M 6952 143))) → (im_i32 (x6 - 1)) ∧ im_T g (d - 1) 268 0 [some (vL p1), none, some (vL 0), none, some (vL (x6 - 1)), none] [] e M (im_ri (fun x12 e_ M11 => e = e_ ∧ im_T g (d - 1) 264 0 [some (.ref 6952), some (vI 2), some (vI x12), some (vI 1), some (vI 1)] [] e M11 (im_ri (fun x14 e_ M13 => e = e_ ∧ (im_i32 x14) ∧ ((¬ x14 = 0 → ((¬ p2 = 0 → (0 ≤ p1 ∧ p1 < 60) ∧ ((5 ≤ (M13 7052 p1) → K (.inl (some (vI 0))) e (im_u (im_u M13 6952 4 0) 6952 7 (M13 6952 6))) ∧ ((M13 7052 p1) < 5 → im_T g (d - 1) 345 0 [some (.ref 6952), some (.ref 7056), some (vI p1), none, none, none] [] e (im_u (im_u M13 6952 4 0) 6952 7 (M13 6952 6)) (im_ri (fun x24 e_ M23 => e = e_ ∧ im_T g (d - 1) 324 0 [some (.ref 6952), some (vI x24), none] [] e M23 (im_r0 (fun  e_ M25 => e = e_ ∧ K (.inl (some (vI (M25 6952 4)))) e M25))))))) ∧ (p2 = 0 → im_T g (d - 1) 345 0 [some (.ref 6952), some (.ref 7051), some (vI p1), none, none, none] [] e (im_u (im_u M13 6952 4 0) 6952 7 (M13 6952 6)) (im_ri (fun x30 e_ M29 => e = e_ ∧ im_T g (d - 1) 324 0 [some (.ref 6952), some (vI x30), none] [] e M29 (im_r0 (fun  e_ M31 => e = e_ ∧ K (.inl (some (vI (M31 6952 4)))) e M31))))))) ∧ (x14 = 0 → K (.inl (some (vI 0))) e M13))))))))) : im_T g d 419 0 [some (.ref 6952), some (vI p1), some (vI p2)] [] e M K := by
  refine im_ld (q := 1) (i := 0) D419_0 rfl rfl rfl ?_
  refine im_iconst (q := 2) D419_1 ?_
  refine im_ld (q := 3) (i := 1) D419_2 rfl rfl rfl ?_
  obtain ⟨hg1, hP⟩ := hP
  refine im_i2l (q := 4) D419_3 hg1 ?_
  refine im_lconst (q := 5) (z := 0) D419_4 rfl ?_
  refine im_ld (q := 6) (i := 2) D419_5 rfl rfl rfl ?_
  obtain ⟨hg2, hP⟩ := hP
  have hJ7 := hP
  have kJ8 : ∀ x6 : Int, (((p2 = 0) ∧ x6 = (M 6952 137)) ∨ ((¬ p2 = 0) ∧ x6 = (M 6952 143))) → im_T g d 419 20 [some (.ref 6952), some (vI p1), some (vI p2)] [vI x6, vL 0, vL p1, vI 2, .ref 6952] e M K := by
    intro x6 hx9
    have hP := hJ7 x6 hx9
    refine im_iconst (q := 21) D419_20 ?_
    refine im_isub (q := 22) D419_21 ?_
    obtain ⟨hg10, hP⟩ := hP
    refine im_i2l (q := 23) D419_22 hg10 ?_
    refine im_callS (q := 26) (kd := 0) (y := 268) (n := 3) (z := 12) (vs := [vL p1, vL 0, vL (x6 - 1)]) (r := [vI 2, .ref 6952]) (L2 := [some (vL p1), none, some (vL 0), none, some (vL (x6 - 1)), none]) D419_23 rfl (im_cal cn_419 cl_12_428) (Or.inl rfl) rfl rfl rfl rfl rfl hd ⟨rfl, rfl, rfl, trivial⟩ ?_
    refine hP.mono ?_
    rintro _ e36 M11 ⟨x12, rfl, rfl, hP⟩
    refine im_bkS ?_
    refine im_iconst (q := 27) D419_26 ?_
    refine im_iconst (q := 28) D419_27 ?_
    refine im_callV (q := 31) (kd := 1) (y := 264) (n := 4) (ci := 12) (a := 6952) (vs := [.ref 6952, vI 2, vI x12, vI 1, vI 1]) (r := []) (L2 := [some (.ref 6952), some (vI 2), some (vI x12), some (vI 1), some (vI 1)]) D419_28 (im_cal cn_419 cl_12_419) (Or.inl rfl) rfl sf_6952 rfl rfl rfl rfl hd ⟨rfl, rfl, rfl, rfl, rfl, trivial⟩ ?_
    refine hP.mono ?_
    rintro _ e35 M13 ⟨x14, rfl, rfl, hP⟩
    refine im_bkS ?_
    obtain ⟨hg15, hP⟩ := hP
    refine im_ifc (q := 34) (t := 36) D419_31 rfl hg15 (fun hc16 => ?_) (fun hc16 => ?_)
    · replace hP := hP.1 hc16
      refine im_ld (q := 37) (i := 0) D419_36 rfl rfl rfl ?_
      refine im_iconst (q := 38) D419_37 ?_
      refine im_pfI (q := 41) D419_38 (im_fl cn_419 fl_12_423) sf_6952 rfl rfl ti_12_4 (by decide) ?_
      refine im_ld (q := 42) (i := 0) D419_41 rfl rfl rfl ?_
      refine im_ld (q := 43) (i := 0) D419_42 rfl rfl rfl ?_
      refine im_rng (j := 6) sf_6952 (by decide) (by decide) (fun hr17 => ?_)
      refine im_gfI (q := 46) D419_43 (im_fl cn_419 fl_12_617) sf_6952 rfl rfl tI_12_6 (im_rdk _ _ _ (by decide)) ?_
      refine im_pfI (q := 49) D419_46 (im_fl cn_419 fl_12_449) sf_6952 rfl rfl ti_12_7 (im_rgc hr17 (im_rdk _ _ _ (by decide))) ?_
      refine im_ld (q := 50) (i := 2) D419_49 rfl rfl rfl ?_
      refine im_ifc (q := 53) (t := 69) D419_50 rfl hg2 (fun hc18 => ?_) (fun hc18 => ?_)
      · replace hP := hP.1 hc18
        refine im_ld (q := 70) (i := 0) D419_69 rfl rfl rfl ?_
        refine im_gfR (q := 73) (b := 7052) D419_70 (im_fl cn_419 fl_12_312) sf_6952 rfl rfl tR_12_144 rf_6952_144 ?_
        refine im_ld (q := 74) (i := 1) D419_73 rfl rfl rfl ?_
        obtain ⟨hg19, hP⟩ := hP
        refine im_rng (j := p1) sf_7052 hg19.1 hg19.2 (fun hr20 => ?_)
        refine im_iald (q := 75) D419_74 sf_7052 hg19.1 hg19.2 (by decide) ((im_rdn _ _ _ _ (by decide)).trans (im_rdn _ _ _ _ (by decide))) ?_
        refine im_iconst (q := 76) D419_75 ?_
        refine im_icmp (q := 79) (t := 92) D419_76 rfl (im_rgc hr20 ((im_rdn _ _ _ _ (by decide)).trans (im_rdn _ _ _ _ (by decide)))) (by decide) (fun hc21 => ?_) (fun hc21 => ?_)
        · replace hP := hP.1 hc21
          refine im_ld (q := 93) (i := 0) D419_92 rfl rfl rfl ?_
          refine im_gfI (q := 96) D419_93 (im_fl cn_419 fl_12_423) sf_6952 rfl rfl tI_12_4 ((im_rdk _ _ _ (by decide)).trans (im_rds _ _ _ _)) ?_
          exact im_iret (q := 97) D419_96 rfl hP
        · replace hP := hP.2 (Int.not_le.mp hc21)
          refine im_ld (q := 80) (i := 0) D419_79 rfl rfl rfl ?_
          refine im_ld (q := 81) (i := 0) D419_80 rfl rfl rfl ?_
          refine im_ld (q := 82) (i := 0) D419_81 rfl rfl rfl ?_
          refine im_gfR (q := 85) (b := 7056) D419_82 (im_fl cn_419 fl_12_324) sf_6952 rfl rfl tR_12_148 rf_6952_148 ?_
          refine im_ld (q := 86) (i := 1) D419_85 rfl rfl rfl ?_
          refine im_callV (q := 89) (kd := 1) (y := 345) (n := 2) (ci := 12) (a := 6952) (vs := [.ref 6952, .ref 7056, vI p1]) (r := [.ref 6952]) (L2 := [some (.ref 6952), some (.ref 7056), some (vI p1), none, none, none]) D419_86 (im_cal cn_419 cl_12_825) (Or.inl rfl) rfl sf_6952 rfl rfl rfl rfl hd ⟨rfl, rfl, rfl, trivial⟩ ?_
          refine hP.mono ?_
          rintro _ e28 M23 ⟨x24, rfl, rfl, hP⟩
          refine im_bkS ?_
          refine im_callV (q := 92) (kd := 1) (y := 324) (n := 1) (ci := 12) (a := 6952) (vs := [.ref 6952, vI x24]) (r := []) (L2 := [some (.ref 6952), some (vI x24), none]) D419_89 (im_cal cn_419 cl_12_756) (Or.inl rfl) rfl sf_6952 rfl rfl rfl rfl hd ⟨rfl, rfl, trivial⟩ ?_
          refine hP.mono ?_
          rintro _ e27 M25 ⟨rfl, rfl, hP⟩
          refine im_bkN ?_
          refine im_ld (q := 93) (i := 0) D419_92 rfl rfl rfl ?_
          refine im_rng (j := 4) sf_6952 (by decide) (by decide) (fun hr26 => ?_)
          refine im_gfI (q := 96) D419_93 (im_fl cn_419 fl_12_423) sf_6952 rfl rfl tI_12_4 rfl ?_
          exact im_iret (q := 97) D419_96 rfl hP
      · replace hP := hP.2 (Decidable.not_not.mp hc18)
        refine im_ld (q := 54) (i := 0) D419_53 rfl rfl rfl ?_
        refine im_ld (q := 55) (i := 0) D419_54 rfl rfl rfl ?_
        refine im_ld (q := 56) (i := 0) D419_55 rfl rfl rfl ?_
        refine im_gfR (q := 59) (b := 7051) D419_56 (im_fl cn_419 fl_12_309) sf_6952 rfl rfl tR_12_142 rf_6952_142 ?_
        refine im_ld (q := 60) (i := 1) D419_59 rfl rfl rfl ?_
        refine im_callV (q := 63) (kd := 1) (y := 345) (n := 2) (ci := 12) (a := 6952) (vs := [.ref 6952, .ref 7051, vI p1]) (r := [.ref 6952]) (L2 := [some (.ref 6952), some (.ref 7051), some (vI p1), none, none, none]) D419_60 (im_cal cn_419 cl_12_825) (Or.inl rfl) rfl sf_6952 rfl rfl rfl rfl hd ⟨rfl, rfl, rfl, trivial⟩ ?_
        refine hP.mono ?_
        rintro _ e34 M29 ⟨x30, rfl, rfl, hP⟩
        refine im_bkS ?_
        refine im_callV (q := 66) (kd := 1) (y := 324) (n := 1) (ci := 12) (a := 6952) (vs := [.ref 6952, vI x30]) (r := []) (L2 := [some (.ref 6952), some (vI x30), none]) D419_63 (im_cal cn_419 cl_12_756) (Or.inl rfl) rfl sf_6952 rfl rfl rfl rfl hd ⟨rfl, rfl, trivial⟩ ?_
        refine hP.mono ?_
        rintro _ e33 M31 ⟨rfl, rfl, hP⟩
        refine im_bkN ?_
        refine im_goto (q := 69) (t := 92) D419_66 rfl ?_
        refine im_ld (q := 93) (i := 0) D419_92 rfl rfl rfl ?_
        refine im_rng (j := 4) sf_6952 (by decide) (by decide) (fun hr32 => ?_)
        refine im_gfI (q := 96) D419_93 (im_fl cn_419 fl_12_423) sf_6952 rfl rfl tI_12_4 rfl ?_
        exact im_iret (q := 97) D419_96 rfl hP
    · replace hP := hP.2 (Decidable.not_not.mp hc16)
      refine im_iconst (q := 35) D419_34 ?_
      exact im_iret (q := 36) D419_35 rfl hP
  refine im_ifc (q := 9) (t := 16) D419_6 rfl hg2 (fun hc3 => ?_) (fun hc3 => ?_)
  · refine im_ld (q := 17) (i := 0) D419_16 rfl rfl rfl ?_
    refine im_rng (j := 137) sf_6952 (by decide) (by decide) (fun hr4 => ?_)
    refine im_gfI (q := 20) D419_17 (im_fl cn_419 fl_12_1035) sf_6952 rfl rfl tI_12_137 rfl ?_
    exact (kJ8 ((M 6952 137)) (Or.inl ⟨hc3, rfl⟩)).wk ⟨rfl, rfl, rfl, trivial⟩
  · refine im_ld (q := 10) (i := 0) D419_9 rfl rfl rfl ?_
    refine im_rng (j := 143) sf_6952 (by decide) (by decide) (fun hr5 => ?_)
    refine im_gfI (q := 13) D419_10 (im_fl cn_419 fl_12_1038) sf_6952 rfl rfl tI_12_143 rfl ?_
    refine im_goto (q := 16) (t := 20) D419_13 rfl ?_
    exact (kJ8 ((M 6952 143)) (Or.inr ⟨hc3, rfl⟩)).wk ⟨rfl, rfl, rfl, trivial⟩
set_option maxRecDepth 20000 in
set_option maxHeartbeats 4000000 in
theorem b_warning_0 {g : im_g} {d : Nat} {e : im_E} {M : im_M} {K : im_K} {p1 p2 : Int} (hd : 1 ≤ d) (hP : (im_i32 p1) ∧ (im_i32 ((M 6952 143) - 1)) ∧ im_T g (d - 1) 268 0 [some (vL p1), none, some (vL 0), none, some (vL ((M 6952 143) - 1)), none] [] e M (im_ri (fun x5 e_ M4 => e = e_ ∧ (im_i32 p2) ∧ im_T g (d - 1) 268 0 [some (vL p2), none, some (vL 0), none, some (vL 3), none] [] e M4 (im_ri (fun x8 e_ M7 => e = e_ ∧ im_T g (d - 1) 264 0 [some (.ref 6952), some (vI 3), some (vI x5), some (vI x8), some (vI 1)] [] e M7 (im_ri (fun x10 e_ M9 => e = e_ ∧ (im_i32 x10) ∧ ((((¬ x10 = 0 → ((¬ p2 = 0 → ((¬ p2 = 1 → ((¬ p2 = 2 → (0 ≤ p1 ∧ p1 < 60)) ∧ (p2 = 2 → (0 ≤ p1 ∧ p1 < 60)))) ∧ (p2 = 1 → (0 ≤ p1 ∧ p1 < 60)))) ∧ (p2 = 0 → (0 ≤ p1 ∧ p1 < 60)))) ∧ (x10 = 0 → K (.inl (some (vL 0))) e M9))) ∧ (∀ x24 : Int, (((¬ x10 = 0) ∧ (¬ p2 = 0) ∧ (¬ p2 = 1) ∧ (¬ p2 = 2) ∧ x24 = (M9 7055 p1)) ∨ ((¬ x10 = 0) ∧ (¬ p2 = 0) ∧ (¬ p2 = 1) ∧ (p2 = 2) ∧ x24 = (M9 7054 p1)) ∨ ((¬ x10 = 0) ∧ (¬ p2 = 0) ∧ (p2 = 1) ∧ x24 = (M9 7053 p1)) ∨ ((¬ x10 = 0) ∧ (p2 = 0) ∧ x24 = (M9 7052 p1))) → K (.inl (some (vL x24))) e M9))))))))) : im_T g d 420 0 [some (.ref 6952), some (vI p1), some (vI p2)] [] e M K := by
  refine im_ld (q := 1) (i := 0) D420_0 rfl rfl rfl ?_
  refine im_iconst (q := 2) D420_1 ?_
  refine im_ld (q := 3) (i := 1) D420_2 rfl rfl rfl ?_
  obtain ⟨hg1, hP⟩ := hP
  refine im_i2l (q := 4) D420_3 hg1 ?_
  refine im_lconst (q := 5) (z := 0) D420_4 rfl ?_
  refine im_ld (q := 6) (i := 0) D420_5 rfl rfl rfl ?_
  refine im_rng (j := 143) sf_6952 (by decide) (by decide) (fun hr2 => ?_)
  refine im_gfI (q := 9) D420_6 (im_fl cn_420 fl_12_1038) sf_6952 rfl rfl tI_12_143 rfl ?_
  refine im_iconst (q := 10) D420_9 ?_
  refine im_isub (q := 11) D420_10 ?_
  obtain ⟨hg3, hP⟩ := hP
  refine im_i2l (q := 12) D420_11 hg3 ?_
  refine im_callS (q := 15) (kd := 0) (y := 268) (n := 3) (z := 12) (vs := [vL p1, vL 0, vL ((M 6952 143) - 1)]) (r := [vI 3, .ref 6952]) (L2 := [some (vL p1), none, some (vL 0), none, some (vL ((M 6952 143) - 1)), none]) D420_12 rfl (im_cal cn_420 cl_12_428) (Or.inl rfl) rfl rfl rfl rfl rfl hd ⟨rfl, rfl, rfl, trivial⟩ ?_
  refine hP.mono ?_
  rintro _ e30 M4 ⟨x5, rfl, rfl, hP⟩
  refine im_bkS ?_
  refine im_ld (q := 16) (i := 2) D420_15 rfl rfl rfl ?_
  obtain ⟨hg6, hP⟩ := hP
  refine im_i2l (q := 17) D420_16 hg6 ?_
  refine im_lconst (q := 18) (z := 0) D420_17 rfl ?_
  refine im_ldc2 (q := 21) (n := 3) D420_18 rfl ?_
  refine im_callS (q := 24) (kd := 0) (y := 268) (n := 3) (z := 12) (vs := [vL p2, vL 0, vL 3]) (r := [vI x5, vI 3, .ref 6952]) (L2 := [some (vL p2), none, some (vL 0), none, some (vL 3), none]) D420_21 rfl (im_cal cn_420 cl_12_428) (Or.inl rfl) rfl rfl rfl rfl rfl hd ⟨rfl, rfl, rfl, trivial⟩ ?_
  refine hP.mono ?_
  rintro _ e29 M7 ⟨x8, rfl, rfl, hP⟩
  refine im_bkS ?_
  refine im_iconst (q := 25) D420_24 ?_
  refine im_callV (q := 28) (kd := 1) (y := 264) (n := 4) (ci := 12) (a := 6952) (vs := [.ref 6952, vI 3, vI x5, vI x8, vI 1]) (r := []) (L2 := [some (.ref 6952), some (vI 3), some (vI x5), some (vI x8), some (vI 1)]) D420_25 (im_cal cn_420 cl_12_419) (Or.inl rfl) rfl sf_6952 rfl rfl rfl rfl hd ⟨rfl, rfl, rfl, rfl, rfl, trivial⟩ ?_
  refine hP.mono ?_
  rintro _ e28 M9 ⟨x10, rfl, rfl, hP⟩
  refine im_bkS ?_
  obtain ⟨hg11, hP⟩ := hP
  obtain ⟨hP, hJ25⟩ := hP
  have kJ26 : ∀ x24 : Int, (((¬ x10 = 0) ∧ (¬ p2 = 0) ∧ (¬ p2 = 1) ∧ (¬ p2 = 2) ∧ x24 = (M9 7055 p1)) ∨ ((¬ x10 = 0) ∧ (¬ p2 = 0) ∧ (¬ p2 = 1) ∧ (p2 = 2) ∧ x24 = (M9 7054 p1)) ∨ ((¬ x10 = 0) ∧ (¬ p2 = 0) ∧ (p2 = 1) ∧ x24 = (M9 7053 p1)) ∨ ((¬ x10 = 0) ∧ (p2 = 0) ∧ x24 = (M9 7052 p1))) → im_T g d 420 81 [none, none, none] [vL x24] e M9 K := by
    intro x24 hx27
    have hP := hJ25 x24 hx27
    exact im_lret (q := 82) D420_81 rfl hP
  refine im_ifc (q := 31) (t := 33) D420_28 rfl hg11 (fun hc12 => ?_) (fun hc12 => ?_)
  · replace hP := hP.1 hc12
    refine im_ld (q := 34) (i := 2) D420_33 rfl rfl rfl ?_
    refine im_ifc (q := 37) (t := 47) D420_34 rfl hg6 (fun hc13 => ?_) (fun hc13 => ?_)
    · replace hP := hP.1 hc13
      refine im_ld (q := 48) (i := 2) D420_47 rfl rfl rfl ?_
      refine im_iconst (q := 49) D420_48 ?_
      refine im_icmp (q := 52) (t := 61) D420_49 rfl hg6 (by decide) (fun hc14 => ?_) (fun hc14 => ?_)
      · replace hP := hP.1 hc14
        refine im_ld (q := 62) (i := 2) D420_61 rfl rfl rfl ?_
        refine im_iconst (q := 63) D420_62 ?_
        refine im_icmp (q := 66) (t := 75) D420_63 rfl hg6 (by decide) (fun hc15 => ?_) (fun hc15 => ?_)
        · replace hP := hP.1 hc15
          refine im_ld (q := 76) (i := 0) D420_75 rfl rfl rfl ?_
          refine im_gfR (q := 79) (b := 7055) D420_76 (im_fl cn_420 fl_12_321) sf_6952 rfl rfl tR_12_147 rf_6952_147 ?_
          refine im_ld (q := 80) (i := 1) D420_79 rfl rfl rfl ?_
          have hg16 := hP
          refine im_rng (j := p1) sf_7055 hg16.1 hg16.2 (fun hr17 => ?_)
          refine im_lald (q := 81) D420_80 sf_7055 hg16.1 hg16.2 (by decide) rfl ?_
          exact (kJ26 ((M9 7055 p1)) (Or.inl ⟨hc12, hc13, hc14, hc15, rfl⟩)).wk trivial
        · replace hP := hP.2 (Decidable.not_not.mp hc15)
          refine im_ld (q := 67) (i := 0) D420_66 rfl rfl rfl ?_
          refine im_gfR (q := 70) (b := 7054) D420_67 (im_fl cn_420 fl_12_318) sf_6952 rfl rfl tR_12_146 rf_6952_146 ?_
          refine im_ld (q := 71) (i := 1) D420_70 rfl rfl rfl ?_
          have hg18 := hP
          refine im_rng (j := p1) sf_7054 hg18.1 hg18.2 (fun hr19 => ?_)
          refine im_lald (q := 72) D420_71 sf_7054 hg18.1 hg18.2 (by decide) rfl ?_
          refine im_goto (q := 75) (t := 81) D420_72 rfl ?_
          exact (kJ26 ((M9 7054 p1)) (Or.inr (Or.inl ⟨hc12, hc13, hc14, (Decidable.not_not.mp hc15), rfl⟩))).wk trivial
      · replace hP := hP.2 (Decidable.not_not.mp hc14)
        refine im_ld (q := 53) (i := 0) D420_52 rfl rfl rfl ?_
        refine im_gfR (q := 56) (b := 7053) D420_53 (im_fl cn_420 fl_12_315) sf_6952 rfl rfl tR_12_145 rf_6952_145 ?_
        refine im_ld (q := 57) (i := 1) D420_56 rfl rfl rfl ?_
        have hg20 := hP
        refine im_rng (j := p1) sf_7053 hg20.1 hg20.2 (fun hr21 => ?_)
        refine im_lald (q := 58) D420_57 sf_7053 hg20.1 hg20.2 (by decide) rfl ?_
        refine im_goto (q := 61) (t := 81) D420_58 rfl ?_
        exact (kJ26 ((M9 7053 p1)) (Or.inr (Or.inr (Or.inl ⟨hc12, hc13, (Decidable.not_not.mp hc14), rfl⟩)))).wk trivial
    · replace hP := hP.2 (Decidable.not_not.mp hc13)
      refine im_ld (q := 38) (i := 0) D420_37 rfl rfl rfl ?_
      refine im_gfR (q := 41) (b := 7052) D420_38 (im_fl cn_420 fl_12_312) sf_6952 rfl rfl tR_12_144 rf_6952_144 ?_
      refine im_ld (q := 42) (i := 1) D420_41 rfl rfl rfl ?_
      have hg22 := hP
      refine im_rng (j := p1) sf_7052 hg22.1 hg22.2 (fun hr23 => ?_)
      refine im_iald (q := 43) D420_42 sf_7052 hg22.1 hg22.2 (by decide) rfl ?_
      refine im_i2l (q := 44) D420_43 hr23 ?_
      refine im_goto (q := 47) (t := 81) D420_44 rfl ?_
      exact (kJ26 ((M9 7052 p1)) (Or.inr (Or.inr (Or.inr ⟨hc12, (Decidable.not_not.mp hc13), rfl⟩)))).wk trivial
  · replace hP := hP.2 (Decidable.not_not.mp hc12)
    refine im_lconst (q := 32) (z := 0) D420_31 rfl ?_
    exact im_lret (q := 33) D420_32 rfl hP
set_option maxRecDepth 20000 in
set_option maxHeartbeats 4000000 in
theorem b_mint_0 {g : im_g} {d : Nat} {e : im_E} {M : im_M} {K : im_K} {p1 p3 : Int} (hd : 1 ≤ d) (hP : (((M 6952 180) = 0 → im_T g (d - 1) 271 0 [some (.ref 6952), none] [] e M (im_r0 (fun  e_ M3 => e = e_ ∧ im_T g (d - 1) 333 0 [some (vL p1), none, none, none, none, none, none] [] e M3 (im_ri (fun x5 e_ M4 => e = e_ ∧ (im_i32 x5) ∧ ((x5 = 0 → im_T g (d - 1) 264 0 [some (.ref 6952), some (vI 2), some (vI 0), some (vI 1), some (vI 1)] [] e M4 (im_ri (fun x9 e_ M8 => e = e_ ∧ (im_i32 x9) ∧ ((¬ x9 = 0 → im_T g (d - 1) 422 0 [some (.ref 6952), some (vL p1), none, some (vL p3), none, none, none, none, none] [] e M8 (im_ri (fun x13 e_ M12 => e = e_ ∧ (im_i32 x13) ∧ ((¬ x13 = 0 → ((¬ x13 = (-100) → ((0 ≤ x13 → im_T g (d - 1) 424 0 [some (.ref 6952), some (vL p1), none, some (vL p3), none, none, none] [] e M12 (im_ri (fun x19 e_ M18 => e = e_ ∧ K (.inl (some (vI x19))) e M18))) ∧ (x13 < 0 → K (.inl (some (vI x13))) e M12))) ∧ (x13 = (-100) → K (.inl (some (vI 0))) e (im_u M12 6952 0 2)))) ∧ (x13 = 0 → im_T g (d - 1) 307 0 [some (.ref 6952), some (vI 5), some (vI 2), some (vL p1), none, some (vL p3), none, some (vL 0), none, some (vI 1), none, none, none, none] [] e M12 (im_ri (fun x22 e_ M21 => e = e_ ∧ (im_i32 x22) ∧ ((¬ x22 = (-100) → ((0 ≤ x22 → im_T g (d - 1) 424 0 [some (.ref 6952), some (vL p1), none, some (vL p3), none, none, none] [] e M21 (im_ri (fun x27 e_ M26 => e = e_ ∧ K (.inl (some (vI x27))) e M26))) ∧ (x22 < 0 → K (.inl (some (vI x22))) e M21))) ∧ (x22 = (-100) → K (.inl (some (vI 0))) e (im_u M21 6952 0 2)))))))))) ∧ (x9 = 0 → K (.inl (some (vI 0))) e M8))))) ∧ (¬ x5 = 0 → im_T g (d - 1) 333 0 [some (vL p3), none, none, none, none, none, none] [] e M4 (im_ri (fun x33 e_ M32 => e = e_ ∧ (im_i32 x33) ∧ ((x33 = 0 → im_T g (d - 1) 264 0 [some (.ref 6952), some (vI 2), some (vI 0), some (vI 1), some (vI 1)] [] e M32 (im_ri (fun x37 e_ M36 => e = e_ ∧ (im_i32 x37) ∧ ((¬ x37 = 0 → im_T g (d - 1) 422 0 [some (.ref 6952), some (vL p1), none, some (vL p3), none, none, none, none, none] [] e M36 (im_ri (fun x41 e_ M40 => e = e_ ∧ (im_i32 x41) ∧ ((¬ x41 = 0 → ((¬ x41 = (-100) → ((0 ≤ x41 → im_T g (d - 1) 424 0 [some (.ref 6952), some (vL p1), none, some (vL p3), none, none, none] [] e M40 (im_ri (fun x47 e_ M46 => e = e_ ∧ K (.inl (some (vI x47))) e M46))) ∧ (x41 < 0 → K (.inl (some (vI x41))) e M40))) ∧ (x41 = (-100) → K (.inl (some (vI 0))) e (im_u M40 6952 0 2)))) ∧ (x41 = 0 → im_T g (d - 1) 307 0 [some (.ref 6952), some (vI 5), some (vI 2), some (vL p1), none, some (vL p3), none, some (vL 0), none, some (vI 1), none, none, none, none] [] e M40 (im_ri (fun x50 e_ M49 => e = e_ ∧ (im_i32 x50) ∧ ((¬ x50 = (-100) → ((0 ≤ x50 → im_T g (d - 1) 424 0 [some (.ref 6952), some (vL p1), none, some (vL p3), none, none, none] [] e M49 (im_ri (fun x55 e_ M54 => e = e_ ∧ K (.inl (some (vI x55))) e M54))) ∧ (x50 < 0 → K (.inl (some (vI x50))) e M49))) ∧ (x50 = (-100) → K (.inl (some (vI 0))) e (im_u M49 6952 0 2)))))))))) ∧ (x37 = 0 → K (.inl (some (vI 0))) e M36))))) ∧ (¬ x33 = 0 → im_T g (d - 1) 264 0 [some (.ref 6952), some (vI 2), some (vI 1), some (vI 1), some (vI 1)] [] e M32 (im_ri (fun x61 e_ M60 => e = e_ ∧ (im_i32 x61) ∧ ((¬ x61 = 0 → im_T g (d - 1) 422 0 [some (.ref 6952), some (vL p1), none, some (vL p3), none, none, none, none, none] [] e M60 (im_ri (fun x65 e_ M64 => e = e_ ∧ (im_i32 x65) ∧ ((¬ x65 = 0 → ((¬ x65 = (-100) → ((0 ≤ x65 → im_T g (d - 1) 424 0 [some (.ref 6952), some (vL p1), none, some (vL p3), none, none, none] [] e M64 (im_ri (fun x71 e_ M70 => e = e_ ∧ K (.inl (some (vI x71))) e M70))) ∧ (x65 < 0 → K (.inl (some (vI x65))) e M64))) ∧ (x65 = (-100) → K (.inl (some (vI 0))) e (im_u M64 6952 0 2)))) ∧ (x65 = 0 → im_T g (d - 1) 307 0 [some (.ref 6952), some (vI 5), some (vI 2), some (vL p1), none, some (vL p3), none, some (vL 0), none, some (vI 1), none, none, none, none] [] e M64 (im_ri (fun x74 e_ M73 => e = e_ ∧ (im_i32 x74) ∧ ((¬ x74 = (-100) → ((0 ≤ x74 → im_T g (d - 1) 424 0 [some (.ref 6952), some (vL p1), none, some (vL p3), none, none, none] [] e M73 (im_ri (fun x79 e_ M78 => e = e_ ∧ K (.inl (some (vI x79))) e M78))) ∧ (x74 < 0 → K (.inl (some (vI x74))) e M73))) ∧ (x74 = (-100) → K (.inl (some (vI 0))) e (im_u M73 6952 0 2)))))))))) ∧ (x61 = 0 → K (.inl (some (vI 0))) e M60))))))))))))))) ∧ (¬ (M 6952 180) = 0 → K (.inl (some (vI 0))) e (im_u M 6952 0 2)))) : im_T g d 421 0 [some (.ref 6952), some (vL p1), none, some (vL p3), none, none] [] e M K := by
  refine im_ld (q := 1) (i := 0) D421_0 rfl rfl rfl ?_
  refine im_rng (j := 180) sf_6952 (by decide) (by decide) (fun hr1 => ?_)
  refine im_gfI (q := 4) D421_1 (im_fl cn_421 fl_12_412) sf_6952 rfl rfl tI_12_180 rfl ?_
  refine im_ifc (q := 7) (t := 14) D421_4 rfl (im_z32 hr1) (fun hc2 => ?_) (fun hc2 => ?_)
  · replace hP := hP.1 hc2
    refine im_ld (q := 15) (i := 0) D421_14 rfl rfl rfl ?_
    refine im_callV (q := 18) (kd := 1) (y := 271) (n := 0) (ci := 12) (a := 6952) (vs := [.ref 6952]) (r := []) (L2 := [some (.ref 6952), none]) D421_15 (im_cal cn_421 cl_12_734) (Or.inl rfl) rfl sf_6952 rfl rfl rfl rfl hd ⟨rfl, trivial⟩ ?_
    refine hP.mono ?_
    rintro _ e86 M3 ⟨rfl, rfl, hP⟩
    refine im_bkN ?_
    refine im_ld (q := 19) (i := 0) D421_18 rfl rfl rfl ?_
    refine im_iconst (q := 20) D421_19 ?_
    refine im_ld (q := 21) (i := 1) D421_20 rfl rfl rfl ?_
    refine im_callS (q := 24) (kd := 0) (y := 333) (n := 1) (z := 12) (vs := [vL p1]) (r := [vI 2, .ref 6952]) (L2 := [some (vL p1), none, none, none, none, none, none]) D421_21 rfl (im_cal cn_421 cl_12_800) (Or.inl rfl) rfl rfl rfl rfl rfl hd ⟨rfl, trivial⟩ ?_
    refine hP.mono ?_
    rintro _ e85 M4 ⟨x5, rfl, rfl, hP⟩
    refine im_bkS ?_
    obtain ⟨hg6, hP⟩ := hP
    refine im_ifc (q := 27) (t := 38) D421_24 rfl hg6 (fun hc7 => ?_) (fun hc7 => ?_)
    · replace hP := hP.1 hc7
      refine im_iconst (q := 39) D421_38 ?_
      refine im_iconst (q := 40) D421_39 ?_
      refine im_iconst (q := 41) D421_40 ?_
      refine im_callV (q := 44) (kd := 1) (y := 264) (n := 4) (ci := 12) (a := 6952) (vs := [.ref 6952, vI 2, vI 0, vI 1, vI 1]) (r := []) (L2 := [some (.ref 6952), some (vI 2), some (vI 0), some (vI 1), some (vI 1)]) D421_41 (im_cal cn_421 cl_12_419) (Or.inl rfl) rfl sf_6952 rfl rfl rfl rfl hd ⟨rfl, rfl, rfl, rfl, rfl, trivial⟩ ?_
      refine hP.mono ?_
      rintro _ e31 M8 ⟨x9, rfl, rfl, hP⟩
      refine im_bkS ?_
      obtain ⟨hg10, hP⟩ := hP
      refine im_ifc (q := 47) (t := 49) D421_44 rfl hg10 (fun hc11 => ?_) (fun hc11 => ?_)
      · replace hP := hP.1 hc11
        refine im_ld (q := 50) (i := 0) D421_49 rfl rfl rfl ?_
        refine im_ld (q := 51) (i := 1) D421_50 rfl rfl rfl ?_
        refine im_ld (q := 52) (i := 3) D421_51 rfl rfl rfl ?_
        refine im_callV (q := 55) (kd := 1) (y := 422) (n := 2) (ci := 12) (a := 6952) (vs := [.ref 6952, vL p1, vL p3]) (r := []) (L2 := [some (.ref 6952), some (vL p1), none, some (vL p3), none, none, none, none, none]) D421_52 (im_cal cn_421 cl_12_1083) (Or.inl rfl) rfl sf_6952 rfl rfl rfl rfl hd ⟨rfl, rfl, rfl, trivial⟩ ?_
        refine hP.mono ?_
        rintro _ e30 M12 ⟨x13, rfl, rfl, hP⟩
        refine im_bkS ?_
        refine im_st1 (q := 57) (i := 5) (L' := [some (.ref 6952), some (vL p1), none, some (vL p3), none, some (vI x13)]) D421_55 (Or.inr rfl) (Nat.le_of_ble_eq_true rfl) rfl ?_
        refine im_ld (q := 59) (i := 5) D421_57 rfl rfl rfl ?_
        obtain ⟨hg14, hP⟩ := hP
        refine im_ifc (q := 62) (t := 74) D421_59 rfl hg14 (fun hc15 => ?_) (fun hc15 => ?_)
        · replace hP := hP.1 hc15
          refine im_ld (q := 76) (i := 5) D421_74 rfl rfl rfl ?_
          refine im_bipush (q := 78) D421_76 rfl ?_
          refine im_icmp (q := 81) (t := 88) D421_78 rfl hg14 (by decide) (fun hc16 => ?_) (fun hc16 => ?_)
          · replace hP := hP.1 hc16
            refine im_ld (q := 90) (i := 5) D421_88 rfl rfl rfl ?_
            refine im_ifc (q := 93) (t := 98) D421_90 rfl hg14 (fun hc17 => ?_) (fun hc17 => ?_)
            · replace hP := hP.1 hc17
              refine im_ld (q := 99) (i := 0) D421_98 rfl rfl rfl ?_
              refine im_ld (q := 100) (i := 1) D421_99 rfl rfl rfl ?_
              refine im_ld (q := 101) (i := 3) D421_100 rfl rfl rfl ?_
              refine im_callV (q := 104) (kd := 1) (y := 424) (n := 2) (ci := 12) (a := 6952) (vs := [.ref 6952, vL p1, vL p3]) (r := []) (L2 := [some (.ref 6952), some (vL p1), none, some (vL p3), none, none, none]) D421_101 (im_cal cn_421 cl_12_1086) (Or.inl rfl) rfl sf_6952 rfl rfl rfl rfl hd ⟨rfl, rfl, rfl, trivial⟩ ?_
              refine hP.mono ?_
              rintro _ e20 M18 ⟨x19, rfl, rfl, hP⟩
              refine im_bkS ?_
              exact im_iret (q := 105) D421_104 rfl hP
            · replace hP := hP.2 (Int.not_le.mp hc17)
              refine im_ld (q := 95) (i := 5) D421_93 rfl rfl rfl ?_
              refine im_goto (q := 98) (t := 104) D421_95 rfl ?_
              exact im_iret (q := 105) D421_104 rfl hP
          · replace hP := hP.2 (Decidable.not_not.mp hc16)
            refine im_ld (q := 82) (i := 0) D421_81 rfl rfl rfl ?_
            refine im_iconst (q := 83) D421_82 ?_
            refine im_pfI (q := 86) D421_83 (im_fl cn_421 fl_12_409) sf_6952 rfl rfl ti_12_0 (by decide) ?_
            refine im_iconst (q := 87) D421_86 ?_
            exact im_iret (q := 88) D421_87 rfl hP
        · replace hP := hP.2 (Decidable.not_not.mp hc15)
          refine im_ld (q := 63) (i := 0) D421_62 rfl rfl rfl ?_
          refine im_iconst (q := 64) D421_63 ?_
          refine im_iconst (q := 65) D421_64 ?_
          refine im_ld (q := 66) (i := 1) D421_65 rfl rfl rfl ?_
          refine im_ld (q := 67) (i := 3) D421_66 rfl rfl rfl ?_
          refine im_lconst (q := 68) (z := 0) D421_67 rfl ?_
          refine im_iconst (q := 69) D421_68 ?_
          refine im_callV (q := 72) (kd := 1) (y := 307) (n := 6) (ci := 12) (a := 6952) (vs := [.ref 6952, vI 5, vI 2, vL p1, vL p3, vL 0, vI 1]) (r := []) (L2 := [some (.ref 6952), some (vI 5), some (vI 2), some (vL p1), none, some (vL p3), none, some (vL 0), none, some (vI 1), none, none, none, none]) D421_69 (im_cal cn_421 cl_12_740) (Or.inl rfl) rfl sf_6952 rfl rfl rfl rfl hd ⟨rfl, rfl, rfl, rfl, rfl, rfl, rfl, trivial⟩ ?_
          refine hP.mono ?_
          rintro _ e29 M21 ⟨x22, rfl, rfl, hP⟩
          refine im_bkS ?_
          refine im_st1 (q := 74) (i := 5) (L' := [some (.ref 6952), some (vL p1), none, some (vL p3), none, some (vI x22)]) D421_72 (Or.inr rfl) (Nat.le_of_ble_eq_true rfl) rfl ?_
          refine im_ld (q := 76) (i := 5) D421_74 rfl rfl rfl ?_
          refine im_bipush (q := 78) D421_76 rfl ?_
          obtain ⟨hg23, hP⟩ := hP
          refine im_icmp (q := 81) (t := 88) D421_78 rfl hg23 (by decide) (fun hc24 => ?_) (fun hc24 => ?_)
          · replace hP := hP.1 hc24
            refine im_ld (q := 90) (i := 5) D421_88 rfl rfl rfl ?_
            refine im_ifc (q := 93) (t := 98) D421_90 rfl hg23 (fun hc25 => ?_) (fun hc25 => ?_)
            · replace hP := hP.1 hc25
              refine im_ld (q := 99) (i := 0) D421_98 rfl rfl rfl ?_
              refine im_ld (q := 100) (i := 1) D421_99 rfl rfl rfl ?_
              refine im_ld (q := 101) (i := 3) D421_100 rfl rfl rfl ?_
              refine im_callV (q := 104) (kd := 1) (y := 424) (n := 2) (ci := 12) (a := 6952) (vs := [.ref 6952, vL p1, vL p3]) (r := []) (L2 := [some (.ref 6952), some (vL p1), none, some (vL p3), none, none, none]) D421_101 (im_cal cn_421 cl_12_1086) (Or.inl rfl) rfl sf_6952 rfl rfl rfl rfl hd ⟨rfl, rfl, rfl, trivial⟩ ?_
              refine hP.mono ?_
              rintro _ e28 M26 ⟨x27, rfl, rfl, hP⟩
              refine im_bkS ?_
              exact im_iret (q := 105) D421_104 rfl hP
            · replace hP := hP.2 (Int.not_le.mp hc25)
              refine im_ld (q := 95) (i := 5) D421_93 rfl rfl rfl ?_
              refine im_goto (q := 98) (t := 104) D421_95 rfl ?_
              exact im_iret (q := 105) D421_104 rfl hP
          · replace hP := hP.2 (Decidable.not_not.mp hc24)
            refine im_ld (q := 82) (i := 0) D421_81 rfl rfl rfl ?_
            refine im_iconst (q := 83) D421_82 ?_
            refine im_pfI (q := 86) D421_83 (im_fl cn_421 fl_12_409) sf_6952 rfl rfl ti_12_0 (by decide) ?_
            refine im_iconst (q := 87) D421_86 ?_
            exact im_iret (q := 88) D421_87 rfl hP
      · replace hP := hP.2 (Decidable.not_not.mp hc11)
        refine im_iconst (q := 48) D421_47 ?_
        exact im_iret (q := 49) D421_48 rfl hP
    · replace hP := hP.2 hc7
      refine im_ld (q := 28) (i := 3) D421_27 rfl rfl rfl ?_
      refine im_callS (q := 31) (kd := 0) (y := 333) (n := 1) (z := 12) (vs := [vL p3]) (r := [vI 2, .ref 6952]) (L2 := [some (vL p3), none, none, none, none, none, none]) D421_28 rfl (im_cal cn_421 cl_12_800) (Or.inl rfl) rfl rfl rfl rfl rfl hd ⟨rfl, trivial⟩ ?_
      refine hP.mono ?_
      rintro _ e84 M32 ⟨x33, rfl, rfl, hP⟩
      refine im_bkS ?_
      obtain ⟨hg34, hP⟩ := hP
      refine im_ifc (q := 34) (t := 38) D421_31 rfl hg34 (fun hc35 => ?_) (fun hc35 => ?_)
      · replace hP := hP.1 hc35
        refine im_iconst (q := 39) D421_38 ?_
        refine im_iconst (q := 40) D421_39 ?_
        refine im_iconst (q := 41) D421_40 ?_
        refine im_callV (q := 44) (kd := 1) (y := 264) (n := 4) (ci := 12) (a := 6952) (vs := [.ref 6952, vI 2, vI 0, vI 1, vI 1]) (r := []) (L2 := [some (.ref 6952), some (vI 2), some (vI 0), some (vI 1), some (vI 1)]) D421_41 (im_cal cn_421 cl_12_419) (Or.inl rfl) rfl sf_6952 rfl rfl rfl rfl hd ⟨rfl, rfl, rfl, rfl, rfl, trivial⟩ ?_
        refine hP.mono ?_
        rintro _ e59 M36 ⟨x37, rfl, rfl, hP⟩
        refine im_bkS ?_
        obtain ⟨hg38, hP⟩ := hP
        refine im_ifc (q := 47) (t := 49) D421_44 rfl hg38 (fun hc39 => ?_) (fun hc39 => ?_)
        · replace hP := hP.1 hc39
          refine im_ld (q := 50) (i := 0) D421_49 rfl rfl rfl ?_
          refine im_ld (q := 51) (i := 1) D421_50 rfl rfl rfl ?_
          refine im_ld (q := 52) (i := 3) D421_51 rfl rfl rfl ?_
          refine im_callV (q := 55) (kd := 1) (y := 422) (n := 2) (ci := 12) (a := 6952) (vs := [.ref 6952, vL p1, vL p3]) (r := []) (L2 := [some (.ref 6952), some (vL p1), none, some (vL p3), none, none, none, none, none]) D421_52 (im_cal cn_421 cl_12_1083) (Or.inl rfl) rfl sf_6952 rfl rfl rfl rfl hd ⟨rfl, rfl, rfl, trivial⟩ ?_
          refine hP.mono ?_
          rintro _ e58 M40 ⟨x41, rfl, rfl, hP⟩
          refine im_bkS ?_
          refine im_st1 (q := 57) (i := 5) (L' := [some (.ref 6952), some (vL p1), none, some (vL p3), none, some (vI x41)]) D421_55 (Or.inr rfl) (Nat.le_of_ble_eq_true rfl) rfl ?_
          refine im_ld (q := 59) (i := 5) D421_57 rfl rfl rfl ?_
          obtain ⟨hg42, hP⟩ := hP
          refine im_ifc (q := 62) (t := 74) D421_59 rfl hg42 (fun hc43 => ?_) (fun hc43 => ?_)
          · replace hP := hP.1 hc43
            refine im_ld (q := 76) (i := 5) D421_74 rfl rfl rfl ?_
            refine im_bipush (q := 78) D421_76 rfl ?_
            refine im_icmp (q := 81) (t := 88) D421_78 rfl hg42 (by decide) (fun hc44 => ?_) (fun hc44 => ?_)
            · replace hP := hP.1 hc44
              refine im_ld (q := 90) (i := 5) D421_88 rfl rfl rfl ?_
              refine im_ifc (q := 93) (t := 98) D421_90 rfl hg42 (fun hc45 => ?_) (fun hc45 => ?_)
              · replace hP := hP.1 hc45
                refine im_ld (q := 99) (i := 0) D421_98 rfl rfl rfl ?_
                refine im_ld (q := 100) (i := 1) D421_99 rfl rfl rfl ?_
                refine im_ld (q := 101) (i := 3) D421_100 rfl rfl rfl ?_
                refine im_callV (q := 104) (kd := 1) (y := 424) (n := 2) (ci := 12) (a := 6952) (vs := [.ref 6952, vL p1, vL p3]) (r := []) (L2 := [some (.ref 6952), some (vL p1), none, some (vL p3), none, none, none]) D421_101 (im_cal cn_421 cl_12_1086) (Or.inl rfl) rfl sf_6952 rfl rfl rfl rfl hd ⟨rfl, rfl, rfl, trivial⟩ ?_
                refine hP.mono ?_
                rintro _ e48 M46 ⟨x47, rfl, rfl, hP⟩
                refine im_bkS ?_
                exact im_iret (q := 105) D421_104 rfl hP
              · replace hP := hP.2 (Int.not_le.mp hc45)
                refine im_ld (q := 95) (i := 5) D421_93 rfl rfl rfl ?_
                refine im_goto (q := 98) (t := 104) D421_95 rfl ?_
                exact im_iret (q := 105) D421_104 rfl hP
            · replace hP := hP.2 (Decidable.not_not.mp hc44)
              refine im_ld (q := 82) (i := 0) D421_81 rfl rfl rfl ?_
              refine im_iconst (q := 83) D421_82 ?_
              refine im_pfI (q := 86) D421_83 (im_fl cn_421 fl_12_409) sf_6952 rfl rfl ti_12_0 (by decide) ?_
              refine im_iconst (q := 87) D421_86 ?_
              exact im_iret (q := 88) D421_87 rfl hP
          · replace hP := hP.2 (Decidable.not_not.mp hc43)
            refine im_ld (q := 63) (i := 0) D421_62 rfl rfl rfl ?_
            refine im_iconst (q := 64) D421_63 ?_
            refine im_iconst (q := 65) D421_64 ?_
            refine im_ld (q := 66) (i := 1) D421_65 rfl rfl rfl ?_
            refine im_ld (q := 67) (i := 3) D421_66 rfl rfl rfl ?_
            refine im_lconst (q := 68) (z := 0) D421_67 rfl ?_
            refine im_iconst (q := 69) D421_68 ?_
            refine im_callV (q := 72) (kd := 1) (y := 307) (n := 6) (ci := 12) (a := 6952) (vs := [.ref 6952, vI 5, vI 2, vL p1, vL p3, vL 0, vI 1]) (r := []) (L2 := [some (.ref 6952), some (vI 5), some (vI 2), some (vL p1), none, some (vL p3), none, some (vL 0), none, some (vI 1), none, none, none, none]) D421_69 (im_cal cn_421 cl_12_740) (Or.inl rfl) rfl sf_6952 rfl rfl rfl rfl hd ⟨rfl, rfl, rfl, rfl, rfl, rfl, rfl, trivial⟩ ?_
            refine hP.mono ?_
            rintro _ e57 M49 ⟨x50, rfl, rfl, hP⟩
            refine im_bkS ?_
            refine im_st1 (q := 74) (i := 5) (L' := [some (.ref 6952), some (vL p1), none, some (vL p3), none, some (vI x50)]) D421_72 (Or.inr rfl) (Nat.le_of_ble_eq_true rfl) rfl ?_
            refine im_ld (q := 76) (i := 5) D421_74 rfl rfl rfl ?_
            refine im_bipush (q := 78) D421_76 rfl ?_
            obtain ⟨hg51, hP⟩ := hP
            refine im_icmp (q := 81) (t := 88) D421_78 rfl hg51 (by decide) (fun hc52 => ?_) (fun hc52 => ?_)
            · replace hP := hP.1 hc52
              refine im_ld (q := 90) (i := 5) D421_88 rfl rfl rfl ?_
              refine im_ifc (q := 93) (t := 98) D421_90 rfl hg51 (fun hc53 => ?_) (fun hc53 => ?_)
              · replace hP := hP.1 hc53
                refine im_ld (q := 99) (i := 0) D421_98 rfl rfl rfl ?_
                refine im_ld (q := 100) (i := 1) D421_99 rfl rfl rfl ?_
                refine im_ld (q := 101) (i := 3) D421_100 rfl rfl rfl ?_
                refine im_callV (q := 104) (kd := 1) (y := 424) (n := 2) (ci := 12) (a := 6952) (vs := [.ref 6952, vL p1, vL p3]) (r := []) (L2 := [some (.ref 6952), some (vL p1), none, some (vL p3), none, none, none]) D421_101 (im_cal cn_421 cl_12_1086) (Or.inl rfl) rfl sf_6952 rfl rfl rfl rfl hd ⟨rfl, rfl, rfl, trivial⟩ ?_
                refine hP.mono ?_
                rintro _ e56 M54 ⟨x55, rfl, rfl, hP⟩
                refine im_bkS ?_
                exact im_iret (q := 105) D421_104 rfl hP
              · replace hP := hP.2 (Int.not_le.mp hc53)
                refine im_ld (q := 95) (i := 5) D421_93 rfl rfl rfl ?_
                refine im_goto (q := 98) (t := 104) D421_95 rfl ?_
                exact im_iret (q := 105) D421_104 rfl hP
            · replace hP := hP.2 (Decidable.not_not.mp hc52)
              refine im_ld (q := 82) (i := 0) D421_81 rfl rfl rfl ?_
              refine im_iconst (q := 83) D421_82 ?_
              refine im_pfI (q := 86) D421_83 (im_fl cn_421 fl_12_409) sf_6952 rfl rfl ti_12_0 (by decide) ?_
              refine im_iconst (q := 87) D421_86 ?_
              exact im_iret (q := 88) D421_87 rfl hP
        · replace hP := hP.2 (Decidable.not_not.mp hc39)
          refine im_iconst (q := 48) D421_47 ?_
          exact im_iret (q := 49) D421_48 rfl hP
      · replace hP := hP.2 hc35
        refine im_iconst (q := 35) D421_34 ?_
        refine im_goto (q := 38) (t := 39) D421_35 rfl ?_
        refine im_iconst (q := 40) D421_39 ?_
        refine im_iconst (q := 41) D421_40 ?_
        refine im_callV (q := 44) (kd := 1) (y := 264) (n := 4) (ci := 12) (a := 6952) (vs := [.ref 6952, vI 2, vI 1, vI 1, vI 1]) (r := []) (L2 := [some (.ref 6952), some (vI 2), some (vI 1), some (vI 1), some (vI 1)]) D421_41 (im_cal cn_421 cl_12_419) (Or.inl rfl) rfl sf_6952 rfl rfl rfl rfl hd ⟨rfl, rfl, rfl, rfl, rfl, trivial⟩ ?_
        refine hP.mono ?_
        rintro _ e83 M60 ⟨x61, rfl, rfl, hP⟩
        refine im_bkS ?_
        obtain ⟨hg62, hP⟩ := hP
        refine im_ifc (q := 47) (t := 49) D421_44 rfl hg62 (fun hc63 => ?_) (fun hc63 => ?_)
        · replace hP := hP.1 hc63
          refine im_ld (q := 50) (i := 0) D421_49 rfl rfl rfl ?_
          refine im_ld (q := 51) (i := 1) D421_50 rfl rfl rfl ?_
          refine im_ld (q := 52) (i := 3) D421_51 rfl rfl rfl ?_
          refine im_callV (q := 55) (kd := 1) (y := 422) (n := 2) (ci := 12) (a := 6952) (vs := [.ref 6952, vL p1, vL p3]) (r := []) (L2 := [some (.ref 6952), some (vL p1), none, some (vL p3), none, none, none, none, none]) D421_52 (im_cal cn_421 cl_12_1083) (Or.inl rfl) rfl sf_6952 rfl rfl rfl rfl hd ⟨rfl, rfl, rfl, trivial⟩ ?_
          refine hP.mono ?_
          rintro _ e82 M64 ⟨x65, rfl, rfl, hP⟩
          refine im_bkS ?_
          refine im_st1 (q := 57) (i := 5) (L' := [some (.ref 6952), some (vL p1), none, some (vL p3), none, some (vI x65)]) D421_55 (Or.inr rfl) (Nat.le_of_ble_eq_true rfl) rfl ?_
          refine im_ld (q := 59) (i := 5) D421_57 rfl rfl rfl ?_
          obtain ⟨hg66, hP⟩ := hP
          refine im_ifc (q := 62) (t := 74) D421_59 rfl hg66 (fun hc67 => ?_) (fun hc67 => ?_)
          · replace hP := hP.1 hc67
            refine im_ld (q := 76) (i := 5) D421_74 rfl rfl rfl ?_
            refine im_bipush (q := 78) D421_76 rfl ?_
            refine im_icmp (q := 81) (t := 88) D421_78 rfl hg66 (by decide) (fun hc68 => ?_) (fun hc68 => ?_)
            · replace hP := hP.1 hc68
              refine im_ld (q := 90) (i := 5) D421_88 rfl rfl rfl ?_
              refine im_ifc (q := 93) (t := 98) D421_90 rfl hg66 (fun hc69 => ?_) (fun hc69 => ?_)
              · replace hP := hP.1 hc69
                refine im_ld (q := 99) (i := 0) D421_98 rfl rfl rfl ?_
                refine im_ld (q := 100) (i := 1) D421_99 rfl rfl rfl ?_
                refine im_ld (q := 101) (i := 3) D421_100 rfl rfl rfl ?_
                refine im_callV (q := 104) (kd := 1) (y := 424) (n := 2) (ci := 12) (a := 6952) (vs := [.ref 6952, vL p1, vL p3]) (r := []) (L2 := [some (.ref 6952), some (vL p1), none, some (vL p3), none, none, none]) D421_101 (im_cal cn_421 cl_12_1086) (Or.inl rfl) rfl sf_6952 rfl rfl rfl rfl hd ⟨rfl, rfl, rfl, trivial⟩ ?_
                refine hP.mono ?_
                rintro _ e72 M70 ⟨x71, rfl, rfl, hP⟩
                refine im_bkS ?_
                exact im_iret (q := 105) D421_104 rfl hP
              · replace hP := hP.2 (Int.not_le.mp hc69)
                refine im_ld (q := 95) (i := 5) D421_93 rfl rfl rfl ?_
                refine im_goto (q := 98) (t := 104) D421_95 rfl ?_
                exact im_iret (q := 105) D421_104 rfl hP
            · replace hP := hP.2 (Decidable.not_not.mp hc68)
              refine im_ld (q := 82) (i := 0) D421_81 rfl rfl rfl ?_
              refine im_iconst (q := 83) D421_82 ?_
              refine im_pfI (q := 86) D421_83 (im_fl cn_421 fl_12_409) sf_6952 rfl rfl ti_12_0 (by decide) ?_
              refine im_iconst (q := 87) D421_86 ?_
              exact im_iret (q := 88) D421_87 rfl hP
          · replace hP := hP.2 (Decidable.not_not.mp hc67)
            refine im_ld (q := 63) (i := 0) D421_62 rfl rfl rfl ?_
            refine im_iconst (q := 64) D421_63 ?_
            refine im_iconst (q := 65) D421_64 ?_
            refine im_ld (q := 66) (i := 1) D421_65 rfl rfl rfl ?_
            refine im_ld (q := 67) (i := 3) D421_66 rfl rfl rfl ?_
            refine im_lconst (q := 68) (z := 0) D421_67 rfl ?_
            refine im_iconst (q := 69) D421_68 ?_
            refine im_callV (q := 72) (kd := 1) (y := 307) (n := 6) (ci := 12) (a := 6952) (vs := [.ref 6952, vI 5, vI 2, vL p1, vL p3, vL 0, vI 1]) (r := []) (L2 := [some (.ref 6952), some (vI 5), some (vI 2), some (vL p1), none, some (vL p3), none, some (vL 0), none, some (vI 1), none, none, none, none]) D421_69 (im_cal cn_421 cl_12_740) (Or.inl rfl) rfl sf_6952 rfl rfl rfl rfl hd ⟨rfl, rfl, rfl, rfl, rfl, rfl, rfl, trivial⟩ ?_
            refine hP.mono ?_
            rintro _ e81 M73 ⟨x74, rfl, rfl, hP⟩
            refine im_bkS ?_
            refine im_st1 (q := 74) (i := 5) (L' := [some (.ref 6952), some (vL p1), none, some (vL p3), none, some (vI x74)]) D421_72 (Or.inr rfl) (Nat.le_of_ble_eq_true rfl) rfl ?_
            refine im_ld (q := 76) (i := 5) D421_74 rfl rfl rfl ?_
            refine im_bipush (q := 78) D421_76 rfl ?_
            obtain ⟨hg75, hP⟩ := hP
            refine im_icmp (q := 81) (t := 88) D421_78 rfl hg75 (by decide) (fun hc76 => ?_) (fun hc76 => ?_)
            · replace hP := hP.1 hc76
              refine im_ld (q := 90) (i := 5) D421_88 rfl rfl rfl ?_
              refine im_ifc (q := 93) (t := 98) D421_90 rfl hg75 (fun hc77 => ?_) (fun hc77 => ?_)
              · replace hP := hP.1 hc77
                refine im_ld (q := 99) (i := 0) D421_98 rfl rfl rfl ?_
                refine im_ld (q := 100) (i := 1) D421_99 rfl rfl rfl ?_
                refine im_ld (q := 101) (i := 3) D421_100 rfl rfl rfl ?_
                refine im_callV (q := 104) (kd := 1) (y := 424) (n := 2) (ci := 12) (a := 6952) (vs := [.ref 6952, vL p1, vL p3]) (r := []) (L2 := [some (.ref 6952), some (vL p1), none, some (vL p3), none, none, none]) D421_101 (im_cal cn_421 cl_12_1086) (Or.inl rfl) rfl sf_6952 rfl rfl rfl rfl hd ⟨rfl, rfl, rfl, trivial⟩ ?_
                refine hP.mono ?_
                rintro _ e80 M78 ⟨x79, rfl, rfl, hP⟩
                refine im_bkS ?_
                exact im_iret (q := 105) D421_104 rfl hP
              · replace hP := hP.2 (Int.not_le.mp hc77)
                refine im_ld (q := 95) (i := 5) D421_93 rfl rfl rfl ?_
                refine im_goto (q := 98) (t := 104) D421_95 rfl ?_
                exact im_iret (q := 105) D421_104 rfl hP
            · replace hP := hP.2 (Decidable.not_not.mp hc76)
              refine im_ld (q := 82) (i := 0) D421_81 rfl rfl rfl ?_
              refine im_iconst (q := 83) D421_82 ?_
              refine im_pfI (q := 86) D421_83 (im_fl cn_421 fl_12_409) sf_6952 rfl rfl ti_12_0 (by decide) ?_
              refine im_iconst (q := 87) D421_86 ?_
              exact im_iret (q := 88) D421_87 rfl hP
        · replace hP := hP.2 (Decidable.not_not.mp hc63)
          refine im_iconst (q := 48) D421_47 ?_
          exact im_iret (q := 49) D421_48 rfl hP
  · replace hP := hP.2 hc2
    refine im_ld (q := 8) (i := 0) D421_7 rfl rfl rfl ?_
    refine im_iconst (q := 9) D421_8 ?_
    refine im_pfI (q := 12) D421_9 (im_fl cn_421 fl_12_409) sf_6952 rfl rfl ti_12_0 (by decide) ?_
    refine im_iconst (q := 13) D421_12 ?_
    exact im_iret (q := 14) D421_13 rfl hP
set_option maxRecDepth 20000 in
set_option maxHeartbeats 4000000 in
theorem b_tryMint_0 {g : im_g} {d : Nat} {e : im_E} {M : im_M} {K : im_K} {p1 p3 : Int} (hd : 1 ≤ d) (hP : im_T g (d - 1) 333 0 [some (vL p1), none, none, none, none, none, none] [] e M (im_ri (fun x2 e_ M1 => e = e_ ∧ (im_i32 x2) ∧ ((x2 = 0 → K (.inl (some (vI (-101)))) e M1) ∧ (¬ x2 = 0 → im_T g (d - 1) 333 0 [some (vL p3), none, none, none, none, none, none] [] e M1 (im_ri (fun x6 e_ M5 => e = e_ ∧ (im_i32 x6) ∧ ((¬ x6 = 0 → im_T g (d - 1) 335 0 [some (.ref 6952), none] [] e M5 (im_ri (fun x10 e_ M9 => e = e_ ∧ (im_i32 x10) ∧ (((M9 6952 19) ≤ 0 → (0 ≤ x10 ∧ x10 < 1100000) ∧ ((0 < (M9 6955 x10) → im_T g (d - 1) 362 0 [some (.ref 6952), none] [] e (im_u M9 6952 65 x10) (im_r0 (fun  e_ M18 => e = e_ ∧ im_T g (d - 1) 423 0 [some (.ref 6952), some (vL p3), none, none] [] e M18 (im_ri (fun x20 e_ M19 => e = e_ ∧ im_T g (d - 1) 370 0 [some (.ref 6952), some (vL p1), none, some (vL p3), none, none] [] e M19 (im_ri (fun x22 e_ M21 => e = e_ ∧ (im_i32 x20) ∧ ((¬ x20 = (-1) → im_T g (d - 1) 345 0 [some (.ref 6952), some (.ref 7046), some (vI x20), none, none, none] [] e (im_u M21 6952 101 0) (im_ri (fun x27 e_ M26 => e = e_ ∧ im_T g (d - 1) 371 0 [some (.ref 6952), some (vI x27), some (vI (M26 6952 65)), some (vI 1), none] [] e M26 (im_ri (fun x30 e_ M29 => e = e_ ∧ (im_i32 x22) ∧ ((¬ x22 = (-1) → (0 ≤ x22 ∧ x22 < 61) ∧ im_T g (d - 1) 371 0 [some (.ref 6952), some (vI (M29 7033 x22)), some (vI (M29 6952 65)), some (vI 1), none] [] e M29 (im_ri (fun x38 e_ M37 => e = e_ ∧ ((((0 ≤ (M37 6952 101) → ((x22 = (-1) → (((M37 6952 130) = 60 → K (.inl (some (vI (-9)))) e M37))))) ∧ ((M37 6952 101) < 0 → K (.inl (some (vI (-8)))) e M37))) ∧ ((((0 ≤ (M37 6952 101)) ∧ (¬ x22 = (-1))) ∨ ((0 ≤ (M37 6952 101)) ∧ (x22 = (-1)) ∧ (¬ (M37 6952 130) = 60))) → ((((x20 = (-1) → (((M37 6952 134) = 60 → K (.inl (some (vI (-9)))) e M37))))) ∧ ((((¬ x20 = (-1))) ∨ ((x20 = (-1)) ∧ (¬ (M37 6952 134) = 60))) → (im_i32 x30) ∧ (im_i32 x38) ∧ K (.inl (some (vI 0))) e (im_u (im_u M37 6952 149 x30) 6952 150 x38)))))))) ∧ (x22 = (-1) → ((((0 ≤ (M29 6952 101) → ((x22 = (-1) → (((M29 6952 130) = 60 → K (.inl (some (vI (-9)))) e M29))))) ∧ ((M29 6952 101) < 0 → K (.inl (some (vI (-8)))) e M29))) ∧ ((((0 ≤ (M29 6952 101)) ∧ (¬ x22 = (-1))) ∨ ((0 ≤ (M29 6952 101)) ∧ (x22 = (-1)) ∧ (¬ (M29 6952 130) = 60))) → ((((x20 = (-1) → (((M29 6952 134) = 60 → K (.inl (some (vI (-9)))) e M29))))) ∧ ((((¬ x20 = (-1))) ∨ ((x20 = (-1)) ∧ (¬ (M29 6952 134) = 60))) → (im_i32 x30) ∧ K (.inl (some (vI 0))) e (im_u (im_u M29 6952 149 x30) 6952 150 (M29 6952 65))))))))))))) ∧ (x20 = (-1) → (im_i32 x22) ∧ ((¬ x22 = (-1) → (0 ≤ x22 ∧ x22 < 61) ∧ im_T g (d - 1) 371 0 [some (.ref 6952), some (vI (M21 7033 x22)), some (vI (M21 6952 65)), some (vI 1), none] [] e (im_u M21 6952 101 0) (im_ri (fun x80 e_ M79 => e = e_ ∧ ((((0 ≤ (M79 6952 101) → ((x22 = (-1) → (((M79 6952 130) = 60 → K (.inl (some (vI (-9)))) e M79))))) ∧ ((M79 6952 101) < 0 → K (.inl (some (vI (-8)))) e M79))) ∧ ((((0 ≤ (M79 6952 101)) ∧ (¬ x22 = (-1))) ∨ ((0 ≤ (M79 6952 101)) ∧ (x22 = (-1)) ∧ (¬ (M79 6952 130) = 60))) → ((((x20 = (-1) → (((M79 6952 134) = 60 → K (.inl (some (vI (-9)))) e M79))))) ∧ ((((¬ x20 = (-1))) ∨ ((x20 = (-1)) ∧ (¬ (M79 6952 134) = 60))) → (im_i32 x80) ∧ K (.inl (some (vI 0))) e (im_u (im_u M79 6952 149 (M21 6952 65)) 6952 150 x80)))))))) ∧ (x22 = (-1) → ((((x22 = (-1) → (((M21 6952 130) = 60 → K (.inl (some (vI (-9)))) e (im_u M21 6952 101 0)))))) ∧ ((((¬ x22 = (-1))) ∨ ((x22 = (-1)) ∧ (¬ (M21 6952 130) = 60))) → ((((x20 = (-1) → (((M21 6952 134) = 60 → K (.inl (some (vI (-9)))) e (im_u M21 6952 101 0)))))) ∧ ((((¬ x20 = (-1))) ∨ ((x20 = (-1)) ∧ (¬ (M21 6952 134) = 60))) → K (.inl (some (vI 0))) e (im_u (im_u (im_u M21 6952 101 0) 6952 149 (M21 6952 65)) 6952 150 (M21 6952 65))))))))))))))))) ∧ ((M9 6955 x10) ≤ 0 → K (.inl (some (vI (-5)))) e (im_u M9 6952 65 x10)))) ∧ (0 < (M9 6952 19) → K (.inl (some (vI (-1)))) e (im_u M9 6952 65 x10)))))) ∧ (x6 = 0 → K (.inl (some (vI (-101)))) e M5))))))))) : im_T g d 422 0 [some (.ref 6952), some (vL p1), none, some (vL p3), none, none, none, none, none] [] e M K := by
  refine im_ld (q := 1) (i := 1) D422_0 rfl rfl rfl ?_
  refine im_callS (q := 4) (kd := 0) (y := 333) (n := 1) (z := 12) (vs := [vL p1]) (r := []) (L2 := [some (vL p1), none, none, none, none, none, none]) D422_1 rfl (im_cal cn_422 cl_12_800) (Or.inl rfl) rfl rfl rfl rfl rfl hd ⟨rfl, trivial⟩ ?_
  refine hP.mono ?_
  rintro _ e116 M1 ⟨x2, rfl, rfl, hP⟩
  refine im_bkS ?_
  obtain ⟨hg3, hP⟩ := hP
  refine im_ifc (q := 7) (t := 14) D422_4 rfl hg3 (fun hc4 => ?_) (fun hc4 => ?_)
  · replace hP := hP.1 hc4
    refine im_bipush (q := 16) D422_14 rfl ?_
    exact im_iret (q := 17) D422_16 rfl hP
  · replace hP := hP.2 hc4
    refine im_ld (q := 8) (i := 3) D422_7 rfl rfl rfl ?_
    refine im_callS (q := 11) (kd := 0) (y := 333) (n := 1) (z := 12) (vs := [vL p3]) (r := []) (L2 := [some (vL p3), none, none, none, none, none, none]) D422_8 rfl (im_cal cn_422 cl_12_800) (Or.inl rfl) rfl rfl rfl rfl rfl hd ⟨rfl, trivial⟩ ?_
    refine hP.mono ?_
    rintro _ e115 M5 ⟨x6, rfl, rfl, hP⟩
    refine im_bkS ?_
    obtain ⟨hg7, hP⟩ := hP
    refine im_ifc (q := 14) (t := 17) D422_11 rfl hg7 (fun hc8 => ?_) (fun hc8 => ?_)
    · replace hP := hP.1 hc8
      refine im_ld (q := 18) (i := 0) D422_17 rfl rfl rfl ?_
      refine im_ld (q := 19) (i := 0) D422_18 rfl rfl rfl ?_
      refine im_callV (q := 22) (kd := 1) (y := 335) (n := 0) (ci := 12) (a := 6952) (vs := [.ref 6952]) (r := [.ref 6952]) (L2 := [some (.ref 6952), none]) D422_19 (im_cal cn_422 cl_12_803) (Or.inl rfl) rfl sf_6952 rfl rfl rfl rfl hd ⟨rfl, trivial⟩ ?_
      refine hP.mono ?_
      rintro _ e114 M9 ⟨x10, rfl, rfl, hP⟩
      refine im_bkS ?_
      obtain ⟨hg11, hP⟩ := hP
      refine im_pfI (q := 25) D422_22 (im_fl cn_422 fl_12_806) sf_6952 rfl rfl ti_12_65 hg11 ?_
      refine im_ld (q := 26) (i := 0) D422_25 rfl rfl rfl ?_
      refine im_rng (j := 19) sf_6952 (by decide) (by decide) (fun hr12 => ?_)
      refine im_gfI (q := 29) D422_26 (im_fl cn_422 fl_12_403) sf_6952 rfl rfl tI_12_19 (im_rdk _ _ _ (by decide)) ?_
      refine im_ifc (q := 32) (t := 34) D422_29 rfl (im_rgc hr12 (im_rdk _ _ _ (by decide))) (fun hc13 => ?_) (fun hc13 => ?_)
      · replace hP := hP.1 hc13
        refine im_ld (q := 35) (i := 0) D422_34 rfl rfl rfl ?_
        refine im_gfR (q := 38) (b := 6955) D422_35 (im_fl cn_422 fl_12_17) sf_6952 rfl rfl tR_12_5 rf_6952_5 ?_
        refine im_ld (q := 39) (i := 0) D422_38 rfl rfl rfl ?_
        refine im_gfI (q := 42) D422_39 (im_fl cn_422 fl_12_806) sf_6952 rfl rfl tI_12_65 (im_rds _ _ _ _) ?_
        obtain ⟨hg15, hP⟩ := hP
        refine im_rng (j := x10) sf_6955 hg15.1 hg15.2 (fun hr16 => ?_)
        refine im_iald (q := 43) D422_42 sf_6955 hg15.1 hg15.2 (by decide) (im_rdn _ _ _ _ (by decide)) ?_
        refine im_ifc (q := 46) (t := 49) D422_43 rfl (im_rgc hr16 (im_rdn _ _ _ _ (by decide))) (fun hc17 => ?_) (fun hc17 => ?_)
        · replace hP := hP.1 hc17
          refine im_ld (q := 50) (i := 0) D422_49 rfl rfl rfl ?_
          refine im_callV (q := 53) (kd := 1) (y := 362) (n := 0) (ci := 12) (a := 6952) (vs := [.ref 6952]) (r := []) (L2 := [some (.ref 6952), none]) D422_50 (im_cal cn_422 cl_12_1047) (Or.inl rfl) rfl sf_6952 rfl rfl rfl rfl hd ⟨rfl, trivial⟩ ?_
          refine hP.mono ?_
          rintro _ e113 M18 ⟨rfl, rfl, hP⟩
          refine im_bkN ?_
          refine im_ld (q := 54) (i := 0) D422_53 rfl rfl rfl ?_
          refine im_ld (q := 55) (i := 3) D422_54 rfl rfl rfl ?_
          refine im_callV (q := 58) (kd := 1) (y := 423) (n := 1) (ci := 12) (a := 6952) (vs := [.ref 6952, vL p3]) (r := []) (L2 := [some (.ref 6952), some (vL p3), none, none]) D422_55 (im_cal cn_422 cl_12_1074) (Or.inl rfl) rfl sf_6952 rfl rfl rfl rfl hd ⟨rfl, rfl, trivial⟩ ?_
          refine hP.mono ?_
          rintro _ e112 M19 ⟨x20, rfl, rfl, hP⟩
          refine im_bkS ?_
          refine im_st1 (q := 60) (i := 5) (L' := [some (.ref 6952), some (vL p1), none, some (vL p3), none, some (vI x20), none, none, none]) D422_58 (Or.inr rfl) (Nat.le_of_ble_eq_true rfl) rfl ?_
          refine im_ld (q := 61) (i := 0) D422_60 rfl rfl rfl ?_
          refine im_ld (q := 62) (i := 1) D422_61 rfl rfl rfl ?_
          refine im_ld (q := 63) (i := 3) D422_62 rfl rfl rfl ?_
          refine im_callV (q := 66) (kd := 1) (y := 370) (n := 2) (ci := 12) (a := 6952) (vs := [.ref 6952, vL p1, vL p3]) (r := []) (L2 := [some (.ref 6952), some (vL p1), none, some (vL p3), none, none]) D422_63 (im_cal cn_422 cl_12_968) (Or.inl rfl) rfl sf_6952 rfl rfl rfl rfl hd ⟨rfl, rfl, rfl, trivial⟩ ?_
          refine hP.mono ?_
          rintro _ e111 M21 ⟨x22, rfl, rfl, hP⟩
          refine im_bkS ?_
          refine im_st1 (q := 68) (i := 6) (L' := [some (.ref 6952), some (vL p1), none, some (vL p3), none, some (vI x20), some (vI x22), none, none]) D422_66 (Or.inr rfl) (Nat.le_of_ble_eq_true rfl) rfl ?_
          refine im_ld (q := 69) (i := 0) D422_68 rfl rfl rfl ?_
          refine im_iconst (q := 70) D422_69 ?_
          refine im_pfI (q := 73) D422_70 (im_fl cn_422 fl_12_855) sf_6952 rfl rfl ti_12_101 (by decide) ?_
          refine im_ld (q := 75) (i := 5) D422_73 rfl rfl rfl ?_
          refine im_iconst (q := 76) D422_75 ?_
          obtain ⟨hg23, hP⟩ := hP
          refine im_icmp (q := 79) (t := 86) D422_76 rfl hg23 (by decide) (fun hc24 => ?_) (fun hc24 => ?_)
          · replace hP := hP.1 hc24
            refine im_ld (q := 87) (i := 0) D422_86 rfl rfl rfl ?_
            refine im_ld (q := 88) (i := 0) D422_87 rfl rfl rfl ?_
            refine im_ld (q := 89) (i := 0) D422_88 rfl rfl rfl ?_
            refine im_gfR (q := 92) (b := 7046) D422_89 (im_fl cn_422 fl_12_294) sf_6952 rfl rfl tR_12_136 rf_6952_136 ?_
            refine im_ld (q := 94) (i := 5) D422_92 rfl rfl rfl ?_
            refine im_callV (q := 97) (kd := 1) (y := 345) (n := 2) (ci := 12) (a := 6952) (vs := [.ref 6952, .ref 7046, vI x20]) (r := [.ref 6952]) (L2 := [some (.ref 6952), some (.ref 7046), some (vI x20), none, none, none]) D422_94 (im_cal cn_422 cl_12_825) (Or.inl rfl) rfl sf_6952 rfl rfl rfl rfl hd ⟨rfl, rfl, rfl, trivial⟩ ?_
            refine hP.mono ?_
            rintro _ e72 M26 ⟨x27, rfl, rfl, hP⟩
            refine im_bkS ?_
            refine im_ld (q := 98) (i := 0) D422_97 rfl rfl rfl ?_
            refine im_rng (j := 65) sf_6952 (by decide) (by decide) (fun hr28 => ?_)
            refine im_gfI (q := 101) D422_98 (im_fl cn_422 fl_12_806) sf_6952 rfl rfl tI_12_65 rfl ?_
            refine im_iconst (q := 102) D422_101 ?_
            refine im_callV (q := 105) (kd := 1) (y := 371) (n := 3) (ci := 12) (a := 6952) (vs := [.ref 6952, vI x27, vI (M26 6952 65), vI 1]) (r := []) (L2 := [some (.ref 6952), some (vI x27), some (vI (M26 6952 65)), some (vI 1), none]) D422_102 (im_cal cn_422 cl_12_962) (Or.inl rfl) rfl sf_6952 rfl rfl rfl rfl hd ⟨rfl, rfl, rfl, rfl, trivial⟩ ?_
            refine hP.mono ?_
            rintro _ e71 M29 ⟨x30, rfl, rfl, hP⟩
            refine im_bkS ?_
            refine im_st1 (q := 107) (i := 7) (L' := [some (.ref 6952), some (vL p1), none, some (vL p3), none, some (vI x20), some (vI x22), some (vI x30), none]) D422_105 (Or.inr rfl) (Nat.le_of_ble_eq_true rfl) rfl ?_
            refine im_ld (q := 109) (i := 6) D422_107 rfl rfl rfl ?_
            refine im_iconst (q := 110) D422_109 ?_
            obtain ⟨hg31, hP⟩ := hP
            refine im_icmp (q := 113) (t := 120) D422_110 rfl hg31 (by decide) (fun hc32 => ?_) (fun hc32 => ?_)
            · replace hP := hP.1 hc32
              refine im_ld (q := 121) (i := 0) D422_120 rfl rfl rfl ?_
              refine im_ld (q := 122) (i := 0) D422_121 rfl rfl rfl ?_
              refine im_gfR (q := 125) (b := 7033) D422_122 (im_fl cn_422 fl_12_255) sf_6952 rfl rfl tR_12_119 rf_6952_119 ?_
              refine im_ld (q := 127) (i := 6) D422_125 rfl rfl rfl ?_
              obtain ⟨hg33, hP⟩ := hP
              refine im_rng (j := x22) sf_7033 hg33.1 hg33.2 (fun hr34 => ?_)
              refine im_iald (q := 128) D422_127 sf_7033 hg33.1 hg33.2 (by decide) rfl ?_
              refine im_ld (q := 129) (i := 0) D422_128 rfl rfl rfl ?_
              refine im_rng (j := 65) sf_6952 (by decide) (by decide) (fun hr35 => ?_)
              refine im_gfI (q := 132) D422_129 (im_fl cn_422 fl_12_806) sf_6952 rfl rfl tI_12_65 rfl ?_
              refine im_iconst (q := 133) D422_132 ?_
              refine im_callV (q := 136) (kd := 1) (y := 371) (n := 3) (ci := 12) (a := 6952) (vs := [.ref 6952, vI (M29 7033 x22), vI (M29 6952 65), vI 1]) (r := []) (L2 := [some (.ref 6952), some (vI (M29 7033 x22)), some (vI (M29 6952 65)), some (vI 1), none]) D422_133 (im_cal cn_422 cl_12_962) (Or.inl rfl) rfl sf_6952 rfl rfl rfl rfl hd ⟨rfl, rfl, rfl, rfl, trivial⟩ ?_
              refine hP.mono ?_
              rintro _ e55 M37 ⟨x38, rfl, rfl, hP⟩
              refine im_bkS ?_
              refine im_st1 (q := 138) (i := 8) (L' := [some (.ref 6952), some (vL p1), none, some (vL p3), none, some (vI x20), some (vI x22), some (vI x30), some (vI x38)]) D422_136 (Or.inr rfl) (Nat.le_of_ble_eq_true rfl) rfl ?_
              refine im_ld (q := 139) (i := 0) D422_138 rfl rfl rfl ?_
              refine im_rng (j := 101) sf_6952 (by decide) (by decide) (fun hr39 => ?_)
              refine im_gfI (q := 142) D422_139 (im_fl cn_422 fl_12_855) sf_6952 rfl rfl tI_12_101 rfl ?_
              obtain ⟨hP, hJ44⟩ := hP
              have kJ45 : (((0 ≤ (M37 6952 101)) ∧ (¬ x22 = (-1))) ∨ ((0 ≤ (M37 6952 101)) ∧ (x22 = (-1)) ∧ (¬ (M37 6952 130) = 60))) → im_T g d 422 163 [some (.ref 6952), none, none, none, none, some (vI x20), none, some (vI x30), some (vI x38)] [] e M37 K := by
                intro  hx46
                have hP := hJ44  hx46
                refine im_ld (q := 165) (i := 5) D422_163 rfl rfl rfl ?_
                refine im_iconst (q := 166) D422_165 ?_
                obtain ⟨hP, hJ50⟩ := hP
                have kJ51 : (((¬ x20 = (-1))) ∨ ((x20 = (-1)) ∧ (¬ (M37 6952 134) = 60))) → im_T g d 422 181 [some (.ref 6952), none, none, none, none, none, none, some (vI x30), some (vI x38)] [] e M37 K := by
                  intro  hx52
                  have hP := hJ50  hx52
                  refine im_ld (q := 182) (i := 0) D422_181 rfl rfl rfl ?_
                  refine im_ld (q := 184) (i := 7) D422_182 rfl rfl rfl ?_
                  obtain ⟨hg53, hP⟩ := hP
                  refine im_pfI (q := 187) D422_184 (im_fl cn_422 fl_12_1077) sf_6952 rfl rfl ti_12_149 hg53 ?_
                  refine im_ld (q := 188) (i := 0) D422_187 rfl rfl rfl ?_
                  refine im_ld (q := 190) (i := 8) D422_188 rfl rfl rfl ?_
                  obtain ⟨hg54, hP⟩ := hP
                  refine im_pfI (q := 193) D422_190 (im_fl cn_422 fl_12_1080) sf_6952 rfl rfl ti_12_150 hg54 ?_
                  refine im_iconst (q := 194) D422_193 ?_
                  exact im_iret (q := 195) D422_194 rfl hP
                refine im_icmp (q := 169) (t := 181) D422_166 rfl hg23 (by decide) (fun hc47 => ?_) (fun hc47 => ?_)
                · exact (kJ51  (Or.inl hc47)).wk ⟨rfl, rfl, rfl, trivial⟩
                · replace hP := hP (Decidable.not_not.mp hc47)
                  refine im_ld (q := 170) (i := 0) D422_169 rfl rfl rfl ?_
                  refine im_rng (j := 134) sf_6952 (by decide) (by decide) (fun hr48 => ?_)
                  refine im_gfI (q := 173) D422_170 (im_fl cn_422 fl_12_1071) sf_6952 rfl rfl tI_12_134 rfl ?_
                  refine im_bipush (q := 175) D422_173 rfl ?_
                  refine im_icmp (q := 178) (t := 181) D422_175 rfl hr48 (by decide) (fun hc49 => ?_) (fun hc49 => ?_)
                  · exact (kJ51  (Or.inr ⟨(Decidable.not_not.mp hc47), hc49⟩)).wk ⟨rfl, rfl, rfl, trivial⟩
                  · replace hP := hP (Decidable.not_not.mp hc49)
                    refine im_bipush (q := 180) D422_178 rfl ?_
                    exact im_iret (q := 181) D422_180 rfl hP
              refine im_ifc (q := 145) (t := 148) D422_142 rfl hr39 (fun hc40 => ?_) (fun hc40 => ?_)
              · replace hP := hP.1 hc40
                refine im_ld (q := 150) (i := 6) D422_148 rfl rfl rfl ?_
                refine im_iconst (q := 151) D422_150 ?_
                refine im_icmp (q := 154) (t := 163) D422_151 rfl hg31 (by decide) (fun hc41 => ?_) (fun hc41 => ?_)
                · exact (kJ45  (Or.inl ⟨hc40, hc41⟩)).wk ⟨rfl, rfl, rfl, rfl, trivial⟩
                · replace hP := hP (Decidable.not_not.mp hc41)
                  refine im_ld (q := 155) (i := 0) D422_154 rfl rfl rfl ?_
                  refine im_rng (j := 130) sf_6952 (by decide) (by decide) (fun hr42 => ?_)
                  refine im_gfI (q := 158) D422_155 (im_fl cn_422 fl_12_1032) sf_6952 rfl rfl tI_12_130 rfl ?_
                  refine im_bipush (q := 160) D422_158 rfl ?_
                  refine im_icmp (q := 163) (t := 178) D422_160 rfl hr42 (by decide) (fun hc43 => ?_) (fun hc43 => ?_)
                  · replace hP := hP hc43
                    refine im_bipush (q := 180) D422_178 rfl ?_
                    exact im_iret (q := 181) D422_180 rfl hP
                  · exact (kJ45  (Or.inr ⟨hc40, (Decidable.not_not.mp hc41), hc43⟩)).wk ⟨rfl, rfl, rfl, rfl, trivial⟩
              · replace hP := hP.2 (Int.not_le.mp hc40)
                refine im_bipush (q := 147) D422_145 rfl ?_
                exact im_iret (q := 148) D422_147 rfl hP
            · replace hP := hP.2 (Decidable.not_not.mp hc32)
              refine im_ld (q := 114) (i := 0) D422_113 rfl rfl rfl ?_
              refine im_rng (j := 65) sf_6952 (by decide) (by decide) (fun hr36 => ?_)
              refine im_gfI (q := 117) D422_114 (im_fl cn_422 fl_12_806) sf_6952 rfl rfl tI_12_65 rfl ?_
              refine im_goto (q := 120) (t := 136) D422_117 rfl ?_
              refine im_st1 (q := 138) (i := 8) (L' := [some (.ref 6952), some (vL p1), none, some (vL p3), none, some (vI x20), some (vI x22), some (vI x30), some (vI (M29 6952 65))]) D422_136 (Or.inr rfl) (Nat.le_of_ble_eq_true rfl) rfl ?_
              refine im_ld (q := 139) (i := 0) D422_138 rfl rfl rfl ?_
              refine im_rng (j := 101) sf_6952 (by decide) (by decide) (fun hr56 => ?_)
              refine im_gfI (q := 142) D422_139 (im_fl cn_422 fl_12_855) sf_6952 rfl rfl tI_12_101 rfl ?_
              obtain ⟨hP, hJ61⟩ := hP
              have kJ62 : (((0 ≤ (M29 6952 101)) ∧ (¬ x22 = (-1))) ∨ ((0 ≤ (M29 6952 101)) ∧ (x22 = (-1)) ∧ (¬ (M29 6952 130) = 60))) → im_T g d 422 163 [some (.ref 6952), none, none, none, none, some (vI x20), none, some (vI x30), some (vI (M29 6952 65))] [] e M29 K := by
                intro  hx63
                have hP := hJ61  hx63
                refine im_ld (q := 165) (i := 5) D422_163 rfl rfl rfl ?_
                refine im_iconst (q := 166) D422_165 ?_
                obtain ⟨hP, hJ67⟩ := hP
                have kJ68 : (((¬ x20 = (-1))) ∨ ((x20 = (-1)) ∧ (¬ (M29 6952 134) = 60))) → im_T g d 422 181 [some (.ref 6952), none, none, none, none, none, none, some (vI x30), some (vI (M29 6952 65))] [] e M29 K := by
                  intro  hx69
                  have hP := hJ67  hx69
                  refine im_ld (q := 182) (i := 0) D422_181 rfl rfl rfl ?_
                  refine im_ld (q := 184) (i := 7) D422_182 rfl rfl rfl ?_
                  obtain ⟨hg70, hP⟩ := hP
                  refine im_pfI (q := 187) D422_184 (im_fl cn_422 fl_12_1077) sf_6952 rfl rfl ti_12_149 hg70 ?_
                  refine im_ld (q := 188) (i := 0) D422_187 rfl rfl rfl ?_
                  refine im_ld (q := 190) (i := 8) D422_188 rfl rfl rfl ?_
                  refine im_pfI (q := 193) D422_190 (im_fl cn_422 fl_12_1080) sf_6952 rfl rfl ti_12_150 hr36 ?_
                  refine im_iconst (q := 194) D422_193 ?_
                  exact im_iret (q := 195) D422_194 rfl hP
                refine im_icmp (q := 169) (t := 181) D422_166 rfl hg23 (by decide) (fun hc64 => ?_) (fun hc64 => ?_)
                · exact (kJ68  (Or.inl hc64)).wk ⟨rfl, rfl, rfl, trivial⟩
                · replace hP := hP (Decidable.not_not.mp hc64)
                  refine im_ld (q := 170) (i := 0) D422_169 rfl rfl rfl ?_
                  refine im_rng (j := 134) sf_6952 (by decide) (by decide) (fun hr65 => ?_)
                  refine im_gfI (q := 173) D422_170 (im_fl cn_422 fl_12_1071) sf_6952 rfl rfl tI_12_134 rfl ?_
                  refine im_bipush (q := 175) D422_173 rfl ?_
                  refine im_icmp (q := 178) (t := 181) D422_175 rfl hr65 (by decide) (fun hc66 => ?_) (fun hc66 => ?_)
                  · exact (kJ68  (Or.inr ⟨(Decidable.not_not.mp hc64), hc66⟩)).wk ⟨rfl, rfl, rfl, trivial⟩
                  · replace hP := hP (Decidable.not_not.mp hc66)
                    refine im_bipush (q := 180) D422_178 rfl ?_
                    exact im_iret (q := 181) D422_180 rfl hP
              refine im_ifc (q := 145) (t := 148) D422_142 rfl hr56 (fun hc57 => ?_) (fun hc57 => ?_)
              · replace hP := hP.1 hc57
                refine im_ld (q := 150) (i := 6) D422_148 rfl rfl rfl ?_
                refine im_iconst (q := 151) D422_150 ?_
                refine im_icmp (q := 154) (t := 163) D422_151 rfl hg31 (by decide) (fun hc58 => ?_) (fun hc58 => ?_)
                · exact (kJ62  (Or.inl ⟨hc57, hc58⟩)).wk ⟨rfl, rfl, rfl, rfl, trivial⟩
                · replace hP := hP (Decidable.not_not.mp hc58)
                  refine im_ld (q := 155) (i := 0) D422_154 rfl rfl rfl ?_
                  refine im_rng (j := 130) sf_6952 (by decide) (by decide) (fun hr59 => ?_)
                  refine im_gfI (q := 158) D422_155 (im_fl cn_422 fl_12_1032) sf_6952 rfl rfl tI_12_130 rfl ?_
                  refine im_bipush (q := 160) D422_158 rfl ?_
                  refine im_icmp (q := 163) (t := 178) D422_160 rfl hr59 (by decide) (fun hc60 => ?_) (fun hc60 => ?_)
                  · replace hP := hP hc60
                    refine im_bipush (q := 180) D422_178 rfl ?_
                    exact im_iret (q := 181) D422_180 rfl hP
                  · exact (kJ62  (Or.inr ⟨hc57, (Decidable.not_not.mp hc58), hc60⟩)).wk ⟨rfl, rfl, rfl, rfl, trivial⟩
              · replace hP := hP.2 (Int.not_le.mp hc57)
                refine im_bipush (q := 147) D422_145 rfl ?_
                exact im_iret (q := 148) D422_147 rfl hP
          · replace hP := hP.2 (Decidable.not_not.mp hc24)
            refine im_ld (q := 80) (i := 0) D422_79 rfl rfl rfl ?_
            refine im_rng (j := 65) sf_6952 (by decide) (by decide) (fun hr25 => ?_)
            refine im_gfI (q := 83) D422_80 (im_fl cn_422 fl_12_806) sf_6952 rfl rfl tI_12_65 (im_rdk _ _ _ (by decide)) ?_
            refine im_goto (q := 86) (t := 105) D422_83 rfl ?_
            refine im_st1 (q := 107) (i := 7) (L' := [some (.ref 6952), some (vL p1), none, some (vL p3), none, some (vI x20), some (vI x22), some (vI (M21 6952 65)), none]) D422_105 (Or.inr rfl) (Nat.le_of_ble_eq_true rfl) rfl ?_
            refine im_ld (q := 109) (i := 6) D422_107 rfl rfl rfl ?_
            refine im_iconst (q := 110) D422_109 ?_
            obtain ⟨hg73, hP⟩ := hP
            refine im_icmp (q := 113) (t := 120) D422_110 rfl hg73 (by decide) (fun hc74 => ?_) (fun hc74 => ?_)
            · replace hP := hP.1 hc74
              refine im_ld (q := 121) (i := 0) D422_120 rfl rfl rfl ?_
              refine im_ld (q := 122) (i := 0) D422_121 rfl rfl rfl ?_
              refine im_gfR (q := 125) (b := 7033) D422_122 (im_fl cn_422 fl_12_255) sf_6952 rfl rfl tR_12_119 rf_6952_119 ?_
              refine im_ld (q := 127) (i := 6) D422_125 rfl rfl rfl ?_
              obtain ⟨hg75, hP⟩ := hP
              refine im_rng (j := x22) sf_7033 hg75.1 hg75.2 (fun hr76 => ?_)
              refine im_iald (q := 128) D422_127 sf_7033 hg75.1 hg75.2 (by decide) (im_rdn _ _ _ _ (by decide)) ?_
              refine im_ld (q := 129) (i := 0) D422_128 rfl rfl rfl ?_
              refine im_gfI (q := 132) D422_129 (im_fl cn_422 fl_12_806) sf_6952 rfl rfl tI_12_65 (im_rdk _ _ _ (by decide)) ?_
              refine im_iconst (q := 133) D422_132 ?_
              refine im_callV (q := 136) (kd := 1) (y := 371) (n := 3) (ci := 12) (a := 6952) (vs := [.ref 6952, vI (M21 7033 x22), vI (M21 6952 65), vI 1]) (r := []) (L2 := [some (.ref 6952), some (vI (M21 7033 x22)), some (vI (M21 6952 65)), some (vI 1), none]) D422_133 (im_cal cn_422 cl_12_962) (Or.inl rfl) rfl sf_6952 rfl rfl rfl rfl hd ⟨rfl, rfl, rfl, rfl, trivial⟩ ?_
              refine hP.mono ?_
              rintro _ e96 M79 ⟨x80, rfl, rfl, hP⟩
              refine im_bkS ?_
              refine im_st1 (q := 138) (i := 8) (L' := [some (.ref 6952), some (vL p1), none, some (vL p3), none, some (vI x20), some (vI x22), some (vI (M21 6952 65)), some (vI x80)]) D422_136 (Or.inr rfl) (Nat.le_of_ble_eq_true rfl) rfl ?_
              refine im_ld (q := 139) (i := 0) D422_138 rfl rfl rfl ?_
              refine im_rng (j := 101) sf_6952 (by decide) (by decide) (fun hr81 => ?_)
              refine im_gfI (q := 142) D422_139 (im_fl cn_422 fl_12_855) sf_6952 rfl rfl tI_12_101 rfl ?_
              obtain ⟨hP, hJ86⟩ := hP
              have kJ87 : (((0 ≤ (M79 6952 101)) ∧ (¬ x22 = (-1))) ∨ ((0 ≤ (M79 6952 101)) ∧ (x22 = (-1)) ∧ (¬ (M79 6952 130) = 60))) → im_T g d 422 163 [some (.ref 6952), none, none, none, none, some (vI x20), none, some (vI (M21 6952 65)), some (vI x80)] [] e M79 K := by
                intro  hx88
                have hP := hJ86  hx88
                refine im_ld (q := 165) (i := 5) D422_163 rfl rfl rfl ?_
                refine im_iconst (q := 166) D422_165 ?_
                obtain ⟨hP, hJ92⟩ := hP
                have kJ93 : (((¬ x20 = (-1))) ∨ ((x20 = (-1)) ∧ (¬ (M79 6952 134) = 60))) → im_T g d 422 181 [some (.ref 6952), none, none, none, none, none, none, some (vI (M21 6952 65)), some (vI x80)] [] e M79 K := by
                  intro  hx94
                  have hP := hJ92  hx94
                  refine im_ld (q := 182) (i := 0) D422_181 rfl rfl rfl ?_
                  refine im_ld (q := 184) (i := 7) D422_182 rfl rfl rfl ?_
                  refine im_pfI (q := 187) D422_184 (im_fl cn_422 fl_12_1077) sf_6952 rfl rfl ti_12_149 (im_rgc hr25 (im_rdk _ _ _ (by decide))) ?_
                  refine im_ld (q := 188) (i := 0) D422_187 rfl rfl rfl ?_
                  refine im_ld (q := 190) (i := 8) D422_188 rfl rfl rfl ?_
                  obtain ⟨hg95, hP⟩ := hP
                  refine im_pfI (q := 193) D422_190 (im_fl cn_422 fl_12_1080) sf_6952 rfl rfl ti_12_150 hg95 ?_
                  refine im_iconst (q := 194) D422_193 ?_
                  exact im_iret (q := 195) D422_194 rfl hP
                refine im_icmp (q := 169) (t := 181) D422_166 rfl hg23 (by decide) (fun hc89 => ?_) (fun hc89 => ?_)
                · exact (kJ93  (Or.inl hc89)).wk ⟨rfl, rfl, rfl, trivial⟩
                · replace hP := hP (Decidable.not_not.mp hc89)
                  refine im_ld (q := 170) (i := 0) D422_169 rfl rfl rfl ?_
                  refine im_rng (j := 134) sf_6952 (by decide) (by decide) (fun hr90 => ?_)
                  refine im_gfI (q := 173) D422_170 (im_fl cn_422 fl_12_1071) sf_6952 rfl rfl tI_12_134 rfl ?_
                  refine im_bipush (q := 175) D422_173 rfl ?_
                  refine im_icmp (q := 178) (t := 181) D422_175 rfl hr90 (by decide) (fun hc91 => ?_) (fun hc91 => ?_)
                  · exact (kJ93  (Or.inr ⟨(Decidable.not_not.mp hc89), hc91⟩)).wk ⟨rfl, rfl, rfl, trivial⟩
                  · replace hP := hP (Decidable.not_not.mp hc91)
                    refine im_bipush (q := 180) D422_178 rfl ?_
                    exact im_iret (q := 181) D422_180 rfl hP
              refine im_ifc (q := 145) (t := 148) D422_142 rfl hr81 (fun hc82 => ?_) (fun hc82 => ?_)
              · replace hP := hP.1 hc82
                refine im_ld (q := 150) (i := 6) D422_148 rfl rfl rfl ?_
                refine im_iconst (q := 151) D422_150 ?_
                refine im_icmp (q := 154) (t := 163) D422_151 rfl hg73 (by decide) (fun hc83 => ?_) (fun hc83 => ?_)
                · exact (kJ87  (Or.inl ⟨hc82, hc83⟩)).wk ⟨rfl, rfl, rfl, rfl, trivial⟩
                · replace hP := hP (Decidable.not_not.mp hc83)
                  refine im_ld (q := 155) (i := 0) D422_154 rfl rfl rfl ?_
                  refine im_rng (j := 130) sf_6952 (by decide) (by decide) (fun hr84 => ?_)
                  refine im_gfI (q := 158) D422_155 (im_fl cn_422 fl_12_1032) sf_6952 rfl rfl tI_12_130 rfl ?_
                  refine im_bipush (q := 160) D422_158 rfl ?_
                  refine im_icmp (q := 163) (t := 178) D422_160 rfl hr84 (by decide) (fun hc85 => ?_) (fun hc85 => ?_)
                  · replace hP := hP hc85
                    refine im_bipush (q := 180) D422_178 rfl ?_
                    exact im_iret (q := 181) D422_180 rfl hP
                  · exact (kJ87  (Or.inr ⟨hc82, (Decidable.not_not.mp hc83), hc85⟩)).wk ⟨rfl, rfl, rfl, rfl, trivial⟩
              · replace hP := hP.2 (Int.not_le.mp hc82)
                refine im_bipush (q := 147) D422_145 rfl ?_
                exact im_iret (q := 148) D422_147 rfl hP
            · replace hP := hP.2 (Decidable.not_not.mp hc74)
              refine im_ld (q := 114) (i := 0) D422_113 rfl rfl rfl ?_
              refine im_gfI (q := 117) D422_114 (im_fl cn_422 fl_12_806) sf_6952 rfl rfl tI_12_65 (im_rdk _ _ _ (by decide)) ?_
              refine im_goto (q := 120) (t := 136) D422_117 rfl ?_
              refine im_st1 (q := 138) (i := 8) (L' := [some (.ref 6952), some (vL p1), none, some (vL p3), none, some (vI x20), some (vI x22), some (vI (M21 6952 65)), some (vI (M21 6952 65))]) D422_136 (Or.inr rfl) (Nat.le_of_ble_eq_true rfl) rfl ?_
              refine im_ld (q := 139) (i := 0) D422_138 rfl rfl rfl ?_
              refine im_gfI (q := 142) D422_139 (im_fl cn_422 fl_12_855) sf_6952 rfl rfl tI_12_101 (im_rds _ _ _ _) ?_
              refine im_ifc (q := 145) (t := 148) D422_142 rfl (by decide) (fun _ => ?_) (fun hc => absurd (show 0 ≤ (0 : Int) by decide) hc)
              refine im_ld (q := 150) (i := 6) D422_148 rfl rfl rfl ?_
              refine im_iconst (q := 151) D422_150 ?_
              obtain ⟨hP, hJ102⟩ := hP
              have kJ103 : (((¬ x22 = (-1))) ∨ ((x22 = (-1)) ∧ (¬ (M21 6952 130) = 60))) → im_T g d 422 163 [some (.ref 6952), none, none, none, none, some (vI x20), none, some (vI (M21 6952 65)), some (vI (M21 6952 65))] [] e (im_u M21 6952 101 0) K := by
                intro  hx104
                have hP := hJ102  hx104
                refine im_ld (q := 165) (i := 5) D422_163 rfl rfl rfl ?_
                refine im_iconst (q := 166) D422_165 ?_
                obtain ⟨hP, hJ108⟩ := hP
                have kJ109 : (((¬ x20 = (-1))) ∨ ((x20 = (-1)) ∧ (¬ (M21 6952 134) = 60))) → im_T g d 422 181 [some (.ref 6952), none, none, none, none, none, none, some (vI (M21 6952 65)), some (vI (M21 6952 65))] [] e (im_u M21 6952 101 0) K := by
                  intro  hx110
                  have hP := hJ108  hx110
                  refine im_ld (q := 182) (i := 0) D422_181 rfl rfl rfl ?_
                  refine im_ld (q := 184) (i := 7) D422_182 rfl rfl rfl ?_
                  refine im_pfI (q := 187) D422_184 (im_fl cn_422 fl_12_1077) sf_6952 rfl rfl ti_12_149 (im_rgc hr25 (im_rdk _ _ _ (by decide))) ?_
                  refine im_ld (q := 188) (i := 0) D422_187 rfl rfl rfl ?_
                  refine im_ld (q := 190) (i := 8) D422_188 rfl rfl rfl ?_
                  refine im_pfI (q := 193) D422_190 (im_fl cn_422 fl_12_1080) sf_6952 rfl rfl ti_12_150 (im_rgc hr25 (im_rdk _ _ _ (by decide))) ?_
                  refine im_iconst (q := 194) D422_193 ?_
                  exact im_iret (q := 195) D422_194 rfl hP
                refine im_icmp (q := 169) (t := 181) D422_166 rfl hg23 (by decide) (fun hc105 => ?_) (fun hc105 => ?_)
                · exact (kJ109  (Or.inl hc105)).wk ⟨rfl, rfl, rfl, trivial⟩
                · replace hP := hP (Decidable.not_not.mp hc105)
                  refine im_ld (q := 170) (i := 0) D422_169 rfl rfl rfl ?_
                  refine im_rng (j := 134) sf_6952 (by decide) (by decide) (fun hr106 => ?_)
                  refine im_gfI (q := 173) D422_170 (im_fl cn_422 fl_12_1071) sf_6952 rfl rfl tI_12_134 (im_rdk _ _ _ (by decide)) ?_
                  refine im_bipush (q := 175) D422_173 rfl ?_
                  refine im_icmp (q := 178) (t := 181) D422_175 rfl (im_rgc hr106 (im_rdk _ _ _ (by decide))) (by decide) (fun hc107 => ?_) (fun hc107 => ?_)
                  · exact (kJ109  (Or.inr ⟨(Decidable.not_not.mp hc105), hc107⟩)).wk ⟨rfl, rfl, rfl, trivial⟩
                  · replace hP := hP (Decidable.not_not.mp hc107)
                    refine im_bipush (q := 180) D422_178 rfl ?_
                    exact im_iret (q := 181) D422_180 rfl hP
              refine im_icmp (q := 154) (t := 163) D422_151 rfl hg73 (by decide) (fun hc99 => ?_) (fun hc99 => ?_)
              · exact (kJ103  (Or.inl hc99)).wk ⟨rfl, rfl, rfl, rfl, trivial⟩
              · replace hP := hP (Decidable.not_not.mp hc99)
                refine im_ld (q := 155) (i := 0) D422_154 rfl rfl rfl ?_
                refine im_rng (j := 130) sf_6952 (by decide) (by decide) (fun hr100 => ?_)
                refine im_gfI (q := 158) D422_155 (im_fl cn_422 fl_12_1032) sf_6952 rfl rfl tI_12_130 (im_rdk _ _ _ (by decide)) ?_
                refine im_bipush (q := 160) D422_158 rfl ?_
                refine im_icmp (q := 163) (t := 178) D422_160 rfl (im_rgc hr100 (im_rdk _ _ _ (by decide))) (by decide) (fun hc101 => ?_) (fun hc101 => ?_)
                · replace hP := hP hc101
                  refine im_bipush (q := 180) D422_178 rfl ?_
                  exact im_iret (q := 181) D422_180 rfl hP
                · exact (kJ103  (Or.inr ⟨(Decidable.not_not.mp hc99), hc101⟩)).wk ⟨rfl, rfl, rfl, rfl, trivial⟩
        · replace hP := hP.2 (Int.not_lt.mp hc17)
          refine im_bipush (q := 48) D422_46 rfl ?_
          exact im_iret (q := 49) D422_48 rfl hP
      · replace hP := hP.2 (Int.not_le.mp hc13)
        refine im_iconst (q := 33) D422_32 ?_
        exact im_iret (q := 34) D422_33 rfl hP
    · replace hP := hP.2 (Decidable.not_not.mp hc8)
      refine im_bipush (q := 16) D422_14 rfl ?_
      exact im_iret (q := 17) D422_16 rfl hP
set_option maxRecDepth 20000 in
set_option maxHeartbeats 4000000 in
theorem b_mintedAt_0 {g : im_g} {d : Nat} {e : im_E} {M : im_M} {K : im_K} {p1 : Int} (hP : im_T g d 423 2 [some (.ref 6952), some (vL p1), none, some (vI 0)] [] e M K) : im_T g d 423 0 [some (.ref 6952), some (vL p1), none, none] [] e M K := by
  refine im_iconst (q := 1) D423_0 ?_
  refine im_st1 (q := 2) (i := 3) (L' := [some (.ref 6952), some (vL p1), none, some (vI 0)]) D423_1 (Or.inl ⟨_, rfl, rfl⟩) (Nat.le_of_ble_eq_true rfl) rfl ?_
  exact hP.wk ⟨rfl, rfl, rfl, trivial⟩
set_option maxRecDepth 20000 in
set_option maxHeartbeats 4000000 in
theorem b_mintedAt_2 {g : im_g} {d : Nat} {e : im_E} {M : im_M} {K : im_K} {p1 p3 : Int} (hP : (im_i32 p3) ∧ (((M 6952 134) ≤ p3 → K (.inl (some (vI (-1)))) e M) ∧ (p3 < (M 6952 134) → (0 ≤ p3 ∧ p3 < 60) ∧ (im_i64 p1) ∧ ((¬ (M 7045 p3) = p1 → im_T g d 423 2 [some (.ref 6952), some (vL p1), none, some (vI (p3 + 1))] [] e M K) ∧ ((M 7045 p3) = p1 → K (.inl (some (vI p3))) e M))))) : im_T g d 423 2 [some (.ref 6952), some (vL p1), none, some (vI p3)] [] e M K := by
  refine im_ld (q := 3) (i := 3) D423_2 rfl rfl rfl ?_
  refine im_ld (q := 4) (i := 0) D423_3 rfl rfl rfl ?_
  refine im_rng (j := 134) sf_6952 (by decide) (by decide) (fun hr1 => ?_)
  refine im_gfI (q := 7) D423_4 (im_fl cn_423 fl_12_1071) sf_6952 rfl rfl tI_12_134 rfl ?_
  obtain ⟨hg2, hP⟩ := hP
  refine im_icmp (q := 10) (t := 29) D423_7 rfl hg2 hr1 (fun hc3 => ?_) (fun hc3 => ?_)
  · replace hP := hP.1 hc3
    refine im_iconst (q := 30) D423_29 ?_
    exact im_iret (q := 31) D423_30 rfl hP
  · replace hP := hP.2 (Int.not_le.mp hc3)
    refine im_ld (q := 11) (i := 0) D423_10 rfl rfl rfl ?_
    refine im_gfR (q := 14) (b := 7045) D423_11 (im_fl cn_423 fl_12_291) sf_6952 rfl rfl tR_12_135 rf_6952_135 ?_
    refine im_ld (q := 15) (i := 3) D423_14 rfl rfl rfl ?_
    obtain ⟨hg4, hP⟩ := hP
    refine im_rng (j := p3) sf_7045 hg4.1 hg4.2 (fun hr5 => ?_)
    refine im_lald (q := 16) D423_15 sf_7045 hg4.1 hg4.2 (by decide) rfl ?_
    refine im_ld (q := 17) (i := 1) D423_16 rfl rfl rfl ?_
    obtain ⟨hg6, hP⟩ := hP
    refine im_lif (q := 18) (q2 := 21) (t := 23) D423_17 D423_18 rfl hr5 hg6 (fun hc7 => ?_) (fun hc7 => ?_)
    · replace hP := hP.1 hc7
      refine im_iinc (q := 26) (i := 3) (L' := [some (.ref 6952), some (vL p1), none, some (vI (p3 + 1))]) D423_23 rfl (Nat.le_of_ble_eq_true rfl) rfl ?_
      refine im_goto (q := 29) (t := 2) D423_26 rfl ?_
      exact hP.wk ⟨rfl, rfl, rfl, trivial⟩
    · replace hP := hP.2 (Decidable.not_not.mp hc7)
      refine im_ld (q := 22) (i := 3) D423_21 rfl rfl rfl ?_
      exact im_iret (q := 23) D423_22 rfl hP

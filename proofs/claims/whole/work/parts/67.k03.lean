/-! blocks of the class -/
theorem D79_0 {g : im_g} : im_D g 79 0 (.iload_n 1) 1 := im_D.of (by decide +kernel)
theorem D79_1 {g : im_g} : im_D g 79 1 (.iload 9) 3 := im_D.of (by decide +kernel)
theorem D79_3 {g : im_g} : im_D g 79 3 (.invokestatic 33) 6 := im_D.of (by decide +kernel)
theorem D79_6 {g : im_g} : im_D g 79 6 (.istore 10) 8 := im_D.of (by decide +kernel)
theorem D79_8 {g : im_g} : im_D g 79 8 (.aload_n 0) 9 := im_D.of (by decide +kernel)
theorem D79_9 {g : im_g} : im_D g 79 9 (.getfield 19) 12 := im_D.of (by decide +kernel)
theorem D79_12 {g : im_g} : im_D g 79 12 (.iload 10) 14 := im_D.of (by decide +kernel)
theorem D79_14 {g : im_g} : im_D g 79 14 (.iadd) 15 := im_D.of (by decide +kernel)
theorem D79_15 {g : im_g} : im_D g 79 15 (.iconst 2) 16 := im_D.of (by decide +kernel)
theorem D79_16 {g : im_g} : im_D g 79 16 (.iadd) 17 := im_D.of (by decide +kernel)
theorem D79_17 {g : im_g} : im_D g 79 17 (.istore 11) 19 := im_D.of (by decide +kernel)
theorem D79_19 {g : im_g} : im_D g 79 19 (.iload 11) 21 := im_D.of (by decide +kernel)
theorem D79_21 {g : im_g} : im_D g 79 21 (.sipush 16384) 24 := im_D.of (by decide +kernel)
theorem D79_24 {g : im_g} : im_D g 79 24 (.if_icmp .ge 11) 27 := im_D.of (by decide +kernel)
theorem D79_27 {g : im_g} : im_D g 79 27 (.aload_n 0) 28 := im_D.of (by decide +kernel)
theorem D79_28 {g : im_g} : im_D g 79 28 (.getfield 9) 31 := im_D.of (by decide +kernel)
theorem D79_31 {g : im_g} : im_D g 79 31 (.iload 11) 33 := im_D.of (by decide +kernel)
theorem D79_33 {g : im_g} : im_D g 79 33 (.iconst 0) 34 := im_D.of (by decide +kernel)
theorem D79_34 {g : im_g} : im_D g 79 34 (.bastore) 35 := im_D.of (by decide +kernel)
theorem D79_35 {g : im_g} : im_D g 79 35 (.aload_n 0) 36 := im_D.of (by decide +kernel)
theorem D79_36 {g : im_g} : im_D g 79 36 (.aload_n 0) 37 := im_D.of (by decide +kernel)
theorem D79_37 {g : im_g} : im_D g 79 37 (.getfield 19) 40 := im_D.of (by decide +kernel)
theorem D79_40 {g : im_g} : im_D g 79 40 (.putfield 37) 43 := im_D.of (by decide +kernel)
theorem D79_43 {g : im_g} : im_D g 79 43 (.aload_n 0) 44 := im_D.of (by decide +kernel)
theorem D79_44 {g : im_g} : im_D g 79 44 (.invokestatic 40) 47 := im_D.of (by decide +kernel)
theorem D79_47 {g : im_g} : im_D g 79 47 (.putfield 44) 50 := im_D.of (by decide +kernel)
theorem D79_50 {g : im_g} : im_D g 79 50 (.aload_n 0) 51 := im_D.of (by decide +kernel)
theorem D79_51 {g : im_g} : im_D g 79 51 (.iload 10) 53 := im_D.of (by decide +kernel)
theorem D79_53 {g : im_g} : im_D g 79 53 (.i2l) 54 := im_D.of (by decide +kernel)
theorem D79_54 {g : im_g} : im_D g 79 54 (.iconst 2) 55 := im_D.of (by decide +kernel)
theorem D79_55 {g : im_g} : im_D g 79 55 (.invokevirtual 47) 58 := im_D.of (by decide +kernel)
theorem D79_58 {g : im_g} : im_D g 79 58 (.aload_n 0) 59 := im_D.of (by decide +kernel)
theorem D79_59 {g : im_g} : im_D g 79 59 (.iload_n 1) 60 := im_D.of (by decide +kernel)
theorem D79_60 {g : im_g} : im_D g 79 60 (.i2l) 61 := im_D.of (by decide +kernel)
theorem D79_61 {g : im_g} : im_D g 79 61 (.iconst 1) 62 := im_D.of (by decide +kernel)
theorem D79_62 {g : im_g} : im_D g 79 62 (.invokevirtual 47) 65 := im_D.of (by decide +kernel)
theorem D79_65 {g : im_g} : im_D g 79 65 (.iconst 0) 66 := im_D.of (by decide +kernel)
theorem D79_66 {g : im_g} : im_D g 79 66 (.istore 12) 68 := im_D.of (by decide +kernel)
theorem D79_68 {g : im_g} : im_D g 79 68 (.iload 12) 70 := im_D.of (by decide +kernel)
theorem D79_70 {g : im_g} : im_D g 79 70 (.getstatic 29) 73 := im_D.of (by decide +kernel)
theorem D79_73 {g : im_g} : im_D g 79 73 (.iload_n 1) 74 := im_D.of (by decide +kernel)
theorem D79_74 {g : im_g} : im_D g 79 74 (.iaload) 75 := im_D.of (by decide +kernel)
theorem D79_75 {g : im_g} : im_D g 79 75 (.if_icmp .ge 37) 78 := im_D.of (by decide +kernel)
theorem D79_78 {g : im_g} : im_D g 79 78 (.aload_n 0) 79 := im_D.of (by decide +kernel)
theorem D79_79 {g : im_g} : im_D g 79 79 (.iload 12) 81 := im_D.of (by decide +kernel)
theorem D79_81 {g : im_g} : im_D g 79 81 (.ifCond .ne 7) 84 := im_D.of (by decide +kernel)
theorem D79_84 {g : im_g} : im_D g 79 84 (.lload_n 2) 85 := im_D.of (by decide +kernel)
theorem D79_85 {g : im_g} : im_D g 79 85 (.goto 16) 88 := im_D.of (by decide +kernel)
theorem D79_88 {g : im_g} : im_D g 79 88 (.iload 12) 90 := im_D.of (by decide +kernel)
theorem D79_90 {g : im_g} : im_D g 79 90 (.iconst 1) 91 := im_D.of (by decide +kernel)
theorem D79_91 {g : im_g} : im_D g 79 91 (.if_icmp .ne 8) 94 := im_D.of (by decide +kernel)
theorem D79_94 {g : im_g} : im_D g 79 94 (.lload 4) 96 := im_D.of (by decide +kernel)
theorem D79_96 {g : im_g} : im_D g 79 96 (.goto 5) 99 := im_D.of (by decide +kernel)
theorem D79_99 {g : im_g} : im_D g 79 99 (.lload 6) 101 := im_D.of (by decide +kernel)
theorem D79_101 {g : im_g} : im_D g 79 101 (.bipush 8) 103 := im_D.of (by decide +kernel)
theorem D79_103 {g : im_g} : im_D g 79 103 (.invokevirtual 47) 106 := im_D.of (by decide +kernel)
theorem D79_106 {g : im_g} : im_D g 79 106 (.iinc 12 1) 109 := im_D.of (by decide +kernel)
theorem D79_109 {g : im_g} : im_D g 79 109 (.goto (-41)) 112 := im_D.of (by decide +kernel)
theorem D79_112 {g : im_g} : im_D g 79 112 (.iconst 0) 113 := im_D.of (by decide +kernel)
theorem D79_113 {g : im_g} : im_D g 79 113 (.istore 12) 115 := im_D.of (by decide +kernel)
theorem D79_115 {g : im_g} : im_D g 79 115 (.iload 12) 117 := im_D.of (by decide +kernel)
theorem D79_117 {g : im_g} : im_D g 79 117 (.iload 9) 119 := im_D.of (by decide +kernel)
theorem D79_119 {g : im_g} : im_D g 79 119 (.if_icmp .ge 18) 122 := im_D.of (by decide +kernel)
theorem D79_122 {g : im_g} : im_D g 79 122 (.aload_n 0) 123 := im_D.of (by decide +kernel)
theorem D79_123 {g : im_g} : im_D g 79 123 (.aload 8) 125 := im_D.of (by decide +kernel)
theorem D79_125 {g : im_g} : im_D g 79 125 (.iload 12) 127 := im_D.of (by decide +kernel)
theorem D79_127 {g : im_g} : im_D g 79 127 (.baload) 128 := im_D.of (by decide +kernel)
theorem D79_128 {g : im_g} : im_D g 79 128 (.invokevirtual 51) 131 := im_D.of (by decide +kernel)
theorem D79_131 {g : im_g} : im_D g 79 131 (.iinc 12 1) 134 := im_D.of (by decide +kernel)
theorem D79_134 {g : im_g} : im_D g 79 134 (.goto (-19)) 137 := im_D.of (by decide +kernel)
theorem D79_137 {g : im_g} : im_D g 79 137 (.aload_n 0) 138 := im_D.of (by decide +kernel)
theorem D79_138 {g : im_g} : im_D g 79 138 (.aload_n 0) 139 := im_D.of (by decide +kernel)
theorem D79_139 {g : im_g} : im_D g 79 139 (.getfield 44) 142 := im_D.of (by decide +kernel)
theorem D79_142 {g : im_g} : im_D g 79 142 (.aload_n 0) 143 := im_D.of (by decide +kernel)
theorem D79_143 {g : im_g} : im_D g 79 143 (.getfield 19) 146 := im_D.of (by decide +kernel)
theorem D79_146 {g : im_g} : im_D g 79 146 (.invokestatic 55) 149 := im_D.of (by decide +kernel)
theorem D79_149 {g : im_g} : im_D g 79 149 (.i2l) 150 := im_D.of (by decide +kernel)
theorem D79_150 {g : im_g} : im_D g 79 150 (.iconst 4) 151 := im_D.of (by decide +kernel)
theorem D79_151 {g : im_g} : im_D g 79 151 (.invokevirtual 47) 154 := im_D.of (by decide +kernel)
theorem D79_154 {g : im_g} : im_D g 79 154 (.aload_n 0) 155 := im_D.of (by decide +kernel)
theorem D79_155 {g : im_g} : im_D g 79 155 (.getfield 25) 158 := im_D.of (by decide +kernel)
theorem D79_158 {g : im_g} : im_D g 79 158 (.ifCond .eq 17) 161 := im_D.of (by decide +kernel)
theorem D79_161 {g : im_g} : im_D g 79 161 (.aload_n 0) 162 := im_D.of (by decide +kernel)
theorem D79_162 {g : im_g} : im_D g 79 162 (.getfield 9) 165 := im_D.of (by decide +kernel)
theorem D79_165 {g : im_g} : im_D g 79 165 (.aload_n 0) 166 := im_D.of (by decide +kernel)
theorem D79_166 {g : im_g} : im_D g 79 166 (.getfield 19) 169 := im_D.of (by decide +kernel)
theorem D79_169 {g : im_g} : im_D g 79 169 (.iconst 2) 170 := im_D.of (by decide +kernel)
theorem D79_170 {g : im_g} : im_D g 79 170 (.iadd) 171 := im_D.of (by decide +kernel)
theorem D79_171 {g : im_g} : im_D g 79 171 (.iconst 0) 172 := im_D.of (by decide +kernel)
theorem D79_172 {g : im_g} : im_D g 79 172 (.bastore) 173 := im_D.of (by decide +kernel)
theorem D79_173 {g : im_g} : im_D g 79 173 (.iconst 0) 174 := im_D.of (by decide +kernel)
theorem D79_174 {g : im_g} : im_D g 79 174 (.ireturn) 175 := im_D.of (by decide +kernel)
theorem D79_175 {g : im_g} : im_D g 79 175 (.aload_n 0) 176 := im_D.of (by decide +kernel)
theorem D79_176 {g : im_g} : im_D g 79 176 (.iload 10) 178 := im_D.of (by decide +kernel)
theorem D79_178 {g : im_g} : im_D g 79 178 (.invokevirtual 58) 181 := im_D.of (by decide +kernel)
theorem D79_181 {g : im_g} : im_D g 79 181 (.iconst 1) 182 := im_D.of (by decide +kernel)
theorem D79_182 {g : im_g} : im_D g 79 182 (.ireturn) 183 := im_D.of (by decide +kernel)
theorem D80_0 {g : im_g} : im_D g 80 0 (.bipush 8) 2 := im_D.of (by decide +kernel)
theorem D80_2 {g : im_g} : im_D g 80 2 (.iload_n 3) 3 := im_D.of (by decide +kernel)
theorem D80_3 {g : im_g} : im_D g 80 3 (.imul) 4 := im_D.of (by decide +kernel)
theorem D80_4 {g : im_g} : im_D g 80 4 (.bipush 8) 6 := im_D.of (by decide +kernel)
theorem D80_6 {g : im_g} : im_D g 80 6 (.isub) 7 := im_D.of (by decide +kernel)
theorem D80_7 {g : im_g} : im_D g 80 7 (.istore 4) 9 := im_D.of (by decide +kernel)
theorem D80_9 {g : im_g} : im_D g 80 9 (.iload 4) 11 := im_D.of (by decide +kernel)
theorem D80_11 {g : im_g} : im_D g 80 11 (.ifCond .lt 18) 14 := im_D.of (by decide +kernel)
theorem D80_14 {g : im_g} : im_D g 80 14 (.aload_n 0) 15 := im_D.of (by decide +kernel)
theorem D80_15 {g : im_g} : im_D g 80 15 (.lload_n 1) 16 := im_D.of (by decide +kernel)
theorem D80_16 {g : im_g} : im_D g 80 16 (.iload 4) 18 := im_D.of (by decide +kernel)
theorem D80_18 {g : im_g} : im_D g 80 18 (.lushr) 19 := im_D.of (by decide +kernel)
theorem D80_19 {g : im_g} : im_D g 80 19 (.l2i) 20 := im_D.of (by decide +kernel)
theorem D80_20 {g : im_g} : im_D g 80 20 (.invokevirtual 51) 23 := im_D.of (by decide +kernel)
theorem D80_23 {g : im_g} : im_D g 80 23 (.iinc 4 (-8)) 26 := im_D.of (by decide +kernel)
theorem D80_26 {g : im_g} : im_D g 80 26 (.goto (-17)) 29 := im_D.of (by decide +kernel)
theorem D80_29 {g : im_g} : im_D g 80 29 (.return_) 30 := im_D.of (by decide +kernel)
theorem D81_0 {g : im_g} : im_D g 81 0 (.aload_n 0) 1 := im_D.of (by decide +kernel)
theorem D81_1 {g : im_g} : im_D g 81 1 (.aload_n 0) 2 := im_D.of (by decide +kernel)
theorem D81_2 {g : im_g} : im_D g 81 2 (.getfield 44) 5 := im_D.of (by decide +kernel)
theorem D81_5 {g : im_g} : im_D g 81 5 (.iload_n 1) 6 := im_D.of (by decide +kernel)
theorem D81_6 {g : im_g} : im_D g 81 6 (.invokestatic 61) 9 := im_D.of (by decide +kernel)
theorem D81_9 {g : im_g} : im_D g 81 9 (.putfield 44) 12 := im_D.of (by decide +kernel)
theorem D81_12 {g : im_g} : im_D g 81 12 (.aload_n 0) 13 := im_D.of (by decide +kernel)
theorem D81_13 {g : im_g} : im_D g 81 13 (.getfield 15) 16 := im_D.of (by decide +kernel)
theorem D81_16 {g : im_g} : im_D g 81 16 (.ifCond .ne 8) 19 := im_D.of (by decide +kernel)
theorem D81_19 {g : im_g} : im_D g 81 19 (.aload_n 0) 20 := im_D.of (by decide +kernel)
theorem D81_20 {g : im_g} : im_D g 81 20 (.iconst 1) 21 := im_D.of (by decide +kernel)
theorem D81_21 {g : im_g} : im_D g 81 21 (.putfield 25) 24 := im_D.of (by decide +kernel)
theorem D81_24 {g : im_g} : im_D g 81 24 (.aload_n 0) 25 := im_D.of (by decide +kernel)
theorem D81_25 {g : im_g} : im_D g 81 25 (.getfield 25) 28 := im_D.of (by decide +kernel)
theorem D81_28 {g : im_g} : im_D g 81 28 (.ifCond .ne 13) 31 := im_D.of (by decide +kernel)
theorem D81_31 {g : im_g} : im_D g 81 31 (.aload_n 0) 32 := im_D.of (by decide +kernel)
theorem D81_32 {g : im_g} : im_D g 81 32 (.getfield 37) 35 := im_D.of (by decide +kernel)
theorem D81_35 {g : im_g} : im_D g 81 35 (.sipush 16384) 38 := im_D.of (by decide +kernel)
theorem D81_38 {g : im_g} : im_D g 81 38 (.if_icmp .lt 4) 41 := im_D.of (by decide +kernel)
theorem D81_41 {g : im_g} : im_D g 81 41 (.return_) 42 := im_D.of (by decide +kernel)
theorem D81_42 {g : im_g} : im_D g 81 42 (.aload_n 0) 43 := im_D.of (by decide +kernel)
theorem D81_43 {g : im_g} : im_D g 81 43 (.getfield 9) 46 := im_D.of (by decide +kernel)
theorem D81_46 {g : im_g} : im_D g 81 46 (.aload_n 0) 47 := im_D.of (by decide +kernel)
theorem D81_47 {g : im_g} : im_D g 81 47 (.getfield 37) 50 := im_D.of (by decide +kernel)
theorem D81_50 {g : im_g} : im_D g 81 50 (.iload_n 1) 51 := im_D.of (by decide +kernel)
theorem D81_51 {g : im_g} : im_D g 81 51 (.i2b) 52 := im_D.of (by decide +kernel)
theorem D81_52 {g : im_g} : im_D g 81 52 (.bastore) 53 := im_D.of (by decide +kernel)
theorem D81_53 {g : im_g} : im_D g 81 53 (.aload_n 0) 54 := im_D.of (by decide +kernel)
theorem D81_54 {g : im_g} : im_D g 81 54 (.dup) 55 := im_D.of (by decide +kernel)
theorem D81_55 {g : im_g} : im_D g 81 55 (.getfield 37) 58 := im_D.of (by decide +kernel)
theorem D81_58 {g : im_g} : im_D g 81 58 (.iconst 1) 59 := im_D.of (by decide +kernel)
theorem D81_59 {g : im_g} : im_D g 81 59 (.iadd) 60 := im_D.of (by decide +kernel)
theorem D81_60 {g : im_g} : im_D g 81 60 (.putfield 37) 63 := im_D.of (by decide +kernel)
theorem D81_63 {g : im_g} : im_D g 81 63 (.aload_n 0) 64 := im_D.of (by decide +kernel)
theorem D81_64 {g : im_g} : im_D g 81 64 (.getfield 15) 67 := im_D.of (by decide +kernel)
theorem D81_67 {g : im_g} : im_D g 81 67 (.ifCond .le 13) 70 := im_D.of (by decide +kernel)
theorem D81_70 {g : im_g} : im_D g 81 70 (.aload_n 0) 71 := im_D.of (by decide +kernel)
theorem D81_71 {g : im_g} : im_D g 81 71 (.dup) 72 := im_D.of (by decide +kernel)
theorem D81_72 {g : im_g} : im_D g 81 72 (.getfield 15) 75 := im_D.of (by decide +kernel)
theorem D81_75 {g : im_g} : im_D g 81 75 (.iconst 1) 76 := im_D.of (by decide +kernel)
theorem D81_76 {g : im_g} : im_D g 81 76 (.isub) 77 := im_D.of (by decide +kernel)
theorem D81_77 {g : im_g} : im_D g 81 77 (.putfield 15) 80 := im_D.of (by decide +kernel)
theorem D81_80 {g : im_g} : im_D g 81 80 (.return_) 81 := im_D.of (by decide +kernel)
theorem D82_0 {g : im_g} : im_D g 82 0 (.aload_n 0) 1 := im_D.of (by decide +kernel)
theorem D82_1 {g : im_g} : im_D g 82 1 (.dup) 2 := im_D.of (by decide +kernel)
theorem D82_2 {g : im_g} : im_D g 82 2 (.getfield 19) 5 := im_D.of (by decide +kernel)
theorem D82_5 {g : im_g} : im_D g 82 5 (.iload_n 1) 6 := im_D.of (by decide +kernel)
theorem D82_6 {g : im_g} : im_D g 82 6 (.iadd) 7 := im_D.of (by decide +kernel)
theorem D82_7 {g : im_g} : im_D g 82 7 (.putfield 19) 10 := im_D.of (by decide +kernel)
theorem D82_10 {g : im_g} : im_D g 82 10 (.aload_n 0) 11 := im_D.of (by decide +kernel)
theorem D82_11 {g : im_g} : im_D g 82 11 (.dup) 12 := im_D.of (by decide +kernel)
theorem D82_12 {g : im_g} : im_D g 82 12 (.getfield 22) 15 := im_D.of (by decide +kernel)
theorem D82_15 {g : im_g} : im_D g 82 15 (.iconst 1) 16 := im_D.of (by decide +kernel)
theorem D82_16 {g : im_g} : im_D g 82 16 (.iadd) 17 := im_D.of (by decide +kernel)
theorem D82_17 {g : im_g} : im_D g 82 17 (.putfield 22) 20 := im_D.of (by decide +kernel)
theorem D82_20 {g : im_g} : im_D g 82 20 (.return_) 21 := im_D.of (by decide +kernel)
theorem D83_0 {g : im_g} : im_D g 83 0 (.aload_n 0) 1 := im_D.of (by decide +kernel)
theorem D83_1 {g : im_g} : im_D g 83 1 (.getfield 25) 4 := im_D.of (by decide +kernel)
theorem D83_4 {g : im_g} : im_D g 83 4 (.dup) 5 := im_D.of (by decide +kernel)
theorem D83_5 {g : im_g} : im_D g 83 5 (.getfield 70) 8 := im_D.of (by decide +kernel)
theorem D83_8 {g : im_g} : im_D g 83 8 (.aload_n 0) 9 := im_D.of (by decide +kernel)
theorem D83_9 {g : im_g} : im_D g 83 9 (.getfield 39) 12 := im_D.of (by decide +kernel)
theorem D83_12 {g : im_g} : im_D g 83 12 (.iadd) 13 := im_D.of (by decide +kernel)
theorem D83_13 {g : im_g} : im_D g 83 13 (.putfield 70) 16 := im_D.of (by decide +kernel)
theorem D83_16 {g : im_g} : im_D g 83 16 (.aload_n 0) 17 := im_D.of (by decide +kernel)
theorem D83_17 {g : im_g} : im_D g 83 17 (.getfield 25) 20 := im_D.of (by decide +kernel)
theorem D83_20 {g : im_g} : im_D g 83 20 (.dup) 21 := im_D.of (by decide +kernel)
theorem D83_21 {g : im_g} : im_D g 83 21 (.getfield 75) 24 := im_D.of (by decide +kernel)
theorem D83_24 {g : im_g} : im_D g 83 24 (.aload_n 0) 25 := im_D.of (by decide +kernel)
theorem D83_25 {g : im_g} : im_D g 83 25 (.getfield 43) 28 := im_D.of (by decide +kernel)
theorem D83_28 {g : im_g} : im_D g 83 28 (.iadd) 29 := im_D.of (by decide +kernel)
theorem D83_29 {g : im_g} : im_D g 83 29 (.putfield 75) 32 := im_D.of (by decide +kernel)
theorem D83_32 {g : im_g} : im_D g 83 32 (.return_) 33 := im_D.of (by decide +kernel)
theorem D84_0 {g : im_g} : im_D g 84 0 (.lload_n 1) 1 := im_D.of (by decide +kernel)
theorem D84_1 {g : im_g} : im_D g 84 1 (.lconst 0) 2 := im_D.of (by decide +kernel)
theorem D84_2 {g : im_g} : im_D g 84 2 (.lcmp) 3 := im_D.of (by decide +kernel)
theorem D84_3 {g : im_g} : im_D g 84 3 (.ifCond .lt 11) 6 := im_D.of (by decide +kernel)
theorem D84_6 {g : im_g} : im_D g 84 6 (.lload_n 1) 7 := im_D.of (by decide +kernel)
theorem D84_7 {g : im_g} : im_D g 84 7 (.ldc2_w 214) 10 := im_D.of (by decide +kernel)
theorem D84_10 {g : im_g} : im_D g 84 10 (.lcmp) 11 := im_D.of (by decide +kernel)
theorem D84_11 {g : im_g} : im_D g 84 11 (.ifCond .lt 6) 14 := im_D.of (by decide +kernel)
theorem D84_14 {g : im_g} : im_D g 84 14 (.bipush (-101)) 16 := im_D.of (by decide +kernel)
theorem D84_16 {g : im_g} : im_D g 84 16 (.ireturn) 17 := im_D.of (by decide +kernel)
theorem D84_17 {g : im_g} : im_D g 84 17 (.aload_n 0) 18 := im_D.of (by decide +kernel)
theorem D84_18 {g : im_g} : im_D g 84 18 (.getfield 49) 21 := im_D.of (by decide +kernel)
theorem D84_21 {g : im_g} : im_D g 84 21 (.lload_n 1) 22 := im_D.of (by decide +kernel)
theorem D84_22 {g : im_g} : im_D g 84 22 (.l2i) 23 := im_D.of (by decide +kernel)
theorem D84_23 {g : im_g} : im_D g 84 23 (.iaload) 24 := im_D.of (by decide +kernel)
theorem D84_24 {g : im_g} : im_D g 84 24 (.iconst (-1)) 25 := im_D.of (by decide +kernel)
theorem D84_25 {g : im_g} : im_D g 84 25 (.if_icmp .ne 6) 28 := im_D.of (by decide +kernel)
theorem D84_28 {g : im_g} : im_D g 84 28 (.bipush (-103)) 30 := im_D.of (by decide +kernel)
theorem D84_30 {g : im_g} : im_D g 84 30 (.ireturn) 31 := im_D.of (by decide +kernel)
theorem D84_31 {g : im_g} : im_D g 84 31 (.aload_n 0) 32 := im_D.of (by decide +kernel)
theorem D84_32 {g : im_g} : im_D g 84 32 (.iconst 2) 33 := im_D.of (by decide +kernel)
theorem D84_33 {g : im_g} : im_D g 84 33 (.lload_n 1) 34 := im_D.of (by decide +kernel)
theorem D84_34 {g : im_g} : im_D g 84 34 (.lconst 0) 35 := im_D.of (by decide +kernel)
theorem D84_35 {g : im_g} : im_D g 84 35 (.lconst 0) 36 := im_D.of (by decide +kernel)
theorem D84_36 {g : im_g} : im_D g 84 36 (.iconst 0) 37 := im_D.of (by decide +kernel)
theorem D84_37 {g : im_g} : im_D g 84 37 (.invokevirtual 228) 40 := im_D.of (by decide +kernel)
theorem D84_40 {g : im_g} : im_D g 84 40 (.istore_n 3) 41 := im_D.of (by decide +kernel)
theorem D84_41 {g : im_g} : im_D g 84 41 (.iload_n 3) 42 := im_D.of (by decide +kernel)
theorem D84_42 {g : im_g} : im_D g 84 42 (.ifCond .ne 11) 45 := im_D.of (by decide +kernel)
theorem D84_45 {g : im_g} : im_D g 84 45 (.aload_n 0) 46 := im_D.of (by decide +kernel)
theorem D84_46 {g : im_g} : im_D g 84 46 (.getfield 49) 49 := im_D.of (by decide +kernel)
theorem D84_49 {g : im_g} : im_D g 84 49 (.lload_n 1) 50 := im_D.of (by decide +kernel)
theorem D84_50 {g : im_g} : im_D g 84 50 (.l2i) 51 := im_D.of (by decide +kernel)
theorem D84_51 {g : im_g} : im_D g 84 51 (.iconst (-1)) 52 := im_D.of (by decide +kernel)
theorem D84_52 {g : im_g} : im_D g 84 52 (.iastore) 53 := im_D.of (by decide +kernel)
theorem D84_53 {g : im_g} : im_D g 84 53 (.iload_n 3) 54 := im_D.of (by decide +kernel)
theorem D84_54 {g : im_g} : im_D g 84 54 (.ireturn) 55 := im_D.of (by decide +kernel)
theorem D85_0 {g : im_g} : im_D g 85 0 (.lload_n 1) 1 := im_D.of (by decide +kernel)
theorem D85_1 {g : im_g} : im_D g 85 1 (.lconst 0) 2 := im_D.of (by decide +kernel)
theorem D85_2 {g : im_g} : im_D g 85 2 (.lcmp) 3 := im_D.of (by decide +kernel)
theorem D85_3 {g : im_g} : im_D g 85 3 (.ifCond .lt 25) 6 := im_D.of (by decide +kernel)
theorem D85_6 {g : im_g} : im_D g 85 6 (.lload_n 1) 7 := im_D.of (by decide +kernel)
theorem D85_7 {g : im_g} : im_D g 85 7 (.ldc2_w 214) 10 := im_D.of (by decide +kernel)
theorem D85_10 {g : im_g} : im_D g 85 10 (.lcmp) 11 := im_D.of (by decide +kernel)
theorem D85_11 {g : im_g} : im_D g 85 11 (.ifCond .ge 17) 14 := im_D.of (by decide +kernel)
theorem D85_14 {g : im_g} : im_D g 85 14 (.lload_n 3) 15 := im_D.of (by decide +kernel)
theorem D85_15 {g : im_g} : im_D g 85 15 (.lconst 0) 16 := im_D.of (by decide +kernel)
theorem D85_16 {g : im_g} : im_D g 85 16 (.lcmp) 17 := im_D.of (by decide +kernel)
theorem D85_17 {g : im_g} : im_D g 85 17 (.ifCond .lt 11) 20 := im_D.of (by decide +kernel)
theorem D85_20 {g : im_g} : im_D g 85 20 (.lload_n 3) 21 := im_D.of (by decide +kernel)
theorem D85_21 {g : im_g} : im_D g 85 21 (.ldc2_w 214) 24 := im_D.of (by decide +kernel)
theorem D85_24 {g : im_g} : im_D g 85 24 (.lcmp) 25 := im_D.of (by decide +kernel)
theorem D85_25 {g : im_g} : im_D g 85 25 (.ifCond .lt 6) 28 := im_D.of (by decide +kernel)
theorem D85_28 {g : im_g} : im_D g 85 28 (.bipush (-101)) 30 := im_D.of (by decide +kernel)
theorem D85_30 {g : im_g} : im_D g 85 30 (.ireturn) 31 := im_D.of (by decide +kernel)
theorem D85_31 {g : im_g} : im_D g 85 31 (.lload 5) 33 := im_D.of (by decide +kernel)
theorem D85_33 {g : im_g} : im_D g 85 33 (.lconst 0) 34 := im_D.of (by decide +kernel)
theorem D85_34 {g : im_g} : im_D g 85 34 (.lcmp) 35 := im_D.of (by decide +kernel)
theorem D85_35 {g : im_g} : im_D g 85 35 (.ifCond .lt 12) 38 := im_D.of (by decide +kernel)
theorem D85_38 {g : im_g} : im_D g 85 38 (.lload 5) 40 := im_D.of (by decide +kernel)
theorem D85_40 {g : im_g} : im_D g 85 40 (.ldc2_w 316) 43 := im_D.of (by decide +kernel)
theorem D85_43 {g : im_g} : im_D g 85 43 (.lcmp) 44 := im_D.of (by decide +kernel)
theorem D85_44 {g : im_g} : im_D g 85 44 (.ifCond .le 6) 47 := im_D.of (by decide +kernel)
theorem D85_47 {g : im_g} : im_D g 85 47 (.bipush (-102)) 49 := im_D.of (by decide +kernel)
theorem D85_49 {g : im_g} : im_D g 85 49 (.ireturn) 50 := im_D.of (by decide +kernel)
theorem D85_50 {g : im_g} : im_D g 85 50 (.aload_n 0) 51 := im_D.of (by decide +kernel)
theorem D85_51 {g : im_g} : im_D g 85 51 (.getfield 55) 54 := im_D.of (by decide +kernel)
theorem D85_54 {g : im_g} : im_D g 85 54 (.lload_n 1) 55 := im_D.of (by decide +kernel)
theorem D85_55 {g : im_g} : im_D g 85 55 (.l2i) 56 := im_D.of (by decide +kernel)
theorem D85_56 {g : im_g} : im_D g 85 56 (.aaload) 57 := im_D.of (by decide +kernel)
theorem D85_57 {g : im_g} : im_D g 85 57 (.astore 7) 59 := im_D.of (by decide +kernel)
theorem D85_59 {g : im_g} : im_D g 85 59 (.aload_n 0) 60 := im_D.of (by decide +kernel)
theorem D85_60 {g : im_g} : im_D g 85 60 (.getfield 49) 63 := im_D.of (by decide +kernel)
theorem D85_63 {g : im_g} : im_D g 85 63 (.lload_n 3) 64 := im_D.of (by decide +kernel)
theorem D85_64 {g : im_g} : im_D g 85 64 (.l2i) 65 := im_D.of (by decide +kernel)
theorem D85_65 {g : im_g} : im_D g 85 65 (.iaload) 66 := im_D.of (by decide +kernel)
theorem D85_66 {g : im_g} : im_D g 85 66 (.istore 8) 68 := im_D.of (by decide +kernel)
theorem D85_68 {g : im_g} : im_D g 85 68 (.aload 7) 70 := im_D.of (by decide +kernel)
theorem D85_70 {g : im_g} : im_D g 85 70 (.getfield 290) 73 := im_D.of (by decide +kernel)
theorem D85_73 {g : im_g} : im_D g 85 73 (.ifCond .ne 9) 76 := im_D.of (by decide +kernel)
theorem D85_76 {g : im_g} : im_D g 85 76 (.iload 8) 78 := im_D.of (by decide +kernel)
theorem D85_78 {g : im_g} : im_D g 85 78 (.iconst (-1)) 79 := im_D.of (by decide +kernel)
theorem D85_79 {g : im_g} : im_D g 85 79 (.if_icmp .ne 6) 82 := im_D.of (by decide +kernel)
theorem D85_82 {g : im_g} : im_D g 85 82 (.bipush (-103)) 84 := im_D.of (by decide +kernel)
theorem D85_84 {g : im_g} : im_D g 85 84 (.ireturn) 85 := im_D.of (by decide +kernel)
theorem D85_85 {g : im_g} : im_D g 85 85 (.aload_n 0) 86 := im_D.of (by decide +kernel)
theorem D85_86 {g : im_g} : im_D g 85 86 (.getfield 36) 89 := im_D.of (by decide +kernel)
theorem D85_89 {g : im_g} : im_D g 85 89 (.iload 8) 91 := im_D.of (by decide +kernel)
theorem D85_91 {g : im_g} : im_D g 85 91 (.aload_n 0) 92 := im_D.of (by decide +kernel)
theorem D85_92 {g : im_g} : im_D g 85 92 (.getfield 64) 95 := im_D.of (by decide +kernel)
theorem D85_95 {g : im_g} : im_D g 85 95 (.invokevirtual 318) 98 := im_D.of (by decide +kernel)
theorem D85_98 {g : im_g} : im_D g 85 98 (.ifCond .eq 6) 101 := im_D.of (by decide +kernel)
theorem D85_101 {g : im_g} : im_D g 85 101 (.bipush (-11)) 103 := im_D.of (by decide +kernel)
theorem D85_103 {g : im_g} : im_D g 85 103 (.ireturn) 104 := im_D.of (by decide +kernel)
theorem D85_104 {g : im_g} : im_D g 85 104 (.aload_n 0) 105 := im_D.of (by decide +kernel)
theorem D85_105 {g : im_g} : im_D g 85 105 (.iconst 3) 106 := im_D.of (by decide +kernel)
theorem D85_106 {g : im_g} : im_D g 85 106 (.lload_n 1) 107 := im_D.of (by decide +kernel)
theorem D85_107 {g : im_g} : im_D g 85 107 (.lload_n 3) 108 := im_D.of (by decide +kernel)
theorem D85_108 {g : im_g} : im_D g 85 108 (.lload 5) 110 := im_D.of (by decide +kernel)
theorem D85_110 {g : im_g} : im_D g 85 110 (.iconst 0) 111 := im_D.of (by decide +kernel)
theorem D85_111 {g : im_g} : im_D g 85 111 (.invokevirtual 228) 114 := im_D.of (by decide +kernel)
theorem D85_114 {g : im_g} : im_D g 85 114 (.istore 9) 116 := im_D.of (by decide +kernel)
theorem D85_116 {g : im_g} : im_D g 85 116 (.iload 9) 118 := im_D.of (by decide +kernel)
theorem D85_118 {g : im_g} : im_D g 85 118 (.ifCond .ne 24) 121 := im_D.of (by decide +kernel)
theorem D85_121 {g : im_g} : im_D g 85 121 (.aload 7) 123 := im_D.of (by decide +kernel)
theorem D85_123 {g : im_g} : im_D g 85 123 (.iload 8) 125 := im_D.of (by decide +kernel)
theorem D85_125 {g : im_g} : im_D g 85 125 (.lload 5) 127 := im_D.of (by decide +kernel)
theorem D85_127 {g : im_g} : im_D g 85 127 (.invokevirtual 322) 130 := im_D.of (by decide +kernel)
theorem D85_130 {g : im_g} : im_D g 85 130 (.aload 7) 132 := im_D.of (by decide +kernel)
theorem D85_132 {g : im_g} : im_D g 85 132 (.getfield 326) 135 := im_D.of (by decide +kernel)
theorem D85_135 {g : im_g} : im_D g 85 135 (.aload_n 0) 136 := im_D.of (by decide +kernel)
theorem D85_136 {g : im_g} : im_D g 85 136 (.getfield 64) 139 := im_D.of (by decide +kernel)
theorem D85_139 {g : im_g} : im_D g 85 139 (.invokevirtual 329) 142 := im_D.of (by decide +kernel)
theorem D85_142 {g : im_g} : im_D g 85 142 (.iload 9) 144 := im_D.of (by decide +kernel)
theorem D85_144 {g : im_g} : im_D g 85 144 (.ireturn) 145 := im_D.of (by decide +kernel)
theorem D86_0 {g : im_g} : im_D g 86 0 (.iload_n 1) 1 := im_D.of (by decide +kernel)
theorem D86_1 {g : im_g} : im_D g 86 1 (.istore_n 3) 2 := im_D.of (by decide +kernel)
theorem D86_2 {g : im_g} : im_D g 86 2 (.iload_n 3) 3 := im_D.of (by decide +kernel)
theorem D86_3 {g : im_g} : im_D g 86 3 (.aload_n 0) 4 := im_D.of (by decide +kernel)
theorem D86_4 {g : im_g} : im_D g 86 4 (.getfield 15) 7 := im_D.of (by decide +kernel)
theorem D86_7 {g : im_g} : im_D g 86 7 (.iload_n 1) 8 := im_D.of (by decide +kernel)
theorem D86_8 {g : im_g} : im_D g 86 8 (.iaload) 9 := im_D.of (by decide +kernel)
theorem D86_9 {g : im_g} : im_D g 86 9 (.if_icmp .ge 71) 12 := im_D.of (by decide +kernel)
theorem D86_12 {g : im_g} : im_D g 86 12 (.aload_n 0) 13 := im_D.of (by decide +kernel)
theorem D86_13 {g : im_g} : im_D g 86 13 (.iload_n 3) 14 := im_D.of (by decide +kernel)
theorem D86_14 {g : im_g} : im_D g 86 14 (.invokevirtual 93) 17 := im_D.of (by decide +kernel)
theorem D86_17 {g : im_g} : im_D g 86 17 (.lstore 4) 19 := im_D.of (by decide +kernel)
theorem D86_19 {g : im_g} : im_D g 86 19 (.lload 4) 21 := im_D.of (by decide +kernel)
theorem D86_21 {g : im_g} : im_D g 86 21 (.lconst 0) 22 := im_D.of (by decide +kernel)
theorem D86_22 {g : im_g} : im_D g 86 22 (.lcmp) 23 := im_D.of (by decide +kernel)
theorem D86_23 {g : im_g} : im_D g 86 23 (.ifCond .eq 15) 26 := im_D.of (by decide +kernel)
theorem D86_26 {g : im_g} : im_D g 86 26 (.aload_n 2) 27 := im_D.of (by decide +kernel)
theorem D86_27 {g : im_g} : im_D g 86 27 (.lload 4) 29 := im_D.of (by decide +kernel)
theorem D86_29 {g : im_g} : im_D g 86 29 (.lconst 0) 30 := im_D.of (by decide +kernel)
theorem D86_30 {g : im_g} : im_D g 86 30 (.invokevirtual 103) 33 := im_D.of (by decide +kernel)
theorem D86_33 {g : im_g} : im_D g 86 33 (.ifCond .ge 5) 36 := im_D.of (by decide +kernel)
theorem D86_36 {g : im_g} : im_D g 86 36 (.iconst 1) 37 := im_D.of (by decide +kernel)
theorem D86_37 {g : im_g} : im_D g 86 37 (.ireturn) 38 := im_D.of (by decide +kernel)
theorem D86_38 {g : im_g} : im_D g 86 38 (.lload 4) 40 := im_D.of (by decide +kernel)
theorem D86_40 {g : im_g} : im_D g 86 40 (.lconst 0) 41 := im_D.of (by decide +kernel)
theorem D86_41 {g : im_g} : im_D g 86 41 (.lcmp) 42 := im_D.of (by decide +kernel)
theorem D86_42 {g : im_g} : im_D g 86 42 (.ifCond .eq 32) 45 := im_D.of (by decide +kernel)
theorem D86_45 {g : im_g} : im_D g 86 45 (.aload_n 0) 46 := im_D.of (by decide +kernel)
theorem D86_46 {g : im_g} : im_D g 86 46 (.getfield 9) 49 := im_D.of (by decide +kernel)
theorem D86_49 {g : im_g} : im_D g 86 49 (.iload_n 3) 50 := im_D.of (by decide +kernel)
theorem D86_50 {g : im_g} : im_D g 86 50 (.iaload) 51 := im_D.of (by decide +kernel)
theorem D86_51 {g : im_g} : im_D g 86 51 (.iconst 3) 52 := im_D.of (by decide +kernel)
theorem D86_52 {g : im_g} : im_D g 86 52 (.if_icmp .ne 22) 55 := im_D.of (by decide +kernel)
theorem D86_55 {g : im_g} : im_D g 86 55 (.aload_n 2) 56 := im_D.of (by decide +kernel)
theorem D86_56 {g : im_g} : im_D g 86 56 (.lload 4) 58 := im_D.of (by decide +kernel)
theorem D86_58 {g : im_g} : im_D g 86 58 (.lconst 0) 59 := im_D.of (by decide +kernel)
theorem D86_59 {g : im_g} : im_D g 86 59 (.invokevirtual 109) 62 := im_D.of (by decide +kernel)
theorem D86_62 {g : im_g} : im_D g 86 62 (.invokevirtual 113) 65 := im_D.of (by decide +kernel)
theorem D86_65 {g : im_g} : im_D g 86 65 (.ldc2_w 85) 68 := im_D.of (by decide +kernel)
theorem D86_68 {g : im_g} : im_D g 86 68 (.lcmp) 69 := im_D.of (by decide +kernel)
theorem D86_69 {g : im_g} : im_D g 86 69 (.ifCond .ne 5) 72 := im_D.of (by decide +kernel)
theorem D86_72 {g : im_g} : im_D g 86 72 (.iconst 1) 73 := im_D.of (by decide +kernel)
theorem D86_73 {g : im_g} : im_D g 86 73 (.ireturn) 74 := im_D.of (by decide +kernel)
theorem D86_74 {g : im_g} : im_D g 86 74 (.iinc 3 1) 77 := im_D.of (by decide +kernel)
theorem D86_77 {g : im_g} : im_D g 86 77 (.goto (-75)) 80 := im_D.of (by decide +kernel)
theorem D86_80 {g : im_g} : im_D g 86 80 (.iconst 0) 81 := im_D.of (by decide +kernel)
theorem D86_81 {g : im_g} : im_D g 86 81 (.ireturn) 82 := im_D.of (by decide +kernel)
theorem D87_0 {g : im_g} : im_D g 87 0 (.aload_n 0) 1 := im_D.of (by decide +kernel)
theorem D87_1 {g : im_g} : im_D g 87 1 (.getfield 9) 4 := im_D.of (by decide +kernel)
theorem D87_4 {g : im_g} : im_D g 87 4 (.iload_n 1) 5 := im_D.of (by decide +kernel)
theorem D87_5 {g : im_g} : im_D g 87 5 (.iaload) 6 := im_D.of (by decide +kernel)
theorem D87_6 {g : im_g} : im_D g 87 6 (.bipush 35) 8 := im_D.of (by decide +kernel)
theorem D87_8 {g : im_g} : im_D g 87 8 (.if_icmp .ne 12) 11 := im_D.of (by decide +kernel)
theorem D87_11 {g : im_g} : im_D g 87 11 (.aload_n 0) 12 := im_D.of (by decide +kernel)
theorem D87_12 {g : im_g} : im_D g 87 12 (.getfield 27) 15 := im_D.of (by decide +kernel)
theorem D87_15 {g : im_g} : im_D g 87 15 (.iload_n 1) 16 := im_D.of (by decide +kernel)
theorem D87_16 {g : im_g} : im_D g 87 16 (.laload) 17 := im_D.of (by decide +kernel)
theorem D87_17 {g : im_g} : im_D g 87 17 (.goto 23) 20 := im_D.of (by decide +kernel)
theorem D87_20 {g : im_g} : im_D g 87 20 (.aload_n 0) 21 := im_D.of (by decide +kernel)
theorem D87_21 {g : im_g} : im_D g 87 21 (.getfield 9) 24 := im_D.of (by decide +kernel)
theorem D87_24 {g : im_g} : im_D g 87 24 (.iload_n 1) 25 := im_D.of (by decide +kernel)
theorem D87_25 {g : im_g} : im_D g 87 25 (.iaload) 26 := im_D.of (by decide +kernel)
theorem D87_26 {g : im_g} : im_D g 87 26 (.iconst 3) 27 := im_D.of (by decide +kernel)
theorem D87_27 {g : im_g} : im_D g 87 27 (.if_icmp .ne 12) 30 := im_D.of (by decide +kernel)
theorem D87_30 {g : im_g} : im_D g 87 30 (.aload_n 0) 31 := im_D.of (by decide +kernel)
theorem D87_31 {g : im_g} : im_D g 87 31 (.getfield 31) 34 := im_D.of (by decide +kernel)
theorem D87_34 {g : im_g} : im_D g 87 34 (.iload_n 1) 35 := im_D.of (by decide +kernel)
theorem D87_35 {g : im_g} : im_D g 87 35 (.laload) 36 := im_D.of (by decide +kernel)
theorem D87_36 {g : im_g} : im_D g 87 36 (.goto 4) 39 := im_D.of (by decide +kernel)
theorem D87_39 {g : im_g} : im_D g 87 39 (.lconst 0) 40 := im_D.of (by decide +kernel)
theorem D87_40 {g : im_g} : im_D g 87 40 (.lreturn) 41 := im_D.of (by decide +kernel)
theorem D88_0 {g : im_g} : im_D g 88 0 (.iconst 0) 1 := im_D.of (by decide +kernel)
theorem D88_1 {g : im_g} : im_D g 88 1 (.istore 5) 3 := im_D.of (by decide +kernel)
theorem D88_3 {g : im_g} : im_D g 88 3 (.iload 5) 5 := im_D.of (by decide +kernel)
theorem D88_5 {g : im_g} : im_D g 88 5 (.aload_n 0) 6 := im_D.of (by decide +kernel)
theorem D88_6 {g : im_g} : im_D g 88 6 (.getfield 29) 9 := im_D.of (by decide +kernel)
theorem D88_9 {g : im_g} : im_D g 88 9 (.if_icmp .ge 77) 12 := im_D.of (by decide +kernel)
theorem D88_12 {g : im_g} : im_D g 88 12 (.aload_n 0) 13 := im_D.of (by decide +kernel)
theorem D88_13 {g : im_g} : im_D g 88 13 (.getfield 18) 16 := im_D.of (by decide +kernel)
theorem D88_16 {g : im_g} : im_D g 88 16 (.iload 5) 18 := im_D.of (by decide +kernel)
theorem D88_18 {g : im_g} : im_D g 88 18 (.laload) 19 := im_D.of (by decide +kernel)
theorem D88_19 {g : im_g} : im_D g 88 19 (.lload_n 1) 20 := im_D.of (by decide +kernel)
theorem D88_20 {g : im_g} : im_D g 88 20 (.lcmp) 21 := im_D.of (by decide +kernel)
theorem D88_21 {g : im_g} : im_D g 88 21 (.ifCond .ne 18) 24 := im_D.of (by decide +kernel)
theorem D88_24 {g : im_g} : im_D g 88 24 (.aload_n 0) 25 := im_D.of (by decide +kernel)
theorem D88_25 {g : im_g} : im_D g 88 25 (.getfield 22) 28 := im_D.of (by decide +kernel)
theorem D88_28 {g : im_g} : im_D g 88 28 (.iload 5) 30 := im_D.of (by decide +kernel)
theorem D88_30 {g : im_g} : im_D g 88 30 (.laload) 31 := im_D.of (by decide +kernel)
theorem D88_31 {g : im_g} : im_D g 88 31 (.lload_n 3) 32 := im_D.of (by decide +kernel)
theorem D88_32 {g : im_g} : im_D g 88 32 (.lcmp) 33 := im_D.of (by decide +kernel)
theorem D88_33 {g : im_g} : im_D g 88 33 (.ifCond .ne 6) 36 := im_D.of (by decide +kernel)
theorem D88_36 {g : im_g} : im_D g 88 36 (.iload 5) 38 := im_D.of (by decide +kernel)
theorem D88_38 {g : im_g} : im_D g 88 38 (.ireturn) 39 := im_D.of (by decide +kernel)
theorem D88_39 {g : im_g} : im_D g 88 39 (.aload_n 0) 40 := im_D.of (by decide +kernel)
theorem D88_40 {g : im_g} : im_D g 88 40 (.getfield 18) 43 := im_D.of (by decide +kernel)
theorem D88_43 {g : im_g} : im_D g 88 43 (.iload 5) 45 := im_D.of (by decide +kernel)
theorem D88_45 {g : im_g} : im_D g 88 45 (.laload) 46 := im_D.of (by decide +kernel)
theorem D88_46 {g : im_g} : im_D g 88 46 (.lload_n 1) 47 := im_D.of (by decide +kernel)
theorem D88_47 {g : im_g} : im_D g 88 47 (.lcmp) 48 := im_D.of (by decide +kernel)
theorem D88_48 {g : im_g} : im_D g 88 48 (.ifCond .gt 27) 51 := im_D.of (by decide +kernel)
theorem D88_51 {g : im_g} : im_D g 88 51 (.aload_n 0) 52 := im_D.of (by decide +kernel)
theorem D88_52 {g : im_g} : im_D g 88 52 (.getfield 18) 55 := im_D.of (by decide +kernel)
theorem D88_55 {g : im_g} : im_D g 88 55 (.iload 5) 57 := im_D.of (by decide +kernel)
theorem D88_57 {g : im_g} : im_D g 88 57 (.laload) 58 := im_D.of (by decide +kernel)
theorem D88_58 {g : im_g} : im_D g 88 58 (.lload_n 1) 59 := im_D.of (by decide +kernel)
theorem D88_59 {g : im_g} : im_D g 88 59 (.lcmp) 60 := im_D.of (by decide +kernel)
theorem D88_60 {g : im_g} : im_D g 88 60 (.ifCond .ne 20) 63 := im_D.of (by decide +kernel)
theorem D88_63 {g : im_g} : im_D g 88 63 (.aload_n 0) 64 := im_D.of (by decide +kernel)
theorem D88_64 {g : im_g} : im_D g 88 64 (.getfield 22) 67 := im_D.of (by decide +kernel)
theorem D88_67 {g : im_g} : im_D g 88 67 (.iload 5) 69 := im_D.of (by decide +kernel)
theorem D88_69 {g : im_g} : im_D g 88 69 (.laload) 70 := im_D.of (by decide +kernel)
theorem D88_70 {g : im_g} : im_D g 88 70 (.lload_n 3) 71 := im_D.of (by decide +kernel)
theorem D88_71 {g : im_g} : im_D g 88 71 (.lcmp) 72 := im_D.of (by decide +kernel)
theorem D88_72 {g : im_g} : im_D g 88 72 (.ifCond .le 8) 75 := im_D.of (by decide +kernel)
theorem D88_75 {g : im_g} : im_D g 88 75 (.iconst (-1)) 76 := im_D.of (by decide +kernel)
theorem D88_76 {g : im_g} : im_D g 88 76 (.iload 5) 78 := im_D.of (by decide +kernel)
theorem D88_78 {g : im_g} : im_D g 88 78 (.isub) 79 := im_D.of (by decide +kernel)
theorem D88_79 {g : im_g} : im_D g 88 79 (.ireturn) 80 := im_D.of (by decide +kernel)
theorem D88_80 {g : im_g} : im_D g 88 80 (.iinc 5 1) 83 := im_D.of (by decide +kernel)
theorem D88_83 {g : im_g} : im_D g 88 83 (.goto (-80)) 86 := im_D.of (by decide +kernel)
theorem D88_86 {g : im_g} : im_D g 88 86 (.iconst (-1)) 87 := im_D.of (by decide +kernel)
theorem D88_87 {g : im_g} : im_D g 88 87 (.aload_n 0) 88 := im_D.of (by decide +kernel)
theorem D88_88 {g : im_g} : im_D g 88 88 (.getfield 29) 91 := im_D.of (by decide +kernel)
theorem D88_91 {g : im_g} : im_D g 88 91 (.isub) 92 := im_D.of (by decide +kernel)
theorem D88_92 {g : im_g} : im_D g 88 92 (.ireturn) 93 := im_D.of (by decide +kernel)
theorem D89_0 {g : im_g} : im_D g 89 0 (.aload_n 0) 1 := im_D.of (by decide +kernel)
theorem D89_1 {g : im_g} : im_D g 89 1 (.lload_n 1) 2 := im_D.of (by decide +kernel)
theorem D89_2 {g : im_g} : im_D g 89 2 (.lload_n 3) 3 := im_D.of (by decide +kernel)
theorem D89_3 {g : im_g} : im_D g 89 3 (.invokevirtual 43) 6 := im_D.of (by decide +kernel)
theorem D89_6 {g : im_g} : im_D g 89 6 (.istore 5) 8 := im_D.of (by decide +kernel)
theorem D89_8 {g : im_g} : im_D g 89 8 (.iload 5) 10 := im_D.of (by decide +kernel)
theorem D89_10 {g : im_g} : im_D g 89 10 (.ifCond .ge 10) 13 := im_D.of (by decide +kernel)
theorem D89_13 {g : im_g} : im_D g 89 13 (.aload_n 0) 14 := im_D.of (by decide +kernel)
theorem D89_14 {g : im_g} : im_D g 89 14 (.getfield 12) 17 := im_D.of (by decide +kernel)
theorem D89_17 {g : im_g} : im_D g 89 17 (.goto 10) 20 := im_D.of (by decide +kernel)
theorem D89_20 {g : im_g} : im_D g 89 20 (.aload_n 0) 21 := im_D.of (by decide +kernel)
theorem D89_21 {g : im_g} : im_D g 89 21 (.getfield 25) 24 := im_D.of (by decide +kernel)
theorem D89_24 {g : im_g} : im_D g 89 24 (.iload 5) 26 := im_D.of (by decide +kernel)
theorem D89_26 {g : im_g} : im_D g 89 26 (.aaload) 27 := im_D.of (by decide +kernel)
theorem D89_27 {g : im_g} : im_D g 89 27 (.areturn) 28 := im_D.of (by decide +kernel)
theorem D90_0 {g : im_g} : im_D g 90 0 (.aload_n 0) 1 := im_D.of (by decide +kernel)
theorem D90_1 {g : im_g} : im_D g 90 1 (.getfield 14) 4 := im_D.of (by decide +kernel)
theorem D90_4 {g : im_g} : im_D g 90 4 (.iconst 0) 5 := im_D.of (by decide +kernel)
theorem D90_5 {g : im_g} : im_D g 90 5 (.putfield 29) 8 := im_D.of (by decide +kernel)
theorem D90_8 {g : im_g} : im_D g 90 8 (.aload_n 0) 9 := im_D.of (by decide +kernel)
theorem D90_9 {g : im_g} : im_D g 90 9 (.getfield 20) 12 := im_D.of (by decide +kernel)
theorem D90_12 {g : im_g} : im_D g 90 12 (.iconst 0) 13 := im_D.of (by decide +kernel)
theorem D90_13 {g : im_g} : im_D g 90 13 (.putfield 29) 16 := im_D.of (by decide +kernel)
theorem D90_16 {g : im_g} : im_D g 90 16 (.aload_n 0) 17 := im_D.of (by decide +kernel)
theorem D90_17 {g : im_g} : im_D g 90 17 (.getfield 23) 20 := im_D.of (by decide +kernel)
theorem D90_20 {g : im_g} : im_D g 90 20 (.iconst 0) 21 := im_D.of (by decide +kernel)
theorem D90_21 {g : im_g} : im_D g 90 21 (.putfield 29) 24 := im_D.of (by decide +kernel)
theorem D90_24 {g : im_g} : im_D g 90 24 (.aload_n 0) 25 := im_D.of (by decide +kernel)
theorem D90_25 {g : im_g} : im_D g 90 25 (.lload_n 2) 26 := im_D.of (by decide +kernel)
theorem D90_26 {g : im_g} : im_D g 90 26 (.putfield 33) 29 := im_D.of (by decide +kernel)
theorem D90_29 {g : im_g} : im_D g 90 29 (.aload_n 0) 30 := im_D.of (by decide +kernel)
theorem D90_30 {g : im_g} : im_D g 90 30 (.iload_n 1) 31 := im_D.of (by decide +kernel)
theorem D90_31 {g : im_g} : im_D g 90 31 (.putfield 37) 34 := im_D.of (by decide +kernel)
theorem D90_34 {g : im_g} : im_D g 90 34 (.aload_n 0) 35 := im_D.of (by decide +kernel)
theorem D90_35 {g : im_g} : im_D g 90 35 (.iconst 1) 36 := im_D.of (by decide +kernel)
theorem D90_36 {g : im_g} : im_D g 90 36 (.putfield 40) 39 := im_D.of (by decide +kernel)
theorem D90_39 {g : im_g} : im_D g 90 39 (.return_) 40 := im_D.of (by decide +kernel)
theorem D91_0 {g : im_g} : im_D g 91 0 (.aload_n 0) 1 := im_D.of (by decide +kernel)
theorem D91_1 {g : im_g} : im_D g 91 1 (.aload_n 1) 2 := im_D.of (by decide +kernel)
theorem D91_2 {g : im_g} : im_D g 91 2 (.getfield 29) 5 := im_D.of (by decide +kernel)
theorem D91_5 {g : im_g} : im_D g 91 5 (.aload_n 0) 6 := im_D.of (by decide +kernel)
theorem D91_6 {g : im_g} : im_D g 91 6 (.getfield 25) 9 := im_D.of (by decide +kernel)
theorem D91_9 {g : im_g} : im_D g 91 9 (.arraylength) 10 := im_D.of (by decide +kernel)
theorem D91_10 {g : im_g} : im_D g 91 10 (.invokestatic 33) 13 := im_D.of (by decide +kernel)
theorem D91_13 {g : im_g} : im_D g 91 13 (.putfield 29) 16 := im_D.of (by decide +kernel)
theorem D91_16 {g : im_g} : im_D g 91 16 (.iconst 0) 17 := im_D.of (by decide +kernel)
theorem D91_17 {g : im_g} : im_D g 91 17 (.istore_n 2) 18 := im_D.of (by decide +kernel)
theorem D91_18 {g : im_g} : im_D g 91 18 (.iload_n 2) 19 := im_D.of (by decide +kernel)
theorem D91_19 {g : im_g} : im_D g 91 19 (.aload_n 0) 20 := im_D.of (by decide +kernel)
theorem D91_20 {g : im_g} : im_D g 91 20 (.getfield 29) 23 := im_D.of (by decide +kernel)
theorem D91_23 {g : im_g} : im_D g 91 23 (.if_icmp .ge 48) 26 := im_D.of (by decide +kernel)
theorem D91_26 {g : im_g} : im_D g 91 26 (.aload_n 0) 27 := im_D.of (by decide +kernel)
theorem D91_27 {g : im_g} : im_D g 91 27 (.getfield 18) 30 := im_D.of (by decide +kernel)
theorem D91_30 {g : im_g} : im_D g 91 30 (.iload_n 2) 31 := im_D.of (by decide +kernel)
theorem D91_31 {g : im_g} : im_D g 91 31 (.aload_n 1) 32 := im_D.of (by decide +kernel)
theorem D91_32 {g : im_g} : im_D g 91 32 (.getfield 18) 35 := im_D.of (by decide +kernel)
theorem D91_35 {g : im_g} : im_D g 91 35 (.iload_n 2) 36 := im_D.of (by decide +kernel)
theorem D91_36 {g : im_g} : im_D g 91 36 (.laload) 37 := im_D.of (by decide +kernel)
theorem D91_37 {g : im_g} : im_D g 91 37 (.lastore) 38 := im_D.of (by decide +kernel)
theorem D91_38 {g : im_g} : im_D g 91 38 (.aload_n 0) 39 := im_D.of (by decide +kernel)
theorem D91_39 {g : im_g} : im_D g 91 39 (.getfield 22) 42 := im_D.of (by decide +kernel)
theorem D91_42 {g : im_g} : im_D g 91 42 (.iload_n 2) 43 := im_D.of (by decide +kernel)
theorem D91_43 {g : im_g} : im_D g 91 43 (.aload_n 1) 44 := im_D.of (by decide +kernel)
theorem D91_44 {g : im_g} : im_D g 91 44 (.getfield 22) 47 := im_D.of (by decide +kernel)
theorem D91_47 {g : im_g} : im_D g 91 47 (.iload_n 2) 48 := im_D.of (by decide +kernel)
theorem D91_48 {g : im_g} : im_D g 91 48 (.laload) 49 := im_D.of (by decide +kernel)
theorem D91_49 {g : im_g} : im_D g 91 49 (.lastore) 50 := im_D.of (by decide +kernel)
theorem D91_50 {g : im_g} : im_D g 91 50 (.aload_n 0) 51 := im_D.of (by decide +kernel)
theorem D91_51 {g : im_g} : im_D g 91 51 (.getfield 25) 54 := im_D.of (by decide +kernel)
theorem D91_54 {g : im_g} : im_D g 91 54 (.iload_n 2) 55 := im_D.of (by decide +kernel)
theorem D91_55 {g : im_g} : im_D g 91 55 (.aaload) 56 := im_D.of (by decide +kernel)
theorem D91_56 {g : im_g} : im_D g 91 56 (.aload_n 1) 57 := im_D.of (by decide +kernel)
theorem D91_57 {g : im_g} : im_D g 91 57 (.getfield 25) 60 := im_D.of (by decide +kernel)
theorem D91_60 {g : im_g} : im_D g 91 60 (.iload_n 2) 61 := im_D.of (by decide +kernel)
theorem D91_61 {g : im_g} : im_D g 91 61 (.aaload) 62 := im_D.of (by decide +kernel)
theorem D91_62 {g : im_g} : im_D g 91 62 (.invokevirtual 39) 65 := im_D.of (by decide +kernel)
theorem D91_65 {g : im_g} : im_D g 91 65 (.iinc 2 1) 68 := im_D.of (by decide +kernel)
theorem D91_68 {g : im_g} : im_D g 91 68 (.goto (-50)) 71 := im_D.of (by decide +kernel)
theorem D91_71 {g : im_g} : im_D g 91 71 (.return_) 72 := im_D.of (by decide +kernel)
theorem D92_0 {g : im_g} : im_D g 92 0 (.lload_n 1) 1 := im_D.of (by decide +kernel)
theorem D92_1 {g : im_g} : im_D g 92 1 (.lconst 0) 2 := im_D.of (by decide +kernel)
theorem D92_2 {g : im_g} : im_D g 92 2 (.lcmp) 3 := im_D.of (by decide +kernel)
theorem D92_3 {g : im_g} : im_D g 92 3 (.ifCond .lt 11) 6 := im_D.of (by decide +kernel)
theorem D92_6 {g : im_g} : im_D g 92 6 (.lload_n 1) 7 := im_D.of (by decide +kernel)
theorem D92_7 {g : im_g} : im_D g 92 7 (.ldc2_w 214) 10 := im_D.of (by decide +kernel)
theorem D92_10 {g : im_g} : im_D g 92 10 (.lcmp) 11 := im_D.of (by decide +kernel)
theorem D92_11 {g : im_g} : im_D g 92 11 (.ifCond .lt 6) 14 := im_D.of (by decide +kernel)
theorem D92_14 {g : im_g} : im_D g 92 14 (.bipush (-101)) 16 := im_D.of (by decide +kernel)
theorem D92_16 {g : im_g} : im_D g 92 16 (.ireturn) 17 := im_D.of (by decide +kernel)
theorem D92_17 {g : im_g} : im_D g 92 17 (.aload_n 0) 18 := im_D.of (by decide +kernel)
theorem D92_18 {g : im_g} : im_D g 92 18 (.getfield 55) 21 := im_D.of (by decide +kernel)
theorem D92_21 {g : im_g} : im_D g 92 21 (.lload_n 1) 22 := im_D.of (by decide +kernel)
theorem D92_22 {g : im_g} : im_D g 92 22 (.l2i) 23 := im_D.of (by decide +kernel)
theorem D92_23 {g : im_g} : im_D g 92 23 (.aaload) 24 := im_D.of (by decide +kernel)
theorem D92_24 {g : im_g} : im_D g 92 24 (.astore_n 3) 25 := im_D.of (by decide +kernel)
theorem D92_25 {g : im_g} : im_D g 92 25 (.aload_n 3) 26 := im_D.of (by decide +kernel)
theorem D92_26 {g : im_g} : im_D g 92 26 (.getfield 290) 29 := im_D.of (by decide +kernel)
theorem D92_29 {g : im_g} : im_D g 92 29 (.ifCond .eq 11) 32 := im_D.of (by decide +kernel)
theorem D92_32 {g : im_g} : im_D g 92 32 (.aload_n 0) 33 := im_D.of (by decide +kernel)
theorem D92_33 {g : im_g} : im_D g 92 33 (.aload_n 3) 34 := im_D.of (by decide +kernel)
theorem D92_34 {g : im_g} : im_D g 92 34 (.invokevirtual 263) 37 := im_D.of (by decide +kernel)
theorem D92_37 {g : im_g} : im_D g 92 37 (.ifCond .ne 6) 40 := im_D.of (by decide +kernel)
theorem D92_40 {g : im_g} : im_D g 92 40 (.bipush (-103)) 42 := im_D.of (by decide +kernel)
theorem D92_42 {g : im_g} : im_D g 92 42 (.ireturn) 43 := im_D.of (by decide +kernel)
theorem D92_43 {g : im_g} : im_D g 92 43 (.aload_n 0) 44 := im_D.of (by decide +kernel)
theorem D92_44 {g : im_g} : im_D g 92 44 (.iconst 4) 45 := im_D.of (by decide +kernel)
theorem D92_45 {g : im_g} : im_D g 92 45 (.lload_n 1) 46 := im_D.of (by decide +kernel)
theorem D92_46 {g : im_g} : im_D g 92 46 (.lconst 0) 47 := im_D.of (by decide +kernel)
theorem D92_47 {g : im_g} : im_D g 92 47 (.lconst 0) 48 := im_D.of (by decide +kernel)
theorem D92_48 {g : im_g} : im_D g 92 48 (.iconst 0) 49 := im_D.of (by decide +kernel)
theorem D92_49 {g : im_g} : im_D g 92 49 (.invokevirtual 228) 52 := im_D.of (by decide +kernel)
theorem D92_52 {g : im_g} : im_D g 92 52 (.istore 4) 54 := im_D.of (by decide +kernel)
theorem D92_54 {g : im_g} : im_D g 92 54 (.iload 4) 56 := im_D.of (by decide +kernel)
theorem D92_56 {g : im_g} : im_D g 92 56 (.ifCond .ne 8) 59 := im_D.of (by decide +kernel)
theorem D92_59 {g : im_g} : im_D g 92 59 (.aload_n 3) 60 := im_D.of (by decide +kernel)
theorem D92_60 {g : im_g} : im_D g 92 60 (.iconst 0) 61 := im_D.of (by decide +kernel)
theorem D92_61 {g : im_g} : im_D g 92 61 (.putfield 290) 64 := im_D.of (by decide +kernel)
theorem D92_64 {g : im_g} : im_D g 92 64 (.iload 4) 66 := im_D.of (by decide +kernel)
theorem D92_66 {g : im_g} : im_D g 92 66 (.ireturn) 67 := im_D.of (by decide +kernel)
theorem D93_0 {g : im_g} : im_D g 93 0 (.aload_n 0) 1 := im_D.of (by decide +kernel)
theorem D93_1 {g : im_g} : im_D g 93 1 (.getfield 36) 4 := im_D.of (by decide +kernel)
theorem D93_4 {g : im_g} : im_D g 93 4 (.getfield 293) 7 := im_D.of (by decide +kernel)
theorem D93_7 {g : im_g} : im_D g 93 7 (.aload_n 1) 8 := im_D.of (by decide +kernel)
theorem D93_8 {g : im_g} : im_D g 93 8 (.getfield 256) 11 := im_D.of (by decide +kernel)
theorem D93_11 {g : im_g} : im_D g 93 11 (.iaload) 12 := im_D.of (by decide +kernel)
theorem D93_12 {g : im_g} : im_D g 93 12 (.ifCond .ne 17) 15 := im_D.of (by decide +kernel)
theorem D93_15 {g : im_g} : im_D g 93 15 (.aload_n 1) 16 := im_D.of (by decide +kernel)
theorem D93_16 {g : im_g} : im_D g 93 16 (.getfield 296) 19 := im_D.of (by decide +kernel)
theorem D93_19 {g : im_g} : im_D g 93 19 (.getfield 271) 22 := im_D.of (by decide +kernel)
theorem D93_22 {g : im_g} : im_D g 93 22 (.ifCond .ne 7) 25 := im_D.of (by decide +kernel)
theorem D93_25 {g : im_g} : im_D g 93 25 (.iconst 1) 26 := im_D.of (by decide +kernel)
theorem D93_26 {g : im_g} : im_D g 93 26 (.goto 4) 29 := im_D.of (by decide +kernel)
theorem D93_29 {g : im_g} : im_D g 93 29 (.iconst 0) 30 := im_D.of (by decide +kernel)
theorem D93_30 {g : im_g} : im_D g 93 30 (.ireturn) 31 := im_D.of (by decide +kernel)
theorem D94_0 {g : im_g} : im_D g 94 0 (.aload_n 0) 1 := im_D.of (by decide +kernel)
theorem D94_1 {g : im_g} : im_D g 94 1 (.getfield 16) 4 := im_D.of (by decide +kernel)
theorem D94_4 {g : im_g} : im_D g 94 4 (.lload_n 1) 5 := im_D.of (by decide +kernel)
theorem D94_5 {g : im_g} : im_D g 94 5 (.invokevirtual 299) 8 := im_D.of (by decide +kernel)
theorem D94_8 {g : im_g} : im_D g 94 8 (.ifCond .eq 14) 11 := im_D.of (by decide +kernel)
theorem D94_11 {g : im_g} : im_D g 94 11 (.aload_n 0) 12 := im_D.of (by decide +kernel)
theorem D94_12 {g : im_g} : im_D g 94 12 (.getfield 16) 15 := im_D.of (by decide +kernel)
theorem D94_15 {g : im_g} : im_D g 94 15 (.lload_n 3) 16 := im_D.of (by decide +kernel)
theorem D94_16 {g : im_g} : im_D g 94 16 (.invokevirtual 299) 19 := im_D.of (by decide +kernel)
theorem D94_19 {g : im_g} : im_D g 94 19 (.ifCond .ne 6) 22 := im_D.of (by decide +kernel)
theorem D94_22 {g : im_g} : im_D g 94 22 (.bipush (-102)) 24 := im_D.of (by decide +kernel)
theorem D94_24 {g : im_g} : im_D g 94 24 (.ireturn) 25 := im_D.of (by decide +kernel)
theorem D94_25 {g : im_g} : im_D g 94 25 (.aload_n 0) 26 := im_D.of (by decide +kernel)
theorem D94_26 {g : im_g} : im_D g 94 26 (.getfield 16) 29 := im_D.of (by decide +kernel)
theorem D94_29 {g : im_g} : im_D g 94 29 (.aload_n 0) 30 := im_D.of (by decide +kernel)
theorem D94_30 {g : im_g} : im_D g 94 30 (.getfield 16) 33 := im_D.of (by decide +kernel)
theorem D94_33 {g : im_g} : im_D g 94 33 (.aload_n 0) 34 := im_D.of (by decide +kernel)
theorem D94_34 {g : im_g} : im_D g 94 34 (.getfield 9) 37 := im_D.of (by decide +kernel)
theorem D94_37 {g : im_g} : im_D g 94 37 (.iload 5) 39 := im_D.of (by decide +kernel)
theorem D94_39 {g : im_g} : im_D g 94 39 (.invokevirtual 303) 42 := im_D.of (by decide +kernel)
theorem D94_42 {g : im_g} : im_D g 94 42 (.invokevirtual 220) 45 := im_D.of (by decide +kernel)
theorem D94_45 {g : im_g} : im_D g 94 45 (.ifCond .eq 5) 48 := im_D.of (by decide +kernel)
theorem D94_48 {g : im_g} : im_D g 94 48 (.iconst (-1)) 49 := im_D.of (by decide +kernel)
theorem D94_49 {g : im_g} : im_D g 94 49 (.ireturn) 50 := im_D.of (by decide +kernel)
theorem D94_50 {g : im_g} : im_D g 94 50 (.aload_n 0) 51 := im_D.of (by decide +kernel)
theorem D94_51 {g : im_g} : im_D g 94 51 (.getfield 16) 54 := im_D.of (by decide +kernel)
theorem D94_54 {g : im_g} : im_D g 94 54 (.getfield 310) 57 := im_D.of (by decide +kernel)
theorem D94_57 {g : im_g} : im_D g 94 57 (.getfield 381) 60 := im_D.of (by decide +kernel)
theorem D94_60 {g : im_g} : im_D g 94 60 (.ifCond .gt 6) 63 := im_D.of (by decide +kernel)
theorem D94_63 {g : im_g} : im_D g 94 63 (.bipush (-5)) 65 := im_D.of (by decide +kernel)
theorem D94_65 {g : im_g} : im_D g 94 65 (.ireturn) 66 := im_D.of (by decide +kernel)
theorem D94_66 {g : im_g} : im_D g 94 66 (.aload_n 0) 67 := im_D.of (by decide +kernel)
theorem D94_67 {g : im_g} : im_D g 94 67 (.getfield 120) 70 := im_D.of (by decide +kernel)
theorem D94_70 {g : im_g} : im_D g 94 70 (.aload_n 0) 71 := im_D.of (by decide +kernel)
theorem D94_71 {g : im_g} : im_D g 94 71 (.getfield 71) 74 := im_D.of (by decide +kernel)
theorem D94_74 {g : im_g} : im_D g 94 74 (.lload_n 3) 75 := im_D.of (by decide +kernel)
theorem D94_75 {g : im_g} : im_D g 94 75 (.lconst 0) 76 := im_D.of (by decide +kernel)
theorem D94_76 {g : im_g} : im_D g 94 76 (.invokevirtual 372) 79 := im_D.of (by decide +kernel)
theorem D94_79 {g : im_g} : im_D g 94 79 (.invokevirtual 384) 82 := im_D.of (by decide +kernel)
theorem D94_82 {g : im_g} : im_D g 94 82 (.aload_n 0) 83 := im_D.of (by decide +kernel)
theorem D94_83 {g : im_g} : im_D g 94 83 (.getfield 120) 86 := im_D.of (by decide +kernel)
theorem D94_86 {g : im_g} : im_D g 94 86 (.aload_n 0) 87 := im_D.of (by decide +kernel)
theorem D94_87 {g : im_g} : im_D g 94 87 (.getfield 16) 90 := im_D.of (by decide +kernel)
theorem D94_90 {g : im_g} : im_D g 94 90 (.getfield 310) 93 := im_D.of (by decide +kernel)
theorem D94_93 {g : im_g} : im_D g 94 93 (.invokevirtual 387) 96 := im_D.of (by decide +kernel)
theorem D94_96 {g : im_g} : im_D g 94 96 (.ifCond .ne 6) 99 := im_D.of (by decide +kernel)
theorem D94_99 {g : im_g} : im_D g 94 99 (.bipush (-8)) 101 := im_D.of (by decide +kernel)
theorem D94_101 {g : im_g} : im_D g 94 101 (.ireturn) 102 := im_D.of (by decide +kernel)
theorem D94_102 {g : im_g} : im_D g 94 102 (.aload_n 0) 103 := im_D.of (by decide +kernel)
theorem D94_103 {g : im_g} : im_D g 94 103 (.getfield 68) 106 := im_D.of (by decide +kernel)
theorem D94_106 {g : im_g} : im_D g 94 106 (.lload_n 1) 107 := im_D.of (by decide +kernel)
theorem D94_107 {g : im_g} : im_D g 94 107 (.lload_n 3) 108 := im_D.of (by decide +kernel)
theorem D94_108 {g : im_g} : im_D g 94 108 (.invokevirtual 306) 111 := im_D.of (by decide +kernel)
theorem D94_111 {g : im_g} : im_D g 94 111 (.ifCond .ge 19) 114 := im_D.of (by decide +kernel)
theorem D94_114 {g : im_g} : im_D g 94 114 (.aload_n 0) 115 := im_D.of (by decide +kernel)
theorem D94_115 {g : im_g} : im_D g 94 115 (.getfield 68) 118 := im_D.of (by decide +kernel)
theorem D94_118 {g : im_g} : im_D g 94 118 (.getfield 271) 121 := im_D.of (by decide +kernel)
theorem D94_121 {g : im_g} : im_D g 94 121 (.bipush 60) 123 := im_D.of (by decide +kernel)
theorem D94_123 {g : im_g} : im_D g 94 123 (.if_icmp .lt 7) 126 := im_D.of (by decide +kernel)
theorem D94_126 {g : im_g} : im_D g 94 126 (.iconst 1) 127 := im_D.of (by decide +kernel)
theorem D94_127 {g : im_g} : im_D g 94 127 (.goto 4) 130 := im_D.of (by decide +kernel)
theorem D94_130 {g : im_g} : im_D g 94 130 (.iconst 0) 131 := im_D.of (by decide +kernel)
theorem D94_131 {g : im_g} : im_D g 94 131 (.istore 6) 133 := im_D.of (by decide +kernel)
theorem D94_133 {g : im_g} : im_D g 94 133 (.aload_n 0) 134 := im_D.of (by decide +kernel)
theorem D94_134 {g : im_g} : im_D g 94 134 (.getfield 71) 137 := im_D.of (by decide +kernel)
theorem D94_137 {g : im_g} : im_D g 94 137 (.lload_n 3) 138 := im_D.of (by decide +kernel)
theorem D94_138 {g : im_g} : im_D g 94 138 (.lconst 0) 139 := im_D.of (by decide +kernel)
theorem D94_139 {g : im_g} : im_D g 94 139 (.invokevirtual 306) 142 := im_D.of (by decide +kernel)
theorem D94_142 {g : im_g} : im_D g 94 142 (.ifCond .ge 19) 145 := im_D.of (by decide +kernel)
theorem D94_145 {g : im_g} : im_D g 94 145 (.aload_n 0) 146 := im_D.of (by decide +kernel)
theorem D94_146 {g : im_g} : im_D g 94 146 (.getfield 71) 149 := im_D.of (by decide +kernel)
theorem D94_149 {g : im_g} : im_D g 94 149 (.getfield 271) 152 := im_D.of (by decide +kernel)
theorem D94_152 {g : im_g} : im_D g 94 152 (.bipush 60) 154 := im_D.of (by decide +kernel)
theorem D94_154 {g : im_g} : im_D g 94 154 (.if_icmp .lt 7) 157 := im_D.of (by decide +kernel)
theorem D94_157 {g : im_g} : im_D g 94 157 (.iconst 1) 158 := im_D.of (by decide +kernel)
theorem D94_158 {g : im_g} : im_D g 94 158 (.goto 4) 161 := im_D.of (by decide +kernel)
theorem D94_161 {g : im_g} : im_D g 94 161 (.iconst 0) 162 := im_D.of (by decide +kernel)
theorem D94_162 {g : im_g} : im_D g 94 162 (.istore 7) 164 := im_D.of (by decide +kernel)
theorem D94_164 {g : im_g} : im_D g 94 164 (.iload 6) 166 := im_D.of (by decide +kernel)
theorem D94_166 {g : im_g} : im_D g 94 166 (.ifCond .ne 8) 169 := im_D.of (by decide +kernel)
theorem D94_169 {g : im_g} : im_D g 94 169 (.iload 7) 171 := im_D.of (by decide +kernel)
theorem D94_171 {g : im_g} : im_D g 94 171 (.ifCond .eq 6) 174 := im_D.of (by decide +kernel)
theorem D94_174 {g : im_g} : im_D g 94 174 (.bipush (-9)) 176 := im_D.of (by decide +kernel)
theorem D94_176 {g : im_g} : im_D g 94 176 (.ireturn) 177 := im_D.of (by decide +kernel)
theorem D94_177 {g : im_g} : im_D g 94 177 (.aload_n 0) 178 := im_D.of (by decide +kernel)
theorem D94_178 {g : im_g} : im_D g 94 178 (.iconst 5) 179 := im_D.of (by decide +kernel)
theorem D94_179 {g : im_g} : im_D g 94 179 (.lload_n 1) 180 := im_D.of (by decide +kernel)
theorem D94_180 {g : im_g} : im_D g 94 180 (.lload_n 3) 181 := im_D.of (by decide +kernel)
theorem D94_181 {g : im_g} : im_D g 94 181 (.lconst 0) 182 := im_D.of (by decide +kernel)
theorem D94_182 {g : im_g} : im_D g 94 182 (.iload 5) 184 := im_D.of (by decide +kernel)
theorem D94_184 {g : im_g} : im_D g 94 184 (.invokevirtual 228) 187 := im_D.of (by decide +kernel)
theorem D94_187 {g : im_g} : im_D g 94 187 (.istore 8) 189 := im_D.of (by decide +kernel)
theorem D94_189 {g : im_g} : im_D g 94 189 (.iload 8) 191 := im_D.of (by decide +kernel)
theorem D94_191 {g : im_g} : im_D g 94 191 (.ifCond .ne 37) 194 := im_D.of (by decide +kernel)
theorem D94_194 {g : im_g} : im_D g 94 194 (.aload_n 0) 195 := im_D.of (by decide +kernel)
theorem D94_195 {g : im_g} : im_D g 94 195 (.getfield 68) 198 := im_D.of (by decide +kernel)
theorem D94_198 {g : im_g} : im_D g 94 198 (.lload_n 1) 199 := im_D.of (by decide +kernel)
theorem D94_199 {g : im_g} : im_D g 94 199 (.lload_n 3) 200 := im_D.of (by decide +kernel)
theorem D94_200 {g : im_g} : im_D g 94 200 (.aload_n 0) 201 := im_D.of (by decide +kernel)
theorem D94_201 {g : im_g} : im_D g 94 201 (.getfield 16) 204 := im_D.of (by decide +kernel)
theorem D94_204 {g : im_g} : im_D g 94 204 (.getfield 310) 207 := im_D.of (by decide +kernel)
theorem D94_207 {g : im_g} : im_D g 94 207 (.invokevirtual 391) 210 := im_D.of (by decide +kernel)
theorem D94_210 {g : im_g} : im_D g 94 210 (.pop) 211 := im_D.of (by decide +kernel)
theorem D94_211 {g : im_g} : im_D g 94 211 (.aload_n 0) 212 := im_D.of (by decide +kernel)
theorem D94_212 {g : im_g} : im_D g 94 212 (.getfield 71) 215 := im_D.of (by decide +kernel)
theorem D94_215 {g : im_g} : im_D g 94 215 (.lload_n 3) 216 := im_D.of (by decide +kernel)
theorem D94_216 {g : im_g} : im_D g 94 216 (.lconst 0) 217 := im_D.of (by decide +kernel)
theorem D94_217 {g : im_g} : im_D g 94 217 (.aload_n 0) 218 := im_D.of (by decide +kernel)
theorem D94_218 {g : im_g} : im_D g 94 218 (.getfield 16) 221 := im_D.of (by decide +kernel)
theorem D94_221 {g : im_g} : im_D g 94 221 (.getfield 310) 224 := im_D.of (by decide +kernel)
theorem D94_224 {g : im_g} : im_D g 94 224 (.invokevirtual 391) 227 := im_D.of (by decide +kernel)
theorem D94_227 {g : im_g} : im_D g 94 227 (.pop) 228 := im_D.of (by decide +kernel)
theorem D94_228 {g : im_g} : im_D g 94 228 (.iload 8) 230 := im_D.of (by decide +kernel)
theorem D94_230 {g : im_g} : im_D g 94 230 (.ireturn) 231 := im_D.of (by decide +kernel)
theorem D95_0 {g : im_g} : im_D g 95 0 (.bipush 56) 2 := im_D.of (by decide +kernel)
theorem D95_2 {g : im_g} : im_D g 95 2 (.istore_n 3) 3 := im_D.of (by decide +kernel)
theorem D95_3 {g : im_g} : im_D g 95 3 (.iload_n 3) 4 := im_D.of (by decide +kernel)
theorem D95_4 {g : im_g} : im_D g 95 4 (.ifCond .le 17) 7 := im_D.of (by decide +kernel)
theorem D95_7 {g : im_g} : im_D g 95 7 (.lload_n 1) 8 := im_D.of (by decide +kernel)
theorem D95_8 {g : im_g} : im_D g 95 8 (.iload_n 3) 9 := im_D.of (by decide +kernel)
theorem D95_9 {g : im_g} : im_D g 95 9 (.lushr) 10 := im_D.of (by decide +kernel)
theorem D95_10 {g : im_g} : im_D g 95 10 (.lconst 0) 11 := im_D.of (by decide +kernel)
theorem D95_11 {g : im_g} : im_D g 95 11 (.lcmp) 12 := im_D.of (by decide +kernel)
theorem D95_12 {g : im_g} : im_D g 95 12 (.ifCond .ne 9) 15 := im_D.of (by decide +kernel)
theorem D95_15 {g : im_g} : im_D g 95 15 (.iinc 3 (-8)) 18 := im_D.of (by decide +kernel)
theorem D95_18 {g : im_g} : im_D g 95 18 (.goto (-15)) 21 := im_D.of (by decide +kernel)
theorem D95_21 {g : im_g} : im_D g 95 21 (.lload_n 1) 22 := im_D.of (by decide +kernel)
theorem D95_22 {g : im_g} : im_D g 95 22 (.iload_n 3) 23 := im_D.of (by decide +kernel)
theorem D95_23 {g : im_g} : im_D g 95 23 (.lushr) 24 := im_D.of (by decide +kernel)
theorem D95_24 {g : im_g} : im_D g 95 24 (.l2i) 25 := im_D.of (by decide +kernel)
theorem D95_25 {g : im_g} : im_D g 95 25 (.invokestatic 95) 28 := im_D.of (by decide +kernel)
theorem D95_28 {g : im_g} : im_D g 95 28 (.ifCond .ne 5) 31 := im_D.of (by decide +kernel)
theorem D95_31 {g : im_g} : im_D g 95 31 (.iconst 0) 32 := im_D.of (by decide +kernel)
theorem D95_32 {g : im_g} : im_D g 95 32 (.ireturn) 33 := im_D.of (by decide +kernel)
theorem D95_33 {g : im_g} : im_D g 95 33 (.iload_n 3) 34 := im_D.of (by decide +kernel)
theorem D95_34 {g : im_g} : im_D g 95 34 (.bipush 8) 36 := im_D.of (by decide +kernel)
theorem D95_36 {g : im_g} : im_D g 95 36 (.isub) 37 := im_D.of (by decide +kernel)
theorem D95_37 {g : im_g} : im_D g 95 37 (.istore 4) 39 := im_D.of (by decide +kernel)
theorem D95_39 {g : im_g} : im_D g 95 39 (.iload 4) 41 := im_D.of (by decide +kernel)
theorem D95_41 {g : im_g} : im_D g 95 41 (.ifCond .lt 38) 44 := im_D.of (by decide +kernel)
theorem D95_44 {g : im_g} : im_D g 95 44 (.lload_n 1) 45 := im_D.of (by decide +kernel)
theorem D95_45 {g : im_g} : im_D g 95 45 (.iload 4) 47 := im_D.of (by decide +kernel)
theorem D95_47 {g : im_g} : im_D g 95 47 (.lushr) 48 := im_D.of (by decide +kernel)
theorem D95_48 {g : im_g} : im_D g 95 48 (.l2i) 49 := im_D.of (by decide +kernel)
theorem D95_49 {g : im_g} : im_D g 95 49 (.sipush 255) 52 := im_D.of (by decide +kernel)
theorem D95_52 {g : im_g} : im_D g 95 52 (.iand) 53 := im_D.of (by decide +kernel)
theorem D95_53 {g : im_g} : im_D g 95 53 (.istore 5) 55 := im_D.of (by decide +kernel)
theorem D95_55 {g : im_g} : im_D g 95 55 (.iload 5) 57 := im_D.of (by decide +kernel)
theorem D95_57 {g : im_g} : im_D g 95 57 (.invokestatic 95) 60 := im_D.of (by decide +kernel)
theorem D95_60 {g : im_g} : im_D g 95 60 (.ifCond .ne 13) 63 := im_D.of (by decide +kernel)
theorem D95_63 {g : im_g} : im_D g 95 63 (.iload 5) 65 := im_D.of (by decide +kernel)
theorem D95_65 {g : im_g} : im_D g 95 65 (.invokestatic 73) 68 := im_D.of (by decide +kernel)
theorem D95_68 {g : im_g} : im_D g 95 68 (.ifCond .ne 5) 71 := im_D.of (by decide +kernel)
theorem D95_71 {g : im_g} : im_D g 95 71 (.iconst 0) 72 := im_D.of (by decide +kernel)
theorem D95_72 {g : im_g} : im_D g 95 72 (.ireturn) 73 := im_D.of (by decide +kernel)
theorem D95_73 {g : im_g} : im_D g 95 73 (.iinc 4 (-8)) 76 := im_D.of (by decide +kernel)
theorem D95_76 {g : im_g} : im_D g 95 76 (.goto (-37)) 79 := im_D.of (by decide +kernel)
theorem D95_79 {g : im_g} : im_D g 95 79 (.aload_n 0) 80 := im_D.of (by decide +kernel)
theorem D95_80 {g : im_g} : im_D g 95 80 (.lload_n 1) 81 := im_D.of (by decide +kernel)
theorem D95_81 {g : im_g} : im_D g 95 81 (.invokevirtual 87) 84 := im_D.of (by decide +kernel)
theorem D95_84 {g : im_g} : im_D g 95 84 (.iconst (-1)) 85 := im_D.of (by decide +kernel)
theorem D95_85 {g : im_g} : im_D g 95 85 (.if_icmp .ne 7) 88 := im_D.of (by decide +kernel)
theorem D95_88 {g : im_g} : im_D g 95 88 (.iconst 1) 89 := im_D.of (by decide +kernel)
theorem D95_89 {g : im_g} : im_D g 95 89 (.goto 4) 92 := im_D.of (by decide +kernel)
theorem D95_92 {g : im_g} : im_D g 95 92 (.iconst 0) 93 := im_D.of (by decide +kernel)
theorem D95_93 {g : im_g} : im_D g 95 93 (.ireturn) 94 := im_D.of (by decide +kernel)
set_option maxRecDepth 20000 in
set_option maxHeartbeats 4000000 in
theorem k_Journal_write_0 {g : im_g} {d : Nat} {e : im_E} {M : im_M} {K : im_K} {p1 p2 p4 p6 p9 : Int} {p8 n8 : Nat} (hs8 : (im_sh0 ++ e)[p8]? = some (0, n8, [])) (hn8 : n8 ≤ 2147483647) (hd : 1 ≤ d) (hP : im_T g (d - 1) 28 0 [some (vI p1), some (vI p9)] [] e M (im_ri (fun x2 e_ M1 => e = e_ ∧ (im_i32 (((M1 2068 1) + x2) + 2)) ∧ ((16384 ≤ (((M1 2068 1) + x2) + 2) → im_T g (d - 1) 30 0 [] [] e (im_u M1 2068 5 (M1 2068 1)) (im_ri (fun x8 e_ M7 => e = e_ ∧ (im_i32 x8) ∧ (im_i32 x2) ∧ im_T g (d - 1) 80 0 [some (.ref 2068), some (vL x2), none, some (vI 2), none] [] e (im_u M7 2068 6 x8) (im_r0 (fun  e_ M11 => e = e_ ∧ (im_i32 p1) ∧ im_T g (d - 1) 80 0 [some (.ref 2068), some (vL p1), none, some (vI 1), none] [] e M11 (im_r0 (fun  e_ M13 => e = e_ ∧ im_T g d 79 68 [some (.ref 2068), some (vI p1), some (vL p2), none, some (vL p4), none, some (vL p6), none, some (.ref p8), some (vI p9), some (vI x2), none, some (vI 0)] [] e M13 K))))))) ∧ ((((M1 2068 1) + x2) + 2) < 16384 → (0 ≤ (((M1 2068 1) + x2) + 2) ∧ (((M1 2068 1) + x2) + 2) < 16384) ∧ im_T g (d - 1) 30 0 [] [] e (im_u (im_u M1 2069 (((M1 2068 1) + x2) + 2) (Int.bmod 0 256)) 2068 5 (M1 2068 1)) (im_ri (fun x20 e_ M19 => e = e_ ∧ (im_i32 x20) ∧ (im_i32 x2) ∧ im_T g (d - 1) 80 0 [some (.ref 2068), some (vL x2), none, some (vI 2), none] [] e (im_u M19 2068 6 x20) (im_r0 (fun  e_ M23 => e = e_ ∧ (im_i32 p1) ∧ im_T g (d - 1) 80 0 [some (.ref 2068), some (vL p1), none, some (vI 1), none] [] e M23 (im_r0 (fun  e_ M25 => e = e_ ∧ im_T g d 79 68 [some (.ref 2068), some (vI p1), some (vL p2), none, some (vL p4), none, some (vL p6), none, some (.ref p8), some (vI p9), some (vI x2), none, some (vI 0)] [] e M25 K))))))))))) : im_T g d 79 0 [some (.ref 2068), some (vI p1), some (vL p2), none, some (vL p4), none, some (vL p6), none, some (.ref p8), some (vI p9), none, none, none] [] e M K := by
  refine im_ld (q := 1) (i := 1) D79_0 rfl rfl rfl ?_
  refine im_ld (q := 3) (i := 9) D79_1 rfl rfl rfl ?_
  refine im_callS (q := 6) (kd := 0) (y := 28) (n := 2) (z := 1) (vs := [vI p1, vI p9]) (r := []) (L2 := [some (vI p1), some (vI p9)]) D79_3 rfl (im_cal cn_79 cl_1_33) (Or.inl rfl) rfl rfl rfl rfl rfl hd ⟨rfl, rfl, trivial⟩ ?_
  refine hP.mono ?_
  rintro _ e29 M1 ⟨x2, rfl, rfl, hP⟩
  refine im_bkS ?_
  refine im_st1 (q := 8) (i := 10) (L' := [some (.ref 2068), some (vI p1), some (vL p2), none, some (vL p4), none, some (vL p6), none, some (.ref p8), some (vI p9), some (vI x2), none, none]) D79_6 (Or.inr rfl) (Nat.le_of_ble_eq_true rfl) rfl ?_
  refine im_ld (q := 9) (i := 0) D79_8 rfl rfl rfl ?_
  refine im_rng (j := 1) sf_2068 (by decide) (by decide) (fun hr3 => ?_)
  refine im_gfI (q := 12) D79_9 (im_fl cn_79 fl_1_19) sf_2068 rfl rfl tI_1_1 rfl ?_
  refine im_ld (q := 14) (i := 10) D79_12 rfl rfl rfl ?_
  refine im_iadd (q := 15) D79_14 ?_
  refine im_iconst (q := 16) D79_15 ?_
  refine im_iadd (q := 17) D79_16 ?_
  refine im_st1 (q := 19) (i := 11) (L' := [some (.ref 2068), some (vI p1), some (vL p2), none, some (vL p4), none, some (vL p6), none, some (.ref p8), some (vI p9), some (vI x2), some (vI (((M1 2068 1) + x2) + 2)), none]) D79_17 (Or.inr rfl) (Nat.le_of_ble_eq_true rfl) rfl ?_
  refine im_ld (q := 21) (i := 11) D79_19 rfl rfl rfl ?_
  refine im_sipush (q := 24) D79_21 rfl ?_
  obtain ⟨hg4, hP⟩ := hP
  refine im_icmp (q := 27) (t := 35) D79_24 rfl hg4 (by decide) (fun hc5 => ?_) (fun hc5 => ?_)
  · replace hP := hP.1 hc5
    refine im_ld (q := 36) (i := 0) D79_35 rfl rfl rfl ?_
    refine im_ld (q := 37) (i := 0) D79_36 rfl rfl rfl ?_
    refine im_gfI (q := 40) D79_37 (im_fl cn_79 fl_1_19) sf_2068 rfl rfl tI_1_1 rfl ?_
    refine im_pfI (q := 43) D79_40 (im_fl cn_79 fl_1_37) sf_2068 rfl rfl ti_1_5 hr3 ?_
    refine im_ld (q := 44) (i := 0) D79_43 rfl rfl rfl ?_
    refine im_callS (q := 47) (kd := 0) (y := 30) (n := 0) (z := 1) (vs := []) (r := [.ref 2068]) (L2 := []) D79_44 rfl (im_cal cn_79 cl_1_40) (Or.inl rfl) rfl rfl rfl rfl rfl hd trivial ?_
    refine hP.mono ?_
    rintro _ e16 M7 ⟨x8, rfl, rfl, hP⟩
    refine im_bkS ?_
    obtain ⟨hg9, hP⟩ := hP
    refine im_pfI (q := 50) D79_47 (im_fl cn_79 fl_1_44) sf_2068 rfl rfl ti_1_6 hg9 ?_
    refine im_ld (q := 51) (i := 0) D79_50 rfl rfl rfl ?_
    refine im_ld (q := 53) (i := 10) D79_51 rfl rfl rfl ?_
    obtain ⟨hg10, hP⟩ := hP
    refine im_i2l (q := 54) D79_53 hg10 ?_
    refine im_iconst (q := 55) D79_54 ?_
    refine im_callV (q := 58) (kd := 1) (y := 80) (n := 2) (ci := 1) (a := 2068) (vs := [.ref 2068, vL x2, vI 2]) (r := []) (L2 := [some (.ref 2068), some (vL x2), none, some (vI 2), none]) D79_55 (im_cal cn_79 cl_1_47) (Or.inl rfl) rfl sf_2068 rfl rfl rfl rfl hd ⟨rfl, rfl, rfl, trivial⟩ ?_
    refine hP.mono ?_
    rintro _ e15 M11 ⟨rfl, rfl, hP⟩
    refine im_bkN ?_
    refine im_ld (q := 59) (i := 0) D79_58 rfl rfl rfl ?_
    refine im_ld (q := 60) (i := 1) D79_59 rfl rfl rfl ?_
    obtain ⟨hg12, hP⟩ := hP
    refine im_i2l (q := 61) D79_60 hg12 ?_
    refine im_iconst (q := 62) D79_61 ?_
    refine im_callV (q := 65) (kd := 1) (y := 80) (n := 2) (ci := 1) (a := 2068) (vs := [.ref 2068, vL p1, vI 1]) (r := []) (L2 := [some (.ref 2068), some (vL p1), none, some (vI 1), none]) D79_62 (im_cal cn_79 cl_1_47) (Or.inl rfl) rfl sf_2068 rfl rfl rfl rfl hd ⟨rfl, rfl, rfl, trivial⟩ ?_
    refine hP.mono ?_
    rintro _ e14 M13 ⟨rfl, rfl, hP⟩
    refine im_bkN ?_
    refine im_iconst (q := 66) D79_65 ?_
    refine im_st1 (q := 68) (i := 12) (L' := [some (.ref 2068), some (vI p1), some (vL p2), none, some (vL p4), none, some (vL p6), none, some (.ref p8), some (vI p9), some (vI x2), some (vI (((M1 2068 1) + x2) + 2)), some (vI 0)]) D79_66 (Or.inr rfl) (Nat.le_of_ble_eq_true rfl) rfl ?_
    exact hP.wk ⟨rfl, rfl, rfl, rfl, rfl, rfl, rfl, rfl, rfl, trivial⟩
  · replace hP := hP.2 (Int.not_le.mp hc5)
    refine im_ld (q := 28) (i := 0) D79_27 rfl rfl rfl ?_
    refine im_gfR (q := 31) (b := 2069) D79_28 (im_fl cn_79 fl_1_9) sf_2068 rfl rfl tR_1_0 rfl ?_
    refine im_ld (q := 33) (i := 11) D79_31 rfl rfl rfl ?_
    refine im_iconst (q := 34) D79_33 ?_
    obtain ⟨hg17, hP⟩ := hP
    refine im_bast (q := 35) D79_34 sf_2069 hg17.1 hg17.2 (by decide) ?_
    refine im_ld (q := 36) (i := 0) D79_35 rfl rfl rfl ?_
    refine im_ld (q := 37) (i := 0) D79_36 rfl rfl rfl ?_
    refine im_gfI (q := 40) D79_37 (im_fl cn_79 fl_1_19) sf_2068 rfl rfl tI_1_1 (im_rdn _ _ _ _ (by decide)) ?_
    refine im_pfI (q := 43) D79_40 (im_fl cn_79 fl_1_37) sf_2068 rfl rfl ti_1_5 hr3 ?_
    refine im_ld (q := 44) (i := 0) D79_43 rfl rfl rfl ?_
    refine im_callS (q := 47) (kd := 0) (y := 30) (n := 0) (z := 1) (vs := []) (r := [.ref 2068]) (L2 := []) D79_44 rfl (im_cal cn_79 cl_1_40) (Or.inl rfl) rfl rfl rfl rfl rfl hd trivial ?_
    refine hP.mono ?_
    rintro _ e28 M19 ⟨x20, rfl, rfl, hP⟩
    refine im_bkS ?_
    obtain ⟨hg21, hP⟩ := hP
    refine im_pfI (q := 50) D79_47 (im_fl cn_79 fl_1_44) sf_2068 rfl rfl ti_1_6 hg21 ?_
    refine im_ld (q := 51) (i := 0) D79_50 rfl rfl rfl ?_
    refine im_ld (q := 53) (i := 10) D79_51 rfl rfl rfl ?_
    obtain ⟨hg22, hP⟩ := hP
    refine im_i2l (q := 54) D79_53 hg22 ?_
    refine im_iconst (q := 55) D79_54 ?_
    refine im_callV (q := 58) (kd := 1) (y := 80) (n := 2) (ci := 1) (a := 2068) (vs := [.ref 2068, vL x2, vI 2]) (r := []) (L2 := [some (.ref 2068), some (vL x2), none, some (vI 2), none]) D79_55 (im_cal cn_79 cl_1_47) (Or.inl rfl) rfl sf_2068 rfl rfl rfl rfl hd ⟨rfl, rfl, rfl, trivial⟩ ?_
    refine hP.mono ?_
    rintro _ e27 M23 ⟨rfl, rfl, hP⟩
    refine im_bkN ?_
    refine im_ld (q := 59) (i := 0) D79_58 rfl rfl rfl ?_
    refine im_ld (q := 60) (i := 1) D79_59 rfl rfl rfl ?_
    obtain ⟨hg24, hP⟩ := hP
    refine im_i2l (q := 61) D79_60 hg24 ?_
    refine im_iconst (q := 62) D79_61 ?_
    refine im_callV (q := 65) (kd := 1) (y := 80) (n := 2) (ci := 1) (a := 2068) (vs := [.ref 2068, vL p1, vI 1]) (r := []) (L2 := [some (.ref 2068), some (vL p1), none, some (vI 1), none]) D79_62 (im_cal cn_79 cl_1_47) (Or.inl rfl) rfl sf_2068 rfl rfl rfl rfl hd ⟨rfl, rfl, rfl, trivial⟩ ?_
    refine hP.mono ?_
    rintro _ e26 M25 ⟨rfl, rfl, hP⟩
    refine im_bkN ?_
    refine im_iconst (q := 66) D79_65 ?_
    refine im_st1 (q := 68) (i := 12) (L' := [some (.ref 2068), some (vI p1), some (vL p2), none, some (vL p4), none, some (vL p6), none, some (.ref p8), some (vI p9), some (vI x2), some (vI (((M1 2068 1) + x2) + 2)), some (vI 0)]) D79_66 (Or.inr rfl) (Nat.le_of_ble_eq_true rfl) rfl ?_
    exact hP.wk ⟨rfl, rfl, rfl, rfl, rfl, rfl, rfl, rfl, rfl, trivial⟩
set_option maxRecDepth 20000 in
set_option maxHeartbeats 4000000 in
theorem k_Journal_write_68 {g : im_g} {d : Nat} {e : im_E} {M : im_M} {K : im_K} {p1 p2 p4 p6 p9 p10 p12 : Int} {p8 n8 : Nat} (hs8 : (im_sh0 ++ e)[p8]? = some (0, n8, [])) (hn8 : n8 ≤ 2147483647) (hd : 1 ≤ d) (hP : (0 ≤ p1 ∧ p1 < 9) ∧ (im_i32 p12) ∧ (((((xrec p1) ≤ p12 → im_T g d 79 115 [some (.ref 2068), none, none, none, none, none, none, none, some (.ref p8), some (vI p9), some (vI p10), none, some (vI 0)] [] e M K))) ∧ (∀ x6 : Int, (((p12 < (xrec p1)) ∧ (¬ p12 = 0) ∧ (¬ p12 = 1) ∧ x6 = p6) ∨ ((p12 < (xrec p1)) ∧ (¬ p12 = 0) ∧ (p12 = 1) ∧ x6 = p4) ∨ ((p12 < (xrec p1)) ∧ (p12 = 0) ∧ x6 = p2)) → im_T g (d - 1) 80 0 [some (.ref 2068), some (vL x6), none, some (vI 8), none] [] e M (im_r0 (fun  e_ M10 => e = e_ ∧ im_T g d 79 68 [some (.ref 2068), some (vI p1), some (vL p2), none, some (vL p4), none, some (vL p6), none, some (.ref p8), some (vI p9), some (vI p10), none, some (vI (p12 + 1))] [] e M10 K))))) : im_T g d 79 68 [some (.ref 2068), some (vI p1), some (vL p2), none, some (vL p4), none, some (vL p6), none, some (.ref p8), some (vI p9), some (vI p10), none, some (vI p12)] [] e M K := by
  refine im_ld (q := 70) (i := 12) D79_68 rfl rfl rfl ?_
  refine im_spc (q := 73) (st' := .float 100 :: _) rfl ?_
  refine im_ld (q := 74) (i := 1) D79_73 rfl rfl rfl ?_
  obtain ⟨hg1, hP⟩ := hP
  refine im_recld (q := 75) D79_74 hg1.1 hg1.2 ?_
  obtain ⟨hg2, hP⟩ := hP
  obtain ⟨hP, hJ7⟩ := hP
  have kJ8 : ∀ x6 : Int, (((p12 < (xrec p1)) ∧ (¬ p12 = 0) ∧ (¬ p12 = 1) ∧ x6 = p6) ∨ ((p12 < (xrec p1)) ∧ (¬ p12 = 0) ∧ (p12 = 1) ∧ x6 = p4) ∨ ((p12 < (xrec p1)) ∧ (p12 = 0) ∧ x6 = p2)) → im_T g d 79 101 [some (.ref 2068), some (vI p1), some (vL p2), none, some (vL p4), none, some (vL p6), none, some (.ref p8), some (vI p9), some (vI p10), none, some (vI p12)] [vL x6, .ref 2068] e M K := by
    intro x6 hx9
    have hP := hJ7 x6 hx9
    refine im_bipush (q := 103) D79_101 rfl ?_
    refine im_callV (q := 106) (kd := 1) (y := 80) (n := 2) (ci := 1) (a := 2068) (vs := [.ref 2068, vL x6, vI 8]) (r := []) (L2 := [some (.ref 2068), some (vL x6), none, some (vI 8), none]) D79_103 (im_cal cn_79 cl_1_47) (Or.inl rfl) rfl sf_2068 rfl rfl rfl rfl hd ⟨rfl, rfl, rfl, trivial⟩ ?_
    refine hP.mono ?_
    rintro _ e11 M10 ⟨rfl, rfl, hP⟩
    refine im_bkN ?_
    refine im_iinc (q := 109) (i := 12) (L' := [some (.ref 2068), some (vI p1), some (vL p2), none, some (vL p4), none, some (vL p6), none, some (.ref p8), some (vI p9), some (vI p10), none, some (vI (p12 + 1))]) D79_106 rfl (Nat.le_of_ble_eq_true rfl) rfl ?_
    refine im_goto (q := 112) (t := 68) D79_109 rfl ?_
    exact hP.wk ⟨rfl, rfl, rfl, rfl, rfl, rfl, rfl, rfl, rfl, trivial⟩
  refine im_icmp (q := 78) (t := 112) D79_75 rfl hg2 (xrec_r _) (fun hc3 => ?_) (fun hc3 => ?_)
  · replace hP := hP hc3
    refine im_iconst (q := 113) D79_112 ?_
    refine im_st1 (q := 115) (i := 12) (L' := [some (.ref 2068), some (vI p1), some (vL p2), none, some (vL p4), none, some (vL p6), none, some (.ref p8), some (vI p9), some (vI p10), none, some (vI 0)]) D79_113 (Or.inr rfl) (Nat.le_of_ble_eq_true rfl) rfl ?_
    exact hP.wk ⟨rfl, rfl, rfl, rfl, rfl, trivial⟩
  · refine im_ld (q := 79) (i := 0) D79_78 rfl rfl rfl ?_
    refine im_ld (q := 81) (i := 12) D79_79 rfl rfl rfl ?_
    refine im_ifc (q := 84) (t := 88) D79_81 rfl hg2 (fun hc4 => ?_) (fun hc4 => ?_)
    · refine im_ld (q := 90) (i := 12) D79_88 rfl rfl rfl ?_
      refine im_iconst (q := 91) D79_90 ?_
      refine im_icmp (q := 94) (t := 99) D79_91 rfl hg2 (by decide) (fun hc5 => ?_) (fun hc5 => ?_)
      · refine im_ld (q := 101) (i := 6) D79_99 rfl rfl rfl ?_
        exact (kJ8 (p6) (Or.inl ⟨(Int.not_le.mp hc3), hc4, hc5, rfl⟩)).wk ⟨rfl, rfl, rfl, rfl, rfl, rfl, rfl, rfl, rfl, trivial⟩
      · refine im_ld (q := 96) (i := 4) D79_94 rfl rfl rfl ?_
        refine im_goto (q := 99) (t := 101) D79_96 rfl ?_
        exact (kJ8 (p4) (Or.inr (Or.inl ⟨(Int.not_le.mp hc3), hc4, (Decidable.not_not.mp hc5), rfl⟩))).wk ⟨rfl, rfl, rfl, rfl, rfl, rfl, rfl, rfl, rfl, trivial⟩
    · refine im_ld (q := 85) (i := 2) D79_84 rfl rfl rfl ?_
      refine im_goto (q := 88) (t := 101) D79_85 rfl ?_
      exact (kJ8 (p2) (Or.inr (Or.inr ⟨(Int.not_le.mp hc3), (Decidable.not_not.mp hc4), rfl⟩))).wk ⟨rfl, rfl, rfl, rfl, rfl, rfl, rfl, rfl, rfl, trivial⟩
set_option maxRecDepth 20000 in
set_option maxHeartbeats 4000000 in
theorem k_Journal_write_115 {g : im_g} {d : Nat} {e : im_E} {M : im_M} {K : im_K} {p9 p10 p12 : Int} {p8 n8 : Nat} (hs8 : (im_sh0 ++ e)[p8]? = some (0, n8, [])) (hn8 : n8 ≤ 2147483647) (hd : 1 ≤ d) (hP : (im_i32 p12) ∧ (im_i32 p9) ∧ ((p9 ≤ p12 → im_T g (d - 1) 33 0 [some (vI (M 2068 6)), some (vI (M 2068 1)), none, none] [] e M (im_ri (fun x9 e_ M8 => e = e_ ∧ (im_i32 x9) ∧ im_T g (d - 1) 80 0 [some (.ref 2068), some (vL x9), none, some (vI 4), none] [] e M8 (im_r0 (fun  e_ M11 => e = e_ ∧ (((M11 2068 4) = 0 → im_T g (d - 1) 82 0 [some (.ref 2068), some (vI p10)] [] e M11 (im_r0 (fun  e_ M15 => e = e_ ∧ K (.inl (some (vI 1))) e M15))) ∧ (¬ (M11 2068 4) = 0 → (0 ≤ ((M11 2068 1) + 2) ∧ ((M11 2068 1) + 2) < 16384) ∧ K (.inl (some (vI 0))) e (im_u M11 2069 ((M11 2068 1) + 2) (Int.bmod 0 256))))))))) ∧ (p12 < p9 → (0 ≤ p12 ∧ p12 < n8) ∧ im_T g (d - 1) 81 0 [some (.ref 2068), some (vI (M p8 p12))] [] e M (im_r0 (fun  e_ M20 => e = e_ ∧ im_T g d 79 115 [some (.ref 2068), none, none, none, none, none, none, none, some (.ref p8), some (vI p9), some (vI p10), none, some (vI (p12 + 1))] [] e M20 K))))) : im_T g d 79 115 [some (.ref 2068), none, none, none, none, none, none, none, some (.ref p8), some (vI p9), some (vI p10), none, some (vI p12)] [] e M K := by
  refine im_ld (q := 117) (i := 12) D79_115 rfl rfl rfl ?_
  refine im_ld (q := 119) (i := 9) D79_117 rfl rfl rfl ?_
  obtain ⟨hg1, hP⟩ := hP
  obtain ⟨hg2, hP⟩ := hP
  refine im_icmp (q := 122) (t := 137) D79_119 rfl hg1 hg2 (fun hc3 => ?_) (fun hc3 => ?_)
  · replace hP := hP.1 hc3
    refine im_ld (q := 138) (i := 0) D79_137 rfl rfl rfl ?_
    refine im_ld (q := 139) (i := 0) D79_138 rfl rfl rfl ?_
    refine im_rng (j := 6) sf_2068 (by decide) (by decide) (fun hr4 => ?_)
    refine im_gfI (q := 142) D79_139 (im_fl cn_79 fl_1_44) sf_2068 rfl rfl tI_1_6 rfl ?_
    refine im_ld (q := 143) (i := 0) D79_142 rfl rfl rfl ?_
    refine im_rng (j := 1) sf_2068 (by decide) (by decide) (fun hr5 => ?_)
    refine im_gfI (q := 146) D79_143 (im_fl cn_79 fl_1_19) sf_2068 rfl rfl tI_1_1 rfl ?_
    refine im_callS (q := 149) (kd := 0) (y := 33) (n := 2) (z := 1) (vs := [vI (M 2068 6), vI (M 2068 1)]) (r := [.ref 2068]) (L2 := [some (vI (M 2068 6)), some (vI (M 2068 1)), none, none]) D79_146 rfl (im_cal cn_79 cl_1_55) (Or.inl rfl) rfl rfl rfl rfl rfl hd ⟨rfl, rfl, trivial⟩ ?_
    refine hP.mono ?_
    rintro _ e19 M8 ⟨x9, rfl, rfl, hP⟩
    refine im_bkS ?_
    obtain ⟨hg10, hP⟩ := hP
    refine im_i2l (q := 150) D79_149 hg10 ?_
    refine im_iconst (q := 151) D79_150 ?_
    refine im_callV (q := 154) (kd := 1) (y := 80) (n := 2) (ci := 1) (a := 2068) (vs := [.ref 2068, vL x9, vI 4]) (r := []) (L2 := [some (.ref 2068), some (vL x9), none, some (vI 4), none]) D79_151 (im_cal cn_79 cl_1_47) (Or.inl rfl) rfl sf_2068 rfl rfl rfl rfl hd ⟨rfl, rfl, rfl, trivial⟩ ?_
    refine hP.mono ?_
    rintro _ e18 M11 ⟨rfl, rfl, hP⟩
    refine im_bkN ?_
    refine im_ld (q := 155) (i := 0) D79_154 rfl rfl rfl ?_
    refine im_rng (j := 4) sf_2068 (by decide) (by decide) (fun hr12 => ?_)
    refine im_gfI (q := 158) D79_155 (im_fl cn_79 fl_1_25) sf_2068 rfl rfl tI_1_4 rfl ?_
    refine im_ifc (q := 161) (t := 175) D79_158 rfl (im_z32 hr12) (fun hc13 => ?_) (fun hc13 => ?_)
    · replace hP := hP.1 hc13
      refine im_ld (q := 176) (i := 0) D79_175 rfl rfl rfl ?_
      refine im_ld (q := 178) (i := 10) D79_176 rfl rfl rfl ?_
      refine im_callV (q := 181) (kd := 1) (y := 82) (n := 1) (ci := 1) (a := 2068) (vs := [.ref 2068, vI p10]) (r := []) (L2 := [some (.ref 2068), some (vI p10)]) D79_178 (im_cal cn_79 cl_1_58) (Or.inl rfl) rfl sf_2068 rfl rfl rfl rfl hd ⟨rfl, rfl, trivial⟩ ?_
      refine hP.mono ?_
      rintro _ e16 M15 ⟨rfl, rfl, hP⟩
      refine im_bkN ?_
      refine im_iconst (q := 182) D79_181 ?_
      exact im_zret (q := 183) D79_182 rfl (by decide) hP
    · replace hP := hP.2 hc13
      refine im_ld (q := 162) (i := 0) D79_161 rfl rfl rfl ?_
      refine im_gfR (q := 165) (b := 2069) D79_162 (im_fl cn_79 fl_1_9) sf_2068 rfl rfl tR_1_0 rfl ?_
      refine im_ld (q := 166) (i := 0) D79_165 rfl rfl rfl ?_
      refine im_rng (j := 1) sf_2068 (by decide) (by decide) (fun hr14 => ?_)
      refine im_gfI (q := 169) D79_166 (im_fl cn_79 fl_1_19) sf_2068 rfl rfl tI_1_1 rfl ?_
      refine im_iconst (q := 170) D79_169 ?_
      refine im_iadd (q := 171) D79_170 ?_
      refine im_iconst (q := 172) D79_171 ?_
      obtain ⟨hg17, hP⟩ := hP
      refine im_bast (q := 173) D79_172 sf_2069 hg17.1 hg17.2 (by decide) ?_
      refine im_iconst (q := 174) D79_173 ?_
      exact im_zret (q := 175) D79_174 rfl (by decide) hP
  · replace hP := hP.2 (Int.not_le.mp hc3)
    refine im_ld (q := 123) (i := 0) D79_122 rfl rfl rfl ?_
    refine im_ld (q := 125) (i := 8) D79_123 rfl rfl rfl ?_
    refine im_ld (q := 127) (i := 12) D79_125 rfl rfl rfl ?_
    obtain ⟨hg6, hP⟩ := hP
    refine im_rng (j := p12) hs8 hg6.1 hg6.2 (fun hr7 => ?_)
    refine im_bald (q := 128) D79_127 hs8 (Or.inl rfl) hg6.1 hg6.2 hn8 rfl ?_
    refine im_callV (q := 131) (kd := 1) (y := 81) (n := 1) (ci := 1) (a := 2068) (vs := [.ref 2068, vI (M p8 p12)]) (r := []) (L2 := [some (.ref 2068), some (vI (M p8 p12))]) D79_128 (im_cal cn_79 cl_1_51) (Or.inl rfl) rfl sf_2068 rfl rfl rfl rfl hd ⟨rfl, rfl, trivial⟩ ?_
    refine hP.mono ?_
    rintro _ e21 M20 ⟨rfl, rfl, hP⟩
    refine im_bkN ?_
    refine im_iinc (q := 134) (i := 12) (L' := [some (.ref 2068), none, none, none, none, none, none, none, some (.ref p8), some (vI p9), some (vI p10), none, some (vI (p12 + 1))]) D79_131 rfl (Nat.le_of_ble_eq_true rfl) rfl ?_
    refine im_goto (q := 137) (t := 115) D79_134 rfl ?_
    exact hP.wk ⟨rfl, rfl, rfl, rfl, rfl, trivial⟩
set_option maxRecDepth 20000 in
set_option maxHeartbeats 4000000 in
theorem k_Journal_putNumber_0 {g : im_g} {d : Nat} {e : im_E} {M : im_M} {K : im_K} {p1 p3 : Int} (hP : im_T g d 80 9 [some (.ref 2068), some (vL p1), none, none, some (vI ((8 * p3) - 8))] [] e M K) : im_T g d 80 0 [some (.ref 2068), some (vL p1), none, some (vI p3), none] [] e M K := by
  refine im_bipush (q := 2) D80_0 rfl ?_
  refine im_ld (q := 3) (i := 3) D80_2 rfl rfl rfl ?_
  refine im_imul (q := 4) D80_3 ?_
  refine im_bipush (q := 6) D80_4 rfl ?_
  refine im_isub (q := 7) D80_6 ?_
  refine im_st1 (q := 9) (i := 4) (L' := [some (.ref 2068), some (vL p1), none, some (vI p3), some (vI ((8 * p3) - 8))]) D80_7 (Or.inr rfl) (Nat.le_of_ble_eq_true rfl) rfl ?_
  exact hP.wk ⟨rfl, rfl, rfl, trivial⟩
set_option maxRecDepth 20000 in
set_option maxHeartbeats 4000000 in
theorem k_Journal_putNumber_9 {g : im_g} {d : Nat} {e : im_E} {M : im_M} {K : im_K} {p1 p4 : Int} (hd : 1 ≤ d) (hP : (im_i32 p4) ∧ ((p4 < 0 → K (.inl none) e M) ∧ (0 ≤ p4 → im_T g (d - 1) 81 0 [some (.ref 2068), some (vI (xlushr p1 p4))] [] e M (im_r0 (fun  e_ M3 => e = e_ ∧ im_T g d 80 9 [some (.ref 2068), some (vL p1), none, none, some (vI (p4 + (-8)))] [] e M3 K))))) : im_T g d 80 9 [some (.ref 2068), some (vL p1), none, none, some (vI p4)] [] e M K := by
  refine im_ld (q := 11) (i := 4) D80_9 rfl rfl rfl ?_
  obtain ⟨hg1, hP⟩ := hP
  refine im_ifc (q := 14) (t := 29) D80_11 rfl hg1 (fun hc2 => ?_) (fun hc2 => ?_)
  · replace hP := hP.1 hc2
    exact im_vret (q := 30) D80_29 rfl hP
  · replace hP := hP.2 (Int.not_lt.mp hc2)
    refine im_ld (q := 15) (i := 0) D80_14 rfl rfl rfl ?_
    refine im_ld (q := 16) (i := 1) D80_15 rfl rfl rfl ?_
    refine im_ld (q := 18) (i := 4) D80_16 rfl rfl rfl ?_
    refine im_lushr (q := 19) D80_18 ?_
    refine im_l2i (q := 20) D80_19 ?_
    refine im_callV (q := 23) (kd := 1) (y := 81) (n := 1) (ci := 1) (a := 2068) (vs := [.ref 2068, vI (xlushr p1 p4)]) (r := []) (L2 := [some (.ref 2068), some (vI (xlushr p1 p4))]) D80_20 (im_cal cn_80 cl_1_51) (Or.inl rfl) rfl sf_2068 rfl rfl rfl rfl hd ⟨rfl, rfl, trivial⟩ ?_
    refine hP.mono ?_
    rintro _ e4 M3 ⟨rfl, rfl, hP⟩
    refine im_bkN ?_
    refine im_iinc (q := 26) (i := 4) (L' := [some (.ref 2068), some (vL p1), none, none, some (vI (p4 + (-8)))]) D80_23 rfl (Nat.le_of_ble_eq_true rfl) rfl ?_
    refine im_goto (q := 29) (t := 9) D80_26 rfl ?_
    exact hP.wk ⟨rfl, rfl, rfl, trivial⟩
set_option maxRecDepth 20000 in
set_option maxHeartbeats 4000000 in
theorem k_Journal_putByte_0 {g : im_g} {d : Nat} {e : im_E} {M : im_M} {K : im_K} {p1 : Int} (hd : 1 ≤ d) (hP : im_T g (d - 1) 31 0 [some (vI (M 2068 6)), some (vI p1)] [] e M (im_ri (fun x3 e_ M2 => e = e_ ∧ (im_i32 x3) ∧ ((¬ (M2 2068 3) = 0 → (((((M2 2068 4) = 0 → (((M2 2068 5) < 16384 → (0 ≤ (M2 2068 5) ∧ (M2 2068 5) < 16384) ∧ (im_i32 ((M2 2068 5) + 1)) ∧ (((M2 2068 3) ≤ 0 → K (.inl none) e (im_u (im_u (im_u M2 2068 6 x3) 2069 (M2 2068 5) ((p1.bmod 256).bmod 256)) 2068 5 ((M2 2068 5) + 1))) ∧ (0 < (M2 2068 3) → (im_i32 ((M2 2068 3) - 1)) ∧ K (.inl none) e (im_u (im_u (im_u (im_u M2 2068 6 x3) 2069 (M2 2068 5) ((p1.bmod 256).bmod 256)) 2068 5 ((M2 2068 5) + 1)) 2068 3 ((M2 2068 3) - 1))))))))) ∧ ((((¬ (M2 2068 4) = 0)) ∨ (((M2 2068 4) = 0) ∧ (16384 ≤ (M2 2068 5)))) → K (.inl none) e (im_u M2 2068 6 x3)))) ∧ ((M2 2068 3) = 0 → K (.inl none) e (im_u (im_u M2 2068 6 x3) 2068 4 1)))))) : im_T g d 81 0 [some (.ref 2068), some (vI p1)] [] e M K := by
  refine im_ld (q := 1) (i := 0) D81_0 rfl rfl rfl ?_
  refine im_ld (q := 2) (i := 0) D81_1 rfl rfl rfl ?_
  refine im_rng (j := 6) sf_2068 (by decide) (by decide) (fun hr1 => ?_)
  refine im_gfI (q := 5) D81_2 (im_fl cn_81 fl_1_44) sf_2068 rfl rfl tI_1_6 rfl ?_
  refine im_ld (q := 6) (i := 1) D81_5 rfl rfl rfl ?_
  refine im_callS (q := 9) (kd := 0) (y := 31) (n := 2) (z := 1) (vs := [vI (M 2068 6), vI p1]) (r := [.ref 2068]) (L2 := [some (vI (M 2068 6)), some (vI p1)]) D81_6 rfl (im_cal cn_81 cl_1_61) (Or.inl rfl) rfl rfl rfl rfl rfl hd ⟨rfl, rfl, trivial⟩ ?_
  refine hP.mono ?_
  rintro _ e24 M2 ⟨x3, rfl, rfl, hP⟩
  refine im_bkS ?_
  obtain ⟨hg4, hP⟩ := hP
  refine im_pfI (q := 12) D81_9 (im_fl cn_81 fl_1_44) sf_2068 rfl rfl ti_1_6 hg4 ?_
  refine im_ld (q := 13) (i := 0) D81_12 rfl rfl rfl ?_
  refine im_rng (j := 3) sf_2068 (by decide) (by decide) (fun hr5 => ?_)
  refine im_gfI (q := 16) D81_13 (im_fl cn_81 fl_1_15) sf_2068 rfl rfl tI_1_3 (im_rdk _ _ _ (by decide)) ?_
  refine im_ifc (q := 19) (t := 24) D81_16 rfl (im_rgc hr5 (im_rdk _ _ _ (by decide))) (fun hc6 => ?_) (fun hc6 => ?_)
  · replace hP := hP.1 hc6
    refine im_ld (q := 25) (i := 0) D81_24 rfl rfl rfl ?_
    refine im_rng (j := 4) sf_2068 (by decide) (by decide) (fun hr7 => ?_)
    refine im_gfI (q := 28) D81_25 (im_fl cn_81 fl_1_25) sf_2068 rfl rfl tI_1_4 (im_rdk _ _ _ (by decide)) ?_
    obtain ⟨hP, hJ12⟩ := hP
    have kJ13 : (((¬ (M2 2068 4) = 0)) ∨ (((M2 2068 4) = 0) ∧ (16384 ≤ (M2 2068 5)))) → im_T g d 81 41 [none, none] [] e (im_u M2 2068 6 x3) K := by
      intro  hx14
      have hP := hJ12  hx14
      exact im_vret (q := 42) D81_41 rfl hP
    refine im_ifc (q := 31) (t := 41) D81_28 rfl (im_z32 (im_rgc hr7 (im_rdk _ _ _ (by decide)))) (fun hc8 => ?_) (fun hc8 => ?_)
    · exact (kJ13  (Or.inl hc8)).wk trivial
    · replace hP := hP (Decidable.not_not.mp hc8)
      refine im_ld (q := 32) (i := 0) D81_31 rfl rfl rfl ?_
      refine im_rng (j := 5) sf_2068 (by decide) (by decide) (fun hr9 => ?_)
      refine im_gfI (q := 35) D81_32 (im_fl cn_81 fl_1_37) sf_2068 rfl rfl tI_1_5 (im_rdk _ _ _ (by decide)) ?_
      refine im_sipush (q := 38) D81_35 rfl ?_
      refine im_icmp (q := 41) (t := 42) D81_38 rfl (im_rgc hr9 (im_rdk _ _ _ (by decide))) (by decide) (fun hc10 => ?_) (fun hc10 => ?_)
      · replace hP := hP hc10
        refine im_ld (q := 43) (i := 0) D81_42 rfl rfl rfl ?_
        refine im_gfR (q := 46) (b := 2069) D81_43 (im_fl cn_81 fl_1_9) sf_2068 rfl rfl tR_1_0 rfl ?_
        refine im_ld (q := 47) (i := 0) D81_46 rfl rfl rfl ?_
        refine im_gfI (q := 50) D81_47 (im_fl cn_81 fl_1_37) sf_2068 rfl rfl tI_1_5 (im_rdk _ _ _ (by decide)) ?_
        refine im_ld (q := 51) (i := 1) D81_50 rfl rfl rfl ?_
        refine im_i2b (q := 52) D81_51 ?_
        obtain ⟨hg15, hP⟩ := hP
        refine im_bast (q := 53) D81_52 sf_2069 hg15.1 hg15.2 (by decide) ?_
        refine im_ld (q := 54) (i := 0) D81_53 rfl rfl rfl ?_
        refine im_dup (q := 55) D81_54 rfl ?_
        refine im_gfI (q := 58) D81_55 (im_fl cn_81 fl_1_37) sf_2068 rfl rfl tI_1_5 ((im_rdn _ _ _ _ (by decide)).trans (im_rdk _ _ _ (by decide))) ?_
        refine im_iconst (q := 59) D81_58 ?_
        refine im_iadd (q := 60) D81_59 ?_
        obtain ⟨hg17, hP⟩ := hP
        refine im_pfI (q := 63) D81_60 (im_fl cn_81 fl_1_37) sf_2068 rfl rfl ti_1_5 hg17 ?_
        refine im_ld (q := 64) (i := 0) D81_63 rfl rfl rfl ?_
        refine im_gfI (q := 67) D81_64 (im_fl cn_81 fl_1_15) sf_2068 rfl rfl tI_1_3 ((im_rdk _ _ _ (by decide)).trans ((im_rdn _ _ _ _ (by decide)).trans (im_rdk _ _ _ (by decide)))) ?_
        refine im_ifc (q := 70) (t := 80) D81_67 rfl (im_rgc hr5 (im_rdk _ _ _ (by decide))) (fun hc19 => ?_) (fun hc19 => ?_)
        · replace hP := hP.1 hc19
          exact im_vret (q := 81) D81_80 rfl hP
        · replace hP := hP.2 (Int.not_le.mp hc19)
          refine im_ld (q := 71) (i := 0) D81_70 rfl rfl rfl ?_
          refine im_dup (q := 72) D81_71 rfl ?_
          refine im_gfI (q := 75) D81_72 (im_fl cn_81 fl_1_15) sf_2068 rfl rfl tI_1_3 ((im_rdk _ _ _ (by decide)).trans ((im_rdn _ _ _ _ (by decide)).trans (im_rdk _ _ _ (by decide)))) ?_
          refine im_iconst (q := 76) D81_75 ?_
          refine im_isub (q := 77) D81_76 ?_
          obtain ⟨hg21, hP⟩ := hP
          refine im_pfI (q := 80) D81_77 (im_fl cn_81 fl_1_15) sf_2068 rfl rfl ti_1_3 hg21 ?_
          exact im_vret (q := 81) D81_80 rfl hP
      · exact (kJ13  (Or.inr ⟨(Decidable.not_not.mp hc8), (Int.not_lt.mp hc10)⟩)).wk trivial
  · replace hP := hP.2 (Decidable.not_not.mp hc6)
    refine im_ld (q := 20) (i := 0) D81_19 rfl rfl rfl ?_
    refine im_iconst (q := 21) D81_20 ?_
    refine im_pfZ (q := 24) D81_21 (im_fl cn_81 fl_1_25) sf_2068 rfl rfl tz_1_4 (by decide) ?_
    refine im_ld (q := 25) (i := 0) D81_24 rfl rfl rfl ?_
    refine im_gfI (q := 28) D81_25 (im_fl cn_81 fl_1_25) sf_2068 rfl rfl tI_1_4 (im_rds _ _ _ _) ?_
    refine im_ifc (q := 31) (t := 41) D81_28 rfl (by decide) (fun _ => ?_) (fun hc => absurd (show ¬ (1 : Int) = 0 by decide) hc)
    exact im_vret (q := 42) D81_41 rfl hP
set_option maxRecDepth 20000 in
set_option maxHeartbeats 4000000 in
theorem k_Journal_pass_0 {g : im_g} {d : Nat} {e : im_E} {M : im_M} {K : im_K} {p1 : Int} (hP : (im_i32 ((M 2068 1) + p1)) ∧ (im_i32 ((M 2068 2) + 1)) ∧ K (.inl none) e (im_u (im_u M 2068 1 ((M 2068 1) + p1)) 2068 2 ((M 2068 2) + 1))) : im_T g d 82 0 [some (.ref 2068), some (vI p1)] [] e M K := by
  refine im_ld (q := 1) (i := 0) D82_0 rfl rfl rfl ?_
  refine im_dup (q := 2) D82_1 rfl ?_
  refine im_rng (j := 1) sf_2068 (by decide) (by decide) (fun hr1 => ?_)
  refine im_gfI (q := 5) D82_2 (im_fl cn_82 fl_1_19) sf_2068 rfl rfl tI_1_1 rfl ?_
  refine im_ld (q := 6) (i := 1) D82_5 rfl rfl rfl ?_
  refine im_iadd (q := 7) D82_6 ?_
  obtain ⟨hg2, hP⟩ := hP
  refine im_pfI (q := 10) D82_7 (im_fl cn_82 fl_1_19) sf_2068 rfl rfl ti_1_1 hg2 ?_
  refine im_ld (q := 11) (i := 0) D82_10 rfl rfl rfl ?_
  refine im_dup (q := 12) D82_11 rfl ?_
  refine im_rng (j := 2) sf_2068 (by decide) (by decide) (fun hr3 => ?_)
  refine im_gfI (q := 15) D82_12 (im_fl cn_82 fl_1_22) sf_2068 rfl rfl tI_1_2 (im_rdk _ _ _ (by decide)) ?_
  refine im_iconst (q := 16) D82_15 ?_
  refine im_iadd (q := 17) D82_16 ?_
  obtain ⟨hg4, hP⟩ := hP
  refine im_pfI (q := 20) D82_17 (im_fl cn_82 fl_1_22) sf_2068 rfl rfl ti_1_2 hg4 ?_
  exact im_vret (q := 21) D82_20 rfl hP
set_option maxRecDepth 20000 in
set_option maxHeartbeats 4000000 in
theorem k_Parser_accept_0 {g : im_g} {d : Nat} {e : im_E} {M : im_M} {K : im_K} (hP : (im_i32 ((M 13 8) + (M 23 7))) ∧ (im_i32 ((M 13 10) + (M 23 5))) ∧ K (.inl none) e (im_u (im_u M 13 8 ((M 13 8) + (M 23 7))) 13 10 ((M 13 10) + (M 23 5)))) : im_T g d 83 0 [some (.ref 23)] [] e M K := by
  refine im_ld (q := 1) (i := 0) D83_0 rfl rfl rfl ?_
  refine im_gfR (q := 4) (b := 13) D83_1 (im_fl cn_83 fl_4_25) sf_23 rfl rfl tR_4_0 rfl ?_
  refine im_dup (q := 5) D83_4 rfl ?_
  refine im_rng (j := 8) sf_13 (by decide) (by decide) (fun hr1 => ?_)
  refine im_gfI (q := 8) D83_5 (im_fl cn_83 fl_4_70) sf_13 rfl rfl tI_5_8 rfl ?_
  refine im_ld (q := 9) (i := 0) D83_8 rfl rfl rfl ?_
  refine im_rng (j := 7) sf_23 (by decide) (by decide) (fun hr2 => ?_)
  refine im_gfI (q := 12) D83_9 (im_fl cn_83 fl_4_39) sf_23 rfl rfl tI_4_7 rfl ?_
  refine im_iadd (q := 13) D83_12 ?_
  obtain ⟨hg3, hP⟩ := hP
  refine im_pfI (q := 16) D83_13 (im_fl cn_83 fl_4_70) sf_13 rfl rfl ti_5_8 hg3 ?_
  refine im_ld (q := 17) (i := 0) D83_16 rfl rfl rfl ?_
  refine im_gfR (q := 20) (b := 13) D83_17 (im_fl cn_83 fl_4_25) sf_23 rfl rfl tR_4_0 rfl ?_
  refine im_dup (q := 21) D83_20 rfl ?_
  refine im_rng (j := 10) sf_13 (by decide) (by decide) (fun hr4 => ?_)
  refine im_gfI (q := 24) D83_21 (im_fl cn_83 fl_4_75) sf_13 rfl rfl tI_5_10 (im_rdk _ _ _ (by decide)) ?_
  refine im_ld (q := 25) (i := 0) D83_24 rfl rfl rfl ?_
  refine im_rng (j := 5) sf_23 (by decide) (by decide) (fun hr5 => ?_)
  refine im_gfI (q := 28) D83_25 (im_fl cn_83 fl_4_43) sf_23 rfl rfl tI_4_5 (im_rdn _ _ _ _ (by decide)) ?_
  refine im_iadd (q := 29) D83_28 ?_
  obtain ⟨hg6, hP⟩ := hP
  refine im_pfI (q := 32) D83_29 (im_fl cn_83 fl_4_75) sf_13 rfl rfl ti_5_10 hg6 ?_
  exact im_vret (q := 33) D83_32 rfl hP
set_option maxRecDepth 20000 in
set_option maxHeartbeats 4000000 in
theorem k_P_dropContract_0 {g : im_g} {d : Nat} {e : im_E} {M : im_M} {K : im_K} {p1 : Int} (hd : 1 ≤ d) (hP : (im_i64 p1) ∧ ((((0 ≤ p1 → ((p1 < 16 → (0 ≤ p1 ∧ p1 < 16) ∧ ((¬ (M 28 p1) = (-1) → im_T g (d - 1) 77 0 [some (.ref 0), some (vI 2), some (vL p1), none, some (vL 0), none, some (vL 0), none, some (vI 0)] [] e M (im_ri (fun x11 e_ M10 => e = e_ ∧ (im_i32 x11) ∧ ((¬ x11 = 0 → K (.inl (some (vI x11))) e M10) ∧ (x11 = 0 → K (.inl (some (vI x11))) e (im_u M10 28 p1 (-1))))))) ∧ ((M 28 p1) = (-1) → K (.inl (some (vI (-103)))) e M))))))) ∧ ((((p1 < 0)) ∨ ((0 ≤ p1) ∧ (16 ≤ p1))) → K (.inl (some (vI (-101)))) e M))) : im_T g d 84 0 [some (.ref 0), some (vL p1), none, none] [] e M K := by
  refine im_ld (q := 1) (i := 1) D84_0 rfl rfl rfl ?_
  refine im_lconst (q := 2) (z := 0) D84_1 rfl ?_
  obtain ⟨hg1, hP⟩ := hP
  obtain ⟨hP, hJ7⟩ := hP
  have kJ8 : (((p1 < 0)) ∨ ((0 ≤ p1) ∧ (16 ≤ p1))) → im_T g d 84 14 [none, none, none, none] [] e M K := by
    intro  hx9
    have hP := hJ7  hx9
    refine im_bipush (q := 16) D84_14 rfl ?_
    exact im_iret (q := 17) D84_16 rfl hP
  refine im_lif (q := 3) (q2 := 6) (t := 14) D84_2 D84_3 rfl hg1 (by decide) (fun hc2 => ?_) (fun hc2 => ?_)
  · exact (kJ8  (Or.inl hc2)).wk trivial
  · replace hP := hP (Int.not_lt.mp hc2)
    refine im_ld (q := 7) (i := 1) D84_6 rfl rfl rfl ?_
    refine im_ldc2 (q := 10) (n := 16) D84_7 rfl ?_
    refine im_lif (q := 11) (q2 := 14) (t := 17) D84_10 D84_11 rfl hg1 (by decide) (fun hc3 => ?_) (fun hc3 => ?_)
    · replace hP := hP hc3
      refine im_ld (q := 18) (i := 0) D84_17 rfl rfl rfl ?_
      refine im_gfR (q := 21) (b := 28) D84_18 (im_fl cn_84 fl_11_49) sf_0 rfl rfl tR_11_6 rfl ?_
      refine im_ld (q := 22) (i := 1) D84_21 rfl rfl rfl ?_
      refine im_l2i (q := 23) D84_22 ?_
      obtain ⟨hg4, hP⟩ := hP
      refine im_rng (j := p1) sf_28 hg4.1 hg4.2 (fun hr5 => ?_)
      refine im_iald (q := 24) D84_23 sf_28 hg4.1 hg4.2 (by decide) rfl ?_
      refine im_iconst (q := 25) D84_24 ?_
      refine im_icmp (q := 28) (t := 31) D84_25 rfl hr5 (by decide) (fun hc6 => ?_) (fun hc6 => ?_)
      · replace hP := hP.1 hc6
        refine im_ld (q := 32) (i := 0) D84_31 rfl rfl rfl ?_
        refine im_iconst (q := 33) D84_32 ?_
        refine im_ld (q := 34) (i := 1) D84_33 rfl rfl rfl ?_
        refine im_lconst (q := 35) (z := 0) D84_34 rfl ?_
        refine im_lconst (q := 36) (z := 0) D84_35 rfl ?_
        refine im_iconst (q := 37) D84_36 ?_
        refine im_callV (q := 40) (kd := 1) (y := 77) (n := 5) (ci := 11) (a := 0) (vs := [.ref 0, vI 2, vL p1, vL 0, vL 0, vI 0]) (r := []) (L2 := [some (.ref 0), some (vI 2), some (vL p1), none, some (vL 0), none, some (vL 0), none, some (vI 0)]) D84_37 (im_cal cn_84 cl_11_228) (Or.inl rfl) rfl sf_0 rfl rfl rfl rfl hd ⟨rfl, rfl, rfl, rfl, rfl, rfl, trivial⟩ ?_
        refine hP.mono ?_
        rintro _ e14 M10 ⟨x11, rfl, rfl, hP⟩
        refine im_bkS ?_
        refine im_st1 (q := 41) (i := 3) (L' := [some (.ref 0), some (vL p1), none, some (vI x11)]) D84_40 (Or.inl ⟨_, rfl, rfl⟩) (Nat.le_of_ble_eq_true rfl) rfl ?_
        refine im_ld (q := 42) (i := 3) D84_41 rfl rfl rfl ?_
        obtain ⟨hg12, hP⟩ := hP
        refine im_ifc (q := 45) (t := 53) D84_42 rfl hg12 (fun hc13 => ?_) (fun hc13 => ?_)
        · replace hP := hP.1 hc13
          refine im_ld (q := 54) (i := 3) D84_53 rfl rfl rfl ?_
          exact im_iret (q := 55) D84_54 rfl hP
        · replace hP := hP.2 (Decidable.not_not.mp hc13)
          refine im_ld (q := 46) (i := 0) D84_45 rfl rfl rfl ?_
          refine im_gfR (q := 49) (b := 28) D84_46 (im_fl cn_84 fl_11_49) sf_0 rfl rfl tR_11_6 rfl ?_
          refine im_ld (q := 50) (i := 1) D84_49 rfl rfl rfl ?_
          refine im_l2i (q := 51) D84_50 ?_
          refine im_iconst (q := 52) D84_51 ?_
          refine im_iast (q := 53) D84_52 sf_28 hg4.1 hg4.2 (by decide) (by decide) ?_
          refine im_ld (q := 54) (i := 3) D84_53 rfl rfl rfl ?_
          exact im_iret (q := 55) D84_54 rfl hP
      · replace hP := hP.2 (Decidable.not_not.mp hc6)
        refine im_bipush (q := 30) D84_28 rfl ?_
        exact im_iret (q := 31) D84_30 rfl hP
    · exact (kJ8  (Or.inr ⟨(Int.not_lt.mp hc2), (Int.not_lt.mp hc3)⟩)).wk trivial
set_option maxRecDepth 20000 in
set_option maxHeartbeats 4000000 in
theorem k_P_beginInstance_0 {g : im_g} {d : Nat} {e : im_E} {M : im_M} {K : im_K} {p1 p3 p5 : Int} (hd : 1 ≤ d) (hP : (im_i64 p1) ∧ ((((0 ≤ p1 → ((p1 < 16 → (im_i64 p3) ∧ ((0 ≤ p3 → ((p3 < 16 → (im_i64 p5) ∧ ((0 ≤ p5 → ((p5 ≤ 1000000000000000 → (0 ≤ p1 ∧ p1 < 16) ∧ ∃ b17 : Nat, ((M 29 p1) = (b17 : Int)) ∧ (im_state e b17) ∧ (0 ≤ p3 ∧ p3 < 16) ∧ (((((M b17 6) = 0 → ((¬ (M 28 p3) = (-1) → im_T g (d - 1) 86 0 [some (.ref 13), some (vI (M 28 p3)), some (.ref 30), none, none, none] [] e M (im_ri (fun x29 e_ M28 => e = e_ ∧ (im_i32 x29) ∧ ((x29 = 0 → im_T g (d - 1) 77 0 [some (.ref 0), some (vI 3), some (vL p1), none, some (vL p3), none, some (vL p5), none, some (vI 0)] [] e M28 (im_ri (fun x33 e_ M32 => e = e_ ∧ (im_i32 x33) ∧ ((¬ x33 = 0 → K (.inl (some (vI x33))) e M32) ∧ (x33 = 0 → im_T g (d - 1) 90 0 [some (.ref b17), some (vI (M 28 p3)), some (vL p5), none] [] e M32 (im_r0 (fun  e_ M36 => e = e_ ∧ ∃ n37 : Nat, (im_book e (b17 + 259) n37) ∧ im_T g (d - 1) 91 0 [some (.ref (b17 + 259)), some (.ref 30), none] [] e M36 (im_r0 (fun  e_ M39 => e = e_ ∧ K (.inl (some (vI x33))) e M39))))))))) ∧ (¬ x29 = 0 → K (.inl (some (vI (-11)))) e M28))))))))) ∧ ((((¬ (M b17 6) = 0)) ∨ (((M b17 6) = 0) ∧ ((M 28 p3) = (-1)))) → K (.inl (some (vI (-103)))) e M))))))))))))))) ∧ ((((p1 < 0)) ∨ ((0 ≤ p1) ∧ (16 ≤ p1)) ∨ ((0 ≤ p1) ∧ (p1 < 16) ∧ (p3 < 0)) ∨ ((0 ≤ p1) ∧ (p1 < 16) ∧ (0 ≤ p3) ∧ (16 ≤ p3))) → K (.inl (some (vI (-101)))) e M) ∧ ((((0 ≤ p1) ∧ (p1 < 16) ∧ (0 ≤ p3) ∧ (p3 < 16) ∧ (p5 < 0)) ∨ ((0 ≤ p1) ∧ (p1 < 16) ∧ (0 ≤ p3) ∧ (p3 < 16) ∧ (0 ≤ p5) ∧ (1000000000000000 < p5))) → K (.inl (some (vI (-102)))) e M))) : im_T g d 85 0 [some (.ref 0), some (vL p1), none, some (vL p3), none, some (vL p5), none, none, none, none] [] e M K := by
  refine im_ld (q := 1) (i := 1) D85_0 rfl rfl rfl ?_
  refine im_lconst (q := 2) (z := 0) D85_1 rfl ?_
  obtain ⟨hg1, hP⟩ := hP
  obtain ⟨hP, hJ10, hJ13⟩ := hP
  have kJ11 : (((p1 < 0)) ∨ ((0 ≤ p1) ∧ (16 ≤ p1)) ∨ ((0 ≤ p1) ∧ (p1 < 16) ∧ (p3 < 0)) ∨ ((0 ≤ p1) ∧ (p1 < 16) ∧ (0 ≤ p3) ∧ (16 ≤ p3))) → im_T g d 85 28 [none, none, none, none, none, none, none, none, none, none] [] e M K := by
    intro  hx12
    have hP := hJ10  hx12
    refine im_bipush (q := 30) D85_28 rfl ?_
    exact im_iret (q := 31) D85_30 rfl hP
  have kJ14 : (((0 ≤ p1) ∧ (p1 < 16) ∧ (0 ≤ p3) ∧ (p3 < 16) ∧ (p5 < 0)) ∨ ((0 ≤ p1) ∧ (p1 < 16) ∧ (0 ≤ p3) ∧ (p3 < 16) ∧ (0 ≤ p5) ∧ (1000000000000000 < p5))) → im_T g d 85 47 [none, none, none, none, none, none, none, none, none, none] [] e M K := by
    intro  hx15
    have hP := hJ13  hx15
    refine im_bipush (q := 49) D85_47 rfl ?_
    exact im_iret (q := 50) D85_49 rfl hP
  refine im_lif (q := 3) (q2 := 6) (t := 28) D85_2 D85_3 rfl hg1 (by decide) (fun hc2 => ?_) (fun hc2 => ?_)
  · exact (kJ11  (Or.inl hc2)).wk trivial
  · replace hP := hP (Int.not_lt.mp hc2)
    refine im_ld (q := 7) (i := 1) D85_6 rfl rfl rfl ?_
    refine im_ldc2 (q := 10) (n := 16) D85_7 rfl ?_
    refine im_lif (q := 11) (q2 := 14) (t := 28) D85_10 D85_11 rfl hg1 (by decide) (fun hc3 => ?_) (fun hc3 => ?_)
    · exact (kJ11  (Or.inr (Or.inl ⟨(Int.not_lt.mp hc2), hc3⟩))).wk trivial
    · replace hP := hP (Int.not_le.mp hc3)
      refine im_ld (q := 15) (i := 3) D85_14 rfl rfl rfl ?_
      refine im_lconst (q := 16) (z := 0) D85_15 rfl ?_
      obtain ⟨hg4, hP⟩ := hP
      refine im_lif (q := 17) (q2 := 20) (t := 28) D85_16 D85_17 rfl hg4 (by decide) (fun hc5 => ?_) (fun hc5 => ?_)
      · exact (kJ11  (Or.inr (Or.inr (Or.inl ⟨(Int.not_lt.mp hc2), (Int.not_le.mp hc3), hc5⟩)))).wk trivial
      · replace hP := hP (Int.not_lt.mp hc5)
        refine im_ld (q := 21) (i := 3) D85_20 rfl rfl rfl ?_
        refine im_ldc2 (q := 24) (n := 16) D85_21 rfl ?_
        refine im_lif (q := 25) (q2 := 28) (t := 31) D85_24 D85_25 rfl hg4 (by decide) (fun hc6 => ?_) (fun hc6 => ?_)
        · replace hP := hP hc6
          refine im_ld (q := 33) (i := 5) D85_31 rfl rfl rfl ?_
          refine im_lconst (q := 34) (z := 0) D85_33 rfl ?_
          obtain ⟨hg7, hP⟩ := hP
          refine im_lif (q := 35) (q2 := 38) (t := 47) D85_34 D85_35 rfl hg7 (by decide) (fun hc8 => ?_) (fun hc8 => ?_)
          · exact (kJ14  (Or.inl ⟨(Int.not_lt.mp hc2), (Int.not_le.mp hc3), (Int.not_lt.mp hc5), hc6, hc8⟩)).wk trivial
          · replace hP := hP (Int.not_lt.mp hc8)
            refine im_ld (q := 40) (i := 5) D85_38 rfl rfl rfl ?_
            refine im_ldc2 (q := 43) (n := 1000000000000000) D85_40 rfl ?_
            refine im_lif (q := 44) (q2 := 47) (t := 50) D85_43 D85_44 rfl hg7 (by decide) (fun hc9 => ?_) (fun hc9 => ?_)
            · replace hP := hP hc9
              refine im_ld (q := 51) (i := 0) D85_50 rfl rfl rfl ?_
              refine im_gfR (q := 54) (b := 29) D85_51 (im_fl cn_85 fl_11_55) sf_0 rfl rfl tR_11_7 rfl ?_
              refine im_ld (q := 55) (i := 1) D85_54 rfl rfl rfl ?_
              refine im_l2i (q := 56) D85_55 ?_
              obtain ⟨hg16, hP⟩ := hP
              obtain ⟨b17, hb18, hP⟩ := hP
              obtain ⟨hb19, hP⟩ := hP
              refine im_aald (q := 57) D85_56 sf_29 (Or.inr rfl) hg16.1 hg16.2 (by decide) hb18 ?_
              refine im_stR (q := 59) (i := 7) (L' := [some (.ref 0), some (vL p1), none, some (vL p3), none, some (vL p5), none, some (.ref b17), none, none]) D85_57 (Or.inr rfl) (Nat.le_of_ble_eq_true rfl) rfl ?_
              refine im_ld (q := 60) (i := 0) D85_59 rfl rfl rfl ?_
              refine im_gfR (q := 63) (b := 28) D85_60 (im_fl cn_85 fl_11_49) sf_0 rfl rfl tR_11_6 rfl ?_
              refine im_ld (q := 64) (i := 3) D85_63 rfl rfl rfl ?_
              refine im_l2i (q := 65) D85_64 ?_
              obtain ⟨hg20, hP⟩ := hP
              refine im_rng (j := p3) sf_28 hg20.1 hg20.2 (fun hr21 => ?_)
              refine im_iald (q := 66) D85_65 sf_28 hg20.1 hg20.2 (by decide) rfl ?_
              refine im_st1 (q := 68) (i := 8) (L' := [some (.ref 0), some (vL p1), none, some (vL p3), none, some (vL p5), none, some (.ref b17), some (vI (M 28 p3)), none]) D85_66 (Or.inr rfl) (Nat.le_of_ble_eq_true rfl) rfl ?_
              refine im_ld (q := 70) (i := 7) D85_68 rfl rfl rfl ?_
              refine im_rng (j := 6) hb19.1 (by decide) (show (6 : Int) < ((7 : Nat) : Int) by decide) (fun hr22 => ?_)
              refine im_gfI (q := 73) D85_70 (im_fl cn_85 fl_11_290) hb19.1 rfl rfl tI_9_6 rfl ?_
              obtain ⟨hP, hJ25⟩ := hP
              have kJ26 : (((¬ (M b17 6) = 0)) ∨ (((M b17 6) = 0) ∧ ((M 28 p3) = (-1)))) → im_T g d 85 82 [none, none, none, none, none, none, none, none, none, none] [] e M K := by
                intro  hx27
                have hP := hJ25  hx27
                refine im_bipush (q := 84) D85_82 rfl ?_
                exact im_iret (q := 85) D85_84 rfl hP
              refine im_ifc (q := 76) (t := 82) D85_73 rfl (im_z32 hr22) (fun hc23 => ?_) (fun hc23 => ?_)
              · exact (kJ26  (Or.inl hc23)).wk trivial
              · replace hP := hP (Decidable.not_not.mp hc23)
                refine im_ld (q := 78) (i := 8) D85_76 rfl rfl rfl ?_
                refine im_iconst (q := 79) D85_78 ?_
                refine im_icmp (q := 82) (t := 85) D85_79 rfl hr21 (by decide) (fun hc24 => ?_) (fun hc24 => ?_)
                · replace hP := hP hc24
                  refine im_ld (q := 86) (i := 0) D85_85 rfl rfl rfl ?_
                  refine im_gfR (q := 89) (b := 13) D85_86 (im_fl cn_85 fl_11_36) sf_0 rfl rfl tR_11_4 rfl ?_
                  refine im_ld (q := 91) (i := 8) D85_89 rfl rfl rfl ?_
                  refine im_ld (q := 92) (i := 0) D85_91 rfl rfl rfl ?_
                  refine im_gfR (q := 95) (b := 30) D85_92 (im_fl cn_85 fl_11_64) sf_0 rfl rfl tR_11_8 rfl ?_
                  refine im_callV (q := 98) (kd := 1) (y := 86) (n := 2) (ci := 5) (a := 13) (vs := [.ref 13, vI (M 28 p3), .ref 30]) (r := []) (L2 := [some (.ref 13), some (vI (M 28 p3)), some (.ref 30), none, none, none]) D85_95 (im_cal cn_85 cl_11_318) (Or.inl rfl) rfl sf_13 rfl rfl rfl rfl hd ⟨rfl, rfl, rfl, trivial⟩ ?_
                  refine hP.mono ?_
                  rintro _ e43 M28 ⟨x29, rfl, rfl, hP⟩
                  refine im_bkS ?_
                  obtain ⟨hg30, hP⟩ := hP
                  refine im_ifc (q := 101) (t := 104) D85_98 rfl hg30 (fun hc31 => ?_) (fun hc31 => ?_)
                  · replace hP := hP.1 hc31
                    refine im_ld (q := 105) (i := 0) D85_104 rfl rfl rfl ?_
                    refine im_iconst (q := 106) D85_105 ?_
                    refine im_ld (q := 107) (i := 1) D85_106 rfl rfl rfl ?_
                    refine im_ld (q := 108) (i := 3) D85_107 rfl rfl rfl ?_
                    refine im_ld (q := 110) (i := 5) D85_108 rfl rfl rfl ?_
                    refine im_iconst (q := 111) D85_110 ?_
                    refine im_callV (q := 114) (kd := 1) (y := 77) (n := 5) (ci := 11) (a := 0) (vs := [.ref 0, vI 3, vL p1, vL p3, vL p5, vI 0]) (r := []) (L2 := [some (.ref 0), some (vI 3), some (vL p1), none, some (vL p3), none, some (vL p5), none, some (vI 0)]) D85_111 (im_cal cn_85 cl_11_228) (Or.inl rfl) rfl sf_0 rfl rfl rfl rfl hd ⟨rfl, rfl, rfl, rfl, rfl, rfl, trivial⟩ ?_
                    refine hP.mono ?_
                    rintro _ e42 M32 ⟨x33, rfl, rfl, hP⟩
                    refine im_bkS ?_
                    refine im_st1 (q := 116) (i := 9) (L' := [some (.ref 0), some (vL p1), none, some (vL p3), none, some (vL p5), none, some (.ref b17), some (vI (M 28 p3)), some (vI x33)]) D85_114 (Or.inr rfl) (Nat.le_of_ble_eq_true rfl) rfl ?_
                    refine im_ld (q := 118) (i := 9) D85_116 rfl rfl rfl ?_
                    obtain ⟨hg34, hP⟩ := hP
                    refine im_ifc (q := 121) (t := 142) D85_118 rfl hg34 (fun hc35 => ?_) (fun hc35 => ?_)
                    · replace hP := hP.1 hc35
                      refine im_ld (q := 144) (i := 9) D85_142 rfl rfl rfl ?_
                      exact im_iret (q := 145) D85_144 rfl hP
                    · replace hP := hP.2 (Decidable.not_not.mp hc35)
                      refine im_ld (q := 123) (i := 7) D85_121 rfl rfl rfl ?_
                      refine im_ld (q := 125) (i := 8) D85_123 rfl rfl rfl ?_
                      refine im_ld (q := 127) (i := 5) D85_125 rfl rfl rfl ?_
                      refine im_callV (q := 130) (kd := 1) (y := 90) (n := 2) (ci := 9) (a := b17) (vs := [.ref b17, vI (M 28 p3), vL p5]) (r := []) (L2 := [some (.ref b17), some (vI (M 28 p3)), some (vL p5), none]) D85_127 (im_cal cn_85 cl_11_322) (Or.inl rfl) rfl hb19.1 rfl rfl rfl rfl hd ⟨rfl, rfl, rfl, trivial⟩ ?_
                      refine hP.mono ?_
                      rintro _ e41 M36 ⟨rfl, rfl, hP⟩
                      refine im_bkN ?_
                      refine im_ld (q := 132) (i := 7) D85_130 rfl rfl rfl ?_
                      obtain ⟨n37, hb38, hP⟩ := hP
                      refine im_gfR (q := 135) (b := (b17 + 259)) D85_132 (im_fl cn_85 fl_11_326) hb19.1 rfl rfl tR_9_3 rfl ?_
                      refine im_ld (q := 136) (i := 0) D85_135 rfl rfl rfl ?_
                      refine im_gfR (q := 139) (b := 30) D85_136 (im_fl cn_85 fl_11_64) sf_0 rfl rfl tR_11_8 rfl ?_
                      refine im_callV (q := 142) (kd := 1) (y := 91) (n := 1) (ci := 0) (a := (b17 + 259)) (vs := [.ref (b17 + 259), .ref 30]) (r := []) (L2 := [some (.ref (b17 + 259)), some (.ref 30), none]) D85_139 (im_cal cn_85 cl_11_329) (Or.inl rfl) rfl hb38.1 rfl rfl rfl rfl hd ⟨rfl, rfl, trivial⟩ ?_
                      refine hP.mono ?_
                      rintro _ e40 M39 ⟨rfl, rfl, hP⟩
                      refine im_bkN ?_
                      refine im_ld (q := 144) (i := 9) D85_142 rfl rfl rfl ?_
                      exact im_iret (q := 145) D85_144 rfl hP
                  · replace hP := hP.2 hc31
                    refine im_bipush (q := 103) D85_101 rfl ?_
                    exact im_iret (q := 104) D85_103 rfl hP
                · exact (kJ26  (Or.inr ⟨(Decidable.not_not.mp hc23), (Decidable.not_not.mp hc24)⟩)).wk trivial
            · exact (kJ14  (Or.inr ⟨(Int.not_lt.mp hc2), (Int.not_le.mp hc3), (Int.not_lt.mp hc5), hc6, (Int.not_lt.mp hc8), (Int.not_le.mp hc9)⟩)).wk trivial
        · exact (kJ11  (Or.inr (Or.inr (Or.inr ⟨(Int.not_lt.mp hc2), (Int.not_le.mp hc3), (Int.not_lt.mp hc5), (Int.not_lt.mp hc6)⟩)))).wk trivial
set_option maxRecDepth 20000 in
set_option maxHeartbeats 4000000 in
theorem k_Pool_lacks_0 {g : im_g} {d : Nat} {e : im_E} {M : im_M} {K : im_K} {p1 : Int} {p2 np2 : Nat} (hp2 : im_book e p2 np2) (hP : im_T g d 86 2 [some (.ref 13), some (vI p1), some (.ref p2), some (vI p1), none, none] [] e M K) : im_T g d 86 0 [some (.ref 13), some (vI p1), some (.ref p2), none, none, none] [] e M K := by
  refine im_ld (q := 1) (i := 1) D86_0 rfl rfl rfl ?_
  refine im_st1 (q := 2) (i := 3) (L' := [some (.ref 13), some (vI p1), some (.ref p2), some (vI p1), none, none]) D86_1 (Or.inl ⟨_, rfl, rfl⟩) (Nat.le_of_ble_eq_true rfl) rfl ?_
  exact hP.wk ⟨rfl, rfl, rfl, rfl, trivial⟩
set_option maxRecDepth 20000 in
set_option maxHeartbeats 4000000 in
theorem k_Pool_lacks_2 {g : im_g} {d : Nat} {e : im_E} {M : im_M} {K : im_K} {p1 p3 : Int} {p2 np2 : Nat} (hp2 : im_book e p2 np2) (hd : 1 ≤ d) (hP : (0 ≤ p1 ∧ p1 < 5000) ∧ (im_i32 p3) ∧ (((M 15 p1) ≤ p3 → K (.inl (some (vI 0))) e M) ∧ (p3 < (M 15 p1) → im_T g (d - 1) 87 0 [some (.ref 13), some (vI p3)] [] e M (im_rl (fun x6 e_ M5 => e = e_ ∧ (im_i64 x6) ∧ ((x6 = 0 → ((((¬ x6 = 0 → (0 ≤ p3 ∧ p3 < 5000) ∧ (((M5 14 p3) = 3 → im_T g (d - 1) 89 0 [some (.ref p2), some (vL x6), none, some (vL 0), none, none] [] e M5 (im_rr (fun a17 e_ M16 => e = e_ ∧ im_num e a17 ∧ im_T g (d - 1) 64 0 [some (.ref a17), none, none, none] [] e M16 (im_rl (fun x20 e_ M19 => e = e_ ∧ (im_i64 x20) ∧ ((¬ x20 = (-1) → im_T g d 86 2 [some (.ref 13), some (vI p1), some (.ref p2), some (vI (p3 + 1)), none, none] [] e M19 K) ∧ (x20 = (-1) → K (.inl (some (vI 1))) e M19))))))))))) ∧ ((((x6 = 0)) ∨ ((¬ x6 = 0) ∧ (¬ (M5 14 p3) = 3))) → im_T g d 86 2 [some (.ref 13), some (vI p1), some (.ref p2), some (vI (p3 + 1)), none, none] [] e M5 K))) ∧ (¬ x6 = 0 → im_T g (d - 1) 88 0 [some (.ref p2), some (vL x6), none, some (vL 0), none, none] [] e M5 (im_ri (fun x26 e_ M25 => e = e_ ∧ (im_i32 x26) ∧ ((0 ≤ x26 → ((((¬ x6 = 0 → (0 ≤ p3 ∧ p3 < 5000) ∧ (((M25 14 p3) = 3 → im_T g (d - 1) 89 0 [some (.ref p2), some (vL x6), none, some (vL 0), none, none] [] e M25 (im_rr (fun a37 e_ M36 => e = e_ ∧ im_num e a37 ∧ im_T g (d - 1) 64 0 [some (.ref a37), none, none, none] [] e M36 (im_rl (fun x40 e_ M39 => e = e_ ∧ (im_i64 x40) ∧ ((¬ x40 = (-1) → im_T g d 86 2 [some (.ref 13), some (vI p1), some (.ref p2), some (vI (p3 + 1)), none, none] [] e M39 K) ∧ (x40 = (-1) → K (.inl (some (vI 1))) e M39))))))))))) ∧ ((((x6 = 0)) ∨ ((¬ x6 = 0) ∧ (¬ (M25 14 p3) = 3))) → im_T g d 86 2 [some (.ref 13), some (vI p1), some (.ref p2), some (vI (p3 + 1)), none, none] [] e M25 K))) ∧ (x26 < 0 → K (.inl (some (vI 1))) e M25))))))))))) : im_T g d 86 2 [some (.ref 13), some (vI p1), some (.ref p2), some (vI p3), none, none] [] e M K := by
  refine im_ld (q := 3) (i := 3) D86_2 rfl rfl rfl ?_
  refine im_ld (q := 4) (i := 0) D86_3 rfl rfl rfl ?_
  refine im_gfR (q := 7) (b := 15) D86_4 (im_fl cn_86 fl_5_15) sf_13 rfl rfl tR_5_1 rfl ?_
  refine im_ld (q := 8) (i := 1) D86_7 rfl rfl rfl ?_
  obtain ⟨hg1, hP⟩ := hP
  refine im_rng (j := p1) sf_15 hg1.1 hg1.2 (fun hr2 => ?_)
  refine im_iald (q := 9) D86_8 sf_15 hg1.1 hg1.2 (by decide) rfl ?_
  obtain ⟨hg3, hP⟩ := hP
  refine im_icmp (q := 12) (t := 80) D86_9 rfl hg3 hr2 (fun hc4 => ?_) (fun hc4 => ?_)
  · replace hP := hP.1 hc4
    refine im_iconst (q := 81) D86_80 ?_
    exact im_zret (q := 82) D86_81 rfl (by decide) hP
  · replace hP := hP.2 (Int.not_le.mp hc4)
    refine im_ld (q := 13) (i := 0) D86_12 rfl rfl rfl ?_
    refine im_ld (q := 14) (i := 3) D86_13 rfl rfl rfl ?_
    refine im_callV (q := 17) (kd := 1) (y := 87) (n := 1) (ci := 5) (a := 13) (vs := [.ref 13, vI p3]) (r := []) (L2 := [some (.ref 13), some (vI p3)]) D86_14 (im_cal cn_86 cl_5_93) (Or.inl rfl) rfl sf_13 rfl rfl rfl rfl hd ⟨rfl, rfl, trivial⟩ ?_
    refine hP.mono ?_
    rintro _ e46 M5 ⟨x6, rfl, rfl, hP⟩
    refine im_bkS ?_
    refine im_st2 (q := 19) (i := 4) (L' := [some (.ref 13), some (vI p1), some (.ref p2), some (vI p3), some (vL x6), none]) D86_17 (Or.inr rfl) (Nat.le_of_ble_eq_true rfl) rfl ?_
    refine im_ld (q := 21) (i := 4) D86_19 rfl rfl rfl ?_
    refine im_lconst (q := 22) (z := 0) D86_21 rfl ?_
    obtain ⟨hg7, hP⟩ := hP
    refine im_lif (q := 23) (q2 := 26) (t := 38) D86_22 D86_23 rfl hg7 (by decide) (fun hc8 => ?_) (fun hc8 => ?_)
    · replace hP := hP.1 hc8
      refine im_ld (q := 40) (i := 4) D86_38 rfl rfl rfl ?_
      refine im_lconst (q := 41) (z := 0) D86_40 rfl ?_
      obtain ⟨hP, hJ13⟩ := hP
      have kJ14 : (((x6 = 0)) ∨ ((¬ x6 = 0) ∧ (¬ (M5 14 p3) = 3))) → im_T g d 86 74 [some (.ref 13), some (vI p1), some (.ref p2), some (vI p3), none, none] [] e M5 K := by
        intro  hx15
        have hP := hJ13  hx15
        refine im_iinc (q := 77) (i := 3) (L' := [some (.ref 13), some (vI p1), some (.ref p2), some (vI (p3 + 1)), none, none]) D86_74 rfl (Nat.le_of_ble_eq_true rfl) rfl ?_
        refine im_goto (q := 80) (t := 2) D86_77 rfl ?_
        exact hP.wk ⟨rfl, rfl, rfl, rfl, trivial⟩
      refine im_lif (q := 42) (q2 := 45) (t := 74) D86_41 D86_42 rfl hg7 (by decide) (fun hc9 => ?_) (fun hc9 => ?_)
      · exact (kJ14  (Or.inl hc9)).wk ⟨rfl, rfl, rfl, rfl, trivial⟩
      · replace hP := hP hc9
        refine im_ld (q := 46) (i := 0) D86_45 rfl rfl rfl ?_
        refine im_gfR (q := 49) (b := 14) D86_46 (im_fl cn_86 fl_5_9) sf_13 rfl rfl tR_5_0 rfl ?_
        refine im_ld (q := 50) (i := 3) D86_49 rfl rfl rfl ?_
        obtain ⟨hg10, hP⟩ := hP
        refine im_rng (j := p3) sf_14 hg10.1 hg10.2 (fun hr11 => ?_)
        refine im_iald (q := 51) D86_50 sf_14 hg10.1 hg10.2 (by decide) rfl ?_
        refine im_iconst (q := 52) D86_51 ?_
        refine im_icmp (q := 55) (t := 74) D86_52 rfl hr11 (by decide) (fun hc12 => ?_) (fun hc12 => ?_)
        · exact (kJ14  (Or.inr ⟨hc9, hc12⟩)).wk ⟨rfl, rfl, rfl, rfl, trivial⟩
        · replace hP := hP (Decidable.not_not.mp hc12)
          refine im_ld (q := 56) (i := 2) D86_55 rfl rfl rfl ?_
          refine im_ld (q := 58) (i := 4) D86_56 rfl rfl rfl ?_
          refine im_lconst (q := 59) (z := 0) D86_58 rfl ?_
          refine im_callV (q := 62) (kd := 1) (y := 89) (n := 2) (ci := 0) (a := p2) (vs := [.ref p2, vL x6, vL 0]) (r := []) (L2 := [some (.ref p2), some (vL x6), none, some (vL 0), none, none]) D86_59 (im_cal cn_86 cl_5_109) (Or.inl rfl) rfl hp2.1 rfl rfl rfl rfl hd ⟨rfl, rfl, rfl, trivial⟩ ?_
          refine hP.mono ?_
          rintro _ e24 M16 ⟨a17, rfl, rfl, hP⟩
          refine im_bkS ?_
          obtain ⟨hb18, hP⟩ := hP
          refine im_callV (q := 65) (kd := 1) (y := 64) (n := 0) (ci := 3) (a := a17) (vs := [.ref a17]) (r := []) (L2 := [some (.ref a17), none, none, none]) D86_62 (im_cal cn_86 cl_5_113) (Or.inl rfl) rfl hb18.1 rfl rfl rfl rfl hd ⟨rfl, trivial⟩ ?_
          refine hP.mono ?_
          rintro _ e23 M19 ⟨x20, rfl, rfl, hP⟩
          refine im_bkS ?_
          refine im_ldc2 (q := 68) (n := (-1)) D86_65 rfl ?_
          obtain ⟨hg21, hP⟩ := hP
          refine im_lif (q := 69) (q2 := 72) (t := 74) D86_68 D86_69 rfl hg21 (by decide) (fun hc22 => ?_) (fun hc22 => ?_)
          · replace hP := hP.1 hc22
            refine im_iinc (q := 77) (i := 3) (L' := [some (.ref 13), some (vI p1), some (.ref p2), some (vI (p3 + 1)), some (vL x6), none]) D86_74 rfl (Nat.le_of_ble_eq_true rfl) rfl ?_
            refine im_goto (q := 80) (t := 2) D86_77 rfl ?_
            exact hP.wk ⟨rfl, rfl, rfl, rfl, trivial⟩
          · replace hP := hP.2 (Decidable.not_not.mp hc22)
            refine im_iconst (q := 73) D86_72 ?_
            exact im_zret (q := 74) D86_73 rfl (by decide) hP
    · replace hP := hP.2 hc8
      refine im_ld (q := 27) (i := 2) D86_26 rfl rfl rfl ?_
      refine im_ld (q := 29) (i := 4) D86_27 rfl rfl rfl ?_
      refine im_lconst (q := 30) (z := 0) D86_29 rfl ?_
      refine im_callV (q := 33) (kd := 1) (y := 88) (n := 2) (ci := 0) (a := p2) (vs := [.ref p2, vL x6, vL 0]) (r := []) (L2 := [some (.ref p2), some (vL x6), none, some (vL 0), none, none]) D86_30 (im_cal cn_86 cl_5_103) (Or.inl rfl) rfl hp2.1 rfl rfl rfl rfl hd ⟨rfl, rfl, rfl, trivial⟩ ?_
      refine hP.mono ?_
      rintro _ e45 M25 ⟨x26, rfl, rfl, hP⟩
      refine im_bkS ?_
      obtain ⟨hg27, hP⟩ := hP
      refine im_ifc (q := 36) (t := 38) D86_33 rfl hg27 (fun hc28 => ?_) (fun hc28 => ?_)
      · replace hP := hP.1 hc28
        refine im_ld (q := 40) (i := 4) D86_38 rfl rfl rfl ?_
        refine im_lconst (q := 41) (z := 0) D86_40 rfl ?_
        obtain ⟨hP, hJ33⟩ := hP
        have kJ34 : (((x6 = 0)) ∨ ((¬ x6 = 0) ∧ (¬ (M25 14 p3) = 3))) → im_T g d 86 74 [some (.ref 13), some (vI p1), some (.ref p2), some (vI p3), none, none] [] e M25 K := by
          intro  hx35
          have hP := hJ33  hx35
          refine im_iinc (q := 77) (i := 3) (L' := [some (.ref 13), some (vI p1), some (.ref p2), some (vI (p3 + 1)), none, none]) D86_74 rfl (Nat.le_of_ble_eq_true rfl) rfl ?_
          refine im_goto (q := 80) (t := 2) D86_77 rfl ?_
          exact hP.wk ⟨rfl, rfl, rfl, rfl, trivial⟩
        refine im_lif (q := 42) (q2 := 45) (t := 74) D86_41 D86_42 rfl hg7 (by decide) (fun hc29 => ?_) (fun hc29 => ?_)
        · exact (kJ34  (Or.inl hc29)).wk ⟨rfl, rfl, rfl, rfl, trivial⟩
        · replace hP := hP hc29
          refine im_ld (q := 46) (i := 0) D86_45 rfl rfl rfl ?_
          refine im_gfR (q := 49) (b := 14) D86_46 (im_fl cn_86 fl_5_9) sf_13 rfl rfl tR_5_0 rfl ?_
          refine im_ld (q := 50) (i := 3) D86_49 rfl rfl rfl ?_
          obtain ⟨hg30, hP⟩ := hP
          refine im_rng (j := p3) sf_14 hg30.1 hg30.2 (fun hr31 => ?_)
          refine im_iald (q := 51) D86_50 sf_14 hg30.1 hg30.2 (by decide) rfl ?_
          refine im_iconst (q := 52) D86_51 ?_
          refine im_icmp (q := 55) (t := 74) D86_52 rfl hr31 (by decide) (fun hc32 => ?_) (fun hc32 => ?_)
          · exact (kJ34  (Or.inr ⟨hc29, hc32⟩)).wk ⟨rfl, rfl, rfl, rfl, trivial⟩
          · replace hP := hP (Decidable.not_not.mp hc32)
            refine im_ld (q := 56) (i := 2) D86_55 rfl rfl rfl ?_
            refine im_ld (q := 58) (i := 4) D86_56 rfl rfl rfl ?_
            refine im_lconst (q := 59) (z := 0) D86_58 rfl ?_
            refine im_callV (q := 62) (kd := 1) (y := 89) (n := 2) (ci := 0) (a := p2) (vs := [.ref p2, vL x6, vL 0]) (r := []) (L2 := [some (.ref p2), some (vL x6), none, some (vL 0), none, none]) D86_59 (im_cal cn_86 cl_5_109) (Or.inl rfl) rfl hp2.1 rfl rfl rfl rfl hd ⟨rfl, rfl, rfl, trivial⟩ ?_
            refine hP.mono ?_
            rintro _ e44 M36 ⟨a37, rfl, rfl, hP⟩
            refine im_bkS ?_
            obtain ⟨hb38, hP⟩ := hP
            refine im_callV (q := 65) (kd := 1) (y := 64) (n := 0) (ci := 3) (a := a37) (vs := [.ref a37]) (r := []) (L2 := [some (.ref a37), none, none, none]) D86_62 (im_cal cn_86 cl_5_113) (Or.inl rfl) rfl hb38.1 rfl rfl rfl rfl hd ⟨rfl, trivial⟩ ?_
            refine hP.mono ?_
            rintro _ e43 M39 ⟨x40, rfl, rfl, hP⟩
            refine im_bkS ?_
            refine im_ldc2 (q := 68) (n := (-1)) D86_65 rfl ?_
            obtain ⟨hg41, hP⟩ := hP
            refine im_lif (q := 69) (q2 := 72) (t := 74) D86_68 D86_69 rfl hg41 (by decide) (fun hc42 => ?_) (fun hc42 => ?_)
            · replace hP := hP.1 hc42
              refine im_iinc (q := 77) (i := 3) (L' := [some (.ref 13), some (vI p1), some (.ref p2), some (vI (p3 + 1)), some (vL x6), none]) D86_74 rfl (Nat.le_of_ble_eq_true rfl) rfl ?_
              refine im_goto (q := 80) (t := 2) D86_77 rfl ?_
              exact hP.wk ⟨rfl, rfl, rfl, rfl, trivial⟩
            · replace hP := hP.2 (Decidable.not_not.mp hc42)
              refine im_iconst (q := 73) D86_72 ?_
              exact im_zret (q := 74) D86_73 rfl (by decide) hP
      · replace hP := hP.2 (Int.not_le.mp hc28)
        refine im_iconst (q := 37) D86_36 ?_
        exact im_zret (q := 38) D86_37 rfl (by decide) hP
set_option maxRecDepth 20000 in
set_option maxHeartbeats 4000000 in
theorem k_Pool_parameterAt_0 {g : im_g} {d : Nat} {e : im_E} {M : im_M} {K : im_K} {p1 : Int} (hP : (0 ≤ p1 ∧ p1 < 5000) ∧ ((∀ x8 : Int, (((¬ (M 14 p1) = 35) ∧ (¬ (M 14 p1) = 3) ∧ x8 = 0) ∨ ((¬ (M 14 p1) = 35) ∧ ((M 14 p1) = 3) ∧ x8 = (M 20 p1)) ∨ (((M 14 p1) = 35) ∧ x8 = (M 19 p1))) → K (.inl (some (vL x8))) e M))) : im_T g d 87 0 [some (.ref 13), some (vI p1)] [] e M K := by
  refine im_ld (q := 1) (i := 0) D87_0 rfl rfl rfl ?_
  refine im_gfR (q := 4) (b := 14) D87_1 (im_fl cn_87 fl_5_9) sf_13 rfl rfl tR_5_0 rfl ?_
  refine im_ld (q := 5) (i := 1) D87_4 rfl rfl rfl ?_
  obtain ⟨hg1, hP⟩ := hP
  refine im_rng (j := p1) sf_14 hg1.1 hg1.2 (fun hr2 => ?_)
  refine im_iald (q := 6) D87_5 sf_14 hg1.1 hg1.2 (by decide) rfl ?_
  refine im_bipush (q := 8) D87_6 rfl ?_
  have hJ9 := hP
  have kJ10 : ∀ x8 : Int, (((¬ (M 14 p1) = 35) ∧ (¬ (M 14 p1) = 3) ∧ x8 = 0) ∨ ((¬ (M 14 p1) = 35) ∧ ((M 14 p1) = 3) ∧ x8 = (M 20 p1)) ∨ (((M 14 p1) = 35) ∧ x8 = (M 19 p1))) → im_T g d 87 40 [none, none] [vL x8] e M K := by
    intro x8 hx11
    have hP := hJ9 x8 hx11
    exact im_lret (q := 41) D87_40 rfl hP
  refine im_icmp (q := 11) (t := 20) D87_8 rfl hr2 (by decide) (fun hc3 => ?_) (fun hc3 => ?_)
  · refine im_ld (q := 21) (i := 0) D87_20 rfl rfl rfl ?_
    refine im_gfR (q := 24) (b := 14) D87_21 (im_fl cn_87 fl_5_9) sf_13 rfl rfl tR_5_0 rfl ?_
    refine im_ld (q := 25) (i := 1) D87_24 rfl rfl rfl ?_
    refine im_iald (q := 26) D87_25 sf_14 hg1.1 hg1.2 (by decide) rfl ?_
    refine im_iconst (q := 27) D87_26 ?_
    refine im_icmp (q := 30) (t := 39) D87_27 rfl hr2 (by decide) (fun hc5 => ?_) (fun hc5 => ?_)
    · refine im_lconst (q := 40) (z := 0) D87_39 rfl ?_
      exact (kJ10 (0) (Or.inl ⟨hc3, hc5, rfl⟩)).wk trivial
    · refine im_ld (q := 31) (i := 0) D87_30 rfl rfl rfl ?_
      refine im_gfR (q := 34) (b := 20) D87_31 (im_fl cn_87 fl_5_31) sf_13 rfl rfl tR_5_6 rfl ?_
      refine im_ld (q := 35) (i := 1) D87_34 rfl rfl rfl ?_
      refine im_rng (j := p1) sf_20 hg1.1 hg1.2 (fun hr6 => ?_)
      refine im_lald (q := 36) D87_35 sf_20 hg1.1 hg1.2 (by decide) rfl ?_
      refine im_goto (q := 39) (t := 40) D87_36 rfl ?_
      exact (kJ10 ((M 20 p1)) (Or.inr (Or.inl ⟨hc3, (Decidable.not_not.mp hc5), rfl⟩))).wk trivial
  · refine im_ld (q := 12) (i := 0) D87_11 rfl rfl rfl ?_
    refine im_gfR (q := 15) (b := 19) D87_12 (im_fl cn_87 fl_5_27) sf_13 rfl rfl tR_5_5 rfl ?_
    refine im_ld (q := 16) (i := 1) D87_15 rfl rfl rfl ?_
    refine im_rng (j := p1) sf_19 hg1.1 hg1.2 (fun hr7 => ?_)
    refine im_lald (q := 17) D87_16 sf_19 hg1.1 hg1.2 (by decide) rfl ?_
    refine im_goto (q := 20) (t := 40) D87_17 rfl ?_
    exact (kJ10 ((M 19 p1)) (Or.inr (Or.inr ⟨(Decidable.not_not.mp hc3), rfl⟩))).wk trivial
set_option maxRecDepth 20000 in
set_option maxHeartbeats 4000000 in
theorem k_Book_find_0 {g : im_g} {d : Nat} {e : im_E} {M : im_M} {K : im_K} {p1 p3 : Int} {a0 na0 : Nat} (ha0 : im_book e a0 na0) (hP : im_T g d 88 3 [some (.ref a0), some (vL p1), none, some (vL p3), none, some (vI 0)] [] e M K) : im_T g d 88 0 [some (.ref a0), some (vL p1), none, some (vL p3), none, none] [] e M K := by
  refine im_iconst (q := 1) D88_0 ?_
  refine im_st1 (q := 3) (i := 5) (L' := [some (.ref a0), some (vL p1), none, some (vL p3), none, some (vI 0)]) D88_1 (Or.inr rfl) (Nat.le_of_ble_eq_true rfl) rfl ?_
  exact hP.wk ⟨rfl, rfl, rfl, rfl, trivial⟩
set_option maxRecDepth 20000 in
set_option maxHeartbeats 4000000 in
theorem k_Book_find_3 {g : im_g} {d : Nat} {e : im_E} {M : im_M} {K : im_K} {p1 p3 p5 : Int} {a0 na0 : Nat} (ha0 : im_book e a0 na0) (hP : (im_i32 p5) ∧ (((((M a0 4) ≤ p5 → K (.inl (some (vI ((-1) - (M a0 4))))) e M) ∧ (p5 < (M a0 4) → (0 ≤ p5 ∧ p5 < na0) ∧ (im_i64 p1) ∧ (((M (a0 + 3) p5) = p1 → (im_i64 p3) ∧ (((M (a0 + 4) p5) = p3 → K (.inl (some (vI p5))) e M))))))) ∧ ((((p5 < (M a0 4)) ∧ (¬ (M (a0 + 3) p5) = p1)) ∨ ((p5 < (M a0 4)) ∧ ((M (a0 + 3) p5) = p1) ∧ (¬ (M (a0 + 4) p5) = p3))) → (0 ≤ p5 ∧ p5 < na0) ∧ (im_i64 p1) ∧ (((((M (a0 + 3) p5) ≤ p1 → (((M (a0 + 3) p5) = p1 → (im_i64 p3)))))) ∧ ((((p1 < (M (a0 + 3) p5))) ∨ (((M (a0 + 3) p5) ≤ p1) ∧ ((M (a0 + 3) p5) = p1) ∧ (p3 < (M (a0 + 4) p5)))) → K (.inl (some (vI ((-1) - p5)))) e M) ∧ (((((M (a0 + 3) p5) ≤ p1) ∧ (¬ (M (a0 + 3) p5) = p1)) ∨ (((M (a0 + 3) p5) ≤ p1) ∧ ((M (a0 + 3) p5) = p1) ∧ ((M (a0 + 4) p5) ≤ p3))) → im_T g d 88 3 [some (.ref a0), some (vL p1), none, some (vL p3), none, some (vI (p5 + 1))] [] e M K))))) : im_T g d 88 3 [some (.ref a0), some (vL p1), none, some (vL p3), none, some (vI p5)] [] e M K := by
  refine im_ld (q := 5) (i := 5) D88_3 rfl rfl rfl ?_
  refine im_ld (q := 6) (i := 0) D88_5 rfl rfl rfl ?_
  refine im_rng (j := 4) ha0.1 (by decide) (show (4 : Int) < ((5 : Nat) : Int) by decide) (fun hr1 => ?_)
  refine im_gfI (q := 9) D88_6 (im_fl cn_88 fl_0_29) ha0.1 rfl rfl tI_0_4 rfl ?_
  obtain ⟨hg2, hP⟩ := hP
  obtain ⟨hP, hJ12⟩ := hP
  have kJ13 : (((p5 < (M a0 4)) ∧ (¬ (M (a0 + 3) p5) = p1)) ∨ ((p5 < (M a0 4)) ∧ ((M (a0 + 3) p5) = p1) ∧ (¬ (M (a0 + 4) p5) = p3))) → im_T g d 88 39 [some (.ref a0), some (vL p1), none, some (vL p3), none, some (vI p5)] [] e M K := by
    intro  hx14
    have hP := hJ12  hx14
    refine im_ld (q := 40) (i := 0) D88_39 rfl rfl rfl ?_
    refine im_gfR (q := 43) (b := (a0 + 3)) D88_40 (im_fl cn_88 fl_0_18) ha0.1 rfl rfl tR_0_0 rfl ?_
    refine im_ld (q := 45) (i := 5) D88_43 rfl rfl rfl ?_
    obtain ⟨hg15, hP⟩ := hP
    refine im_rng (j := p5) ha0.2.1 hg15.1 hg15.2 (fun hr16 => ?_)
    refine im_lald (q := 46) D88_45 ha0.2.1 hg15.1 hg15.2 (Nat.le_trans ha0.2.2.2.2.2 (by decide)) rfl ?_
    refine im_ld (q := 47) (i := 1) D88_46 rfl rfl rfl ?_
    obtain ⟨hg17, hP⟩ := hP
    obtain ⟨hP, hJ24, hJ27⟩ := hP
    have kJ25 : (((p1 < (M (a0 + 3) p5))) ∨ (((M (a0 + 3) p5) ≤ p1) ∧ ((M (a0 + 3) p5) = p1) ∧ (p3 < (M (a0 + 4) p5)))) → im_T g d 88 75 [none, none, none, none, none, some (vI p5)] [] e M K := by
      intro  hx26
      have hP := hJ24  hx26
      refine im_iconst (q := 76) D88_75 ?_
      refine im_ld (q := 78) (i := 5) D88_76 rfl rfl rfl ?_
      refine im_isub (q := 79) D88_78 ?_
      exact im_iret (q := 80) D88_79 rfl hP
    have kJ28 : ((((M (a0 + 3) p5) ≤ p1) ∧ (¬ (M (a0 + 3) p5) = p1)) ∨ (((M (a0 + 3) p5) ≤ p1) ∧ ((M (a0 + 3) p5) = p1) ∧ ((M (a0 + 4) p5) ≤ p3))) → im_T g d 88 80 [some (.ref a0), some (vL p1), none, some (vL p3), none, some (vI p5)] [] e M K := by
      intro  hx29
      have hP := hJ27  hx29
      refine im_iinc (q := 83) (i := 5) (L' := [some (.ref a0), some (vL p1), none, some (vL p3), none, some (vI (p5 + 1))]) D88_80 rfl (Nat.le_of_ble_eq_true rfl) rfl ?_
      refine im_goto (q := 86) (t := 3) D88_83 rfl ?_
      exact hP.wk ⟨rfl, rfl, rfl, rfl, trivial⟩
    refine im_lif (q := 48) (q2 := 51) (t := 75) D88_47 D88_48 rfl hr16 hg17 (fun hc18 => ?_) (fun hc18 => ?_)
    · exact (kJ25  (Or.inl hc18)).wk ⟨rfl, trivial⟩
    · replace hP := hP (Int.not_lt.mp hc18)
      refine im_ld (q := 52) (i := 0) D88_51 rfl rfl rfl ?_
      refine im_gfR (q := 55) (b := (a0 + 3)) D88_52 (im_fl cn_88 fl_0_18) ha0.1 rfl rfl tR_0_0 rfl ?_
      refine im_ld (q := 57) (i := 5) D88_55 rfl rfl rfl ?_
      refine im_lald (q := 58) D88_57 ha0.2.1 hg15.1 hg15.2 (Nat.le_trans ha0.2.2.2.2.2 (by decide)) rfl ?_
      refine im_ld (q := 59) (i := 1) D88_58 rfl rfl rfl ?_
      refine im_lif (q := 60) (q2 := 63) (t := 80) D88_59 D88_60 rfl hr16 hg17 (fun hc20 => ?_) (fun hc20 => ?_)
      · exact (kJ28  (Or.inl ⟨(Int.not_lt.mp hc18), hc20⟩)).wk ⟨rfl, rfl, rfl, rfl, trivial⟩
      · replace hP := hP (Decidable.not_not.mp hc20)
        refine im_ld (q := 64) (i := 0) D88_63 rfl rfl rfl ?_
        refine im_gfR (q := 67) (b := (a0 + 4)) D88_64 (im_fl cn_88 fl_0_22) ha0.1 rfl rfl tR_0_1 rfl ?_
        refine im_ld (q := 69) (i := 5) D88_67 rfl rfl rfl ?_
        refine im_rng (j := p5) ha0.2.2.1 hg15.1 hg15.2 (fun hr21 => ?_)
        refine im_lald (q := 70) D88_69 ha0.2.2.1 hg15.1 hg15.2 (Nat.le_trans ha0.2.2.2.2.2 (by decide)) rfl ?_
        refine im_ld (q := 71) (i := 3) D88_70 rfl rfl rfl ?_
        have hg22 := hP
        refine im_lif (q := 72) (q2 := 75) (t := 80) D88_71 D88_72 rfl hr21 hg22 (fun hc23 => ?_) (fun hc23 => ?_)
        · exact (kJ28  (Or.inr ⟨(Int.not_lt.mp hc18), (Decidable.not_not.mp hc20), hc23⟩)).wk ⟨rfl, rfl, rfl, rfl, trivial⟩
        · exact (kJ25  (Or.inr ⟨(Int.not_lt.mp hc18), (Decidable.not_not.mp hc20), (Int.not_le.mp hc23)⟩)).wk ⟨rfl, trivial⟩
  refine im_icmp (q := 12) (t := 86) D88_9 rfl hg2 hr1 (fun hc3 => ?_) (fun hc3 => ?_)
  · replace hP := hP.1 hc3
    refine im_iconst (q := 87) D88_86 ?_
    refine im_ld (q := 88) (i := 0) D88_87 rfl rfl rfl ?_
    refine im_gfI (q := 91) D88_88 (im_fl cn_88 fl_0_29) ha0.1 rfl rfl tI_0_4 rfl ?_
    refine im_isub (q := 92) D88_91 ?_
    exact im_iret (q := 93) D88_92 rfl hP
  · replace hP := hP.2 (Int.not_le.mp hc3)
    refine im_ld (q := 13) (i := 0) D88_12 rfl rfl rfl ?_
    refine im_gfR (q := 16) (b := (a0 + 3)) D88_13 (im_fl cn_88 fl_0_18) ha0.1 rfl rfl tR_0_0 rfl ?_
    refine im_ld (q := 18) (i := 5) D88_16 rfl rfl rfl ?_
    obtain ⟨hg5, hP⟩ := hP
    refine im_rng (j := p5) ha0.2.1 hg5.1 hg5.2 (fun hr6 => ?_)
    refine im_lald (q := 19) D88_18 ha0.2.1 hg5.1 hg5.2 (Nat.le_trans ha0.2.2.2.2.2 (by decide)) rfl ?_
    refine im_ld (q := 20) (i := 1) D88_19 rfl rfl rfl ?_
    obtain ⟨hg7, hP⟩ := hP
    refine im_lif (q := 21) (q2 := 24) (t := 39) D88_20 D88_21 rfl hr6 hg7 (fun hc8 => ?_) (fun hc8 => ?_)
    · exact (kJ13  (Or.inl ⟨(Int.not_le.mp hc3), hc8⟩)).wk ⟨rfl, rfl, rfl, rfl, trivial⟩
    · replace hP := hP (Decidable.not_not.mp hc8)
      refine im_ld (q := 25) (i := 0) D88_24 rfl rfl rfl ?_
      refine im_gfR (q := 28) (b := (a0 + 4)) D88_25 (im_fl cn_88 fl_0_22) ha0.1 rfl rfl tR_0_1 rfl ?_
      refine im_ld (q := 30) (i := 5) D88_28 rfl rfl rfl ?_
      refine im_rng (j := p5) ha0.2.2.1 hg5.1 hg5.2 (fun hr9 => ?_)
      refine im_lald (q := 31) D88_30 ha0.2.2.1 hg5.1 hg5.2 (Nat.le_trans ha0.2.2.2.2.2 (by decide)) rfl ?_
      refine im_ld (q := 32) (i := 3) D88_31 rfl rfl rfl ?_
      obtain ⟨hg10, hP⟩ := hP
      refine im_lif (q := 33) (q2 := 36) (t := 39) D88_32 D88_33 rfl hr9 hg10 (fun hc11 => ?_) (fun hc11 => ?_)
      · exact (kJ13  (Or.inr ⟨(Int.not_le.mp hc3), (Decidable.not_not.mp hc8), hc11⟩)).wk ⟨rfl, rfl, rfl, rfl, trivial⟩
      · replace hP := hP (Decidable.not_not.mp hc11)
        refine im_ld (q := 38) (i := 5) D88_36 rfl rfl rfl ?_
        exact im_iret (q := 39) D88_38 rfl hP
set_option maxRecDepth 20000 in
set_option maxHeartbeats 4000000 in
theorem k_Book_held_0 {g : im_g} {d : Nat} {e : im_E} {M : im_M} {K : im_K} {p1 p3 : Int} {a0 na0 : Nat} (ha0 : im_book e a0 na0) (hd : 1 ≤ d) (hP : im_T g (d - 1) 88 0 [some (.ref a0), some (vL p1), none, some (vL p3), none, none] [] e M (im_ri (fun x2 e_ M1 => e = e_ ∧ (im_i32 x2) ∧ ((0 ≤ x2 → (0 ≤ x2 ∧ x2 < na0) ∧ ∃ b6 : Nat, ((M1 (a0 + 5) x2) = (b6 : Int)) ∧ (im_num e b6) ∧ K (.inl (some (.ref b6))) e M1) ∧ (x2 < 0 → K (.inl (some (.ref (a0 + 1)))) e M1))))) : im_T g d 89 0 [some (.ref a0), some (vL p1), none, some (vL p3), none, none] [] e M K := by
  refine im_ld (q := 1) (i := 0) D89_0 rfl rfl rfl ?_
  refine im_ld (q := 2) (i := 1) D89_1 rfl rfl rfl ?_
  refine im_ld (q := 3) (i := 3) D89_2 rfl rfl rfl ?_
  refine im_callV (q := 6) (kd := 1) (y := 88) (n := 2) (ci := 0) (a := a0) (vs := [.ref a0, vL p1, vL p3]) (r := []) (L2 := [some (.ref a0), some (vL p1), none, some (vL p3), none, none]) D89_3 (im_cal cn_89 cl_0_43) (Or.inl rfl) rfl ha0.1 rfl rfl rfl rfl hd ⟨rfl, rfl, rfl, trivial⟩ ?_
  refine hP.mono ?_
  rintro _ e9 M1 ⟨x2, rfl, rfl, hP⟩
  refine im_bkS ?_
  refine im_st1 (q := 8) (i := 5) (L' := [some (.ref a0), some (vL p1), none, some (vL p3), none, some (vI x2)]) D89_6 (Or.inr rfl) (Nat.le_of_ble_eq_true rfl) rfl ?_
  refine im_ld (q := 10) (i := 5) D89_8 rfl rfl rfl ?_
  obtain ⟨hg3, hP⟩ := hP
  refine im_ifc (q := 13) (t := 20) D89_10 rfl hg3 (fun hc4 => ?_) (fun hc4 => ?_)
  · replace hP := hP.1 hc4
    refine im_ld (q := 21) (i := 0) D89_20 rfl rfl rfl ?_
    refine im_gfR (q := 24) (b := (a0 + 5)) D89_21 (im_fl cn_89 fl_0_25) ha0.1 rfl rfl tR_0_2 rfl ?_
    refine im_ld (q := 26) (i := 5) D89_24 rfl rfl rfl ?_
    obtain ⟨hg5, hP⟩ := hP
    obtain ⟨b6, hb7, hP⟩ := hP
    obtain ⟨hb8, hP⟩ := hP
    refine im_aald (q := 27) D89_26 ha0.2.2.2.1 (Or.inl rfl) hg5.1 hg5.2 (Nat.le_trans ha0.2.2.2.2.2 (by decide)) hb7 ?_
    exact im_aret (q := 28) D89_27 rfl hP
  · replace hP := hP.2 (Int.not_le.mp hc4)
    refine im_ld (q := 14) (i := 0) D89_13 rfl rfl rfl ?_
    refine im_gfR (q := 17) (b := (a0 + 1)) D89_14 (im_fl cn_89 fl_0_12) ha0.1 rfl rfl tR_0_3 rfl ?_
    refine im_goto (q := 20) (t := 27) D89_17 rfl ?_
    exact im_aret (q := 28) D89_27 rfl hP
set_option maxRecDepth 20000 in
set_option maxHeartbeats 4000000 in
theorem k_State_restart_0 {g : im_g} {d : Nat} {e : im_E} {M : im_M} {K : im_K} {p1 p2 : Int} {a0 : Nat} (ha0 : im_state e a0) (hP : (im_i64 p2) ∧ (im_i32 p1) ∧ K (.inl none) e (im_u (im_u (im_u (im_u (im_u (im_u M (a0 + 1) 4 0) (a0 + 87) 4 0) (a0 + 173) 4 0) a0 4 p2) a0 5 p1) a0 6 1)) : im_T g d 90 0 [some (.ref a0), some (vI p1), some (vL p2), none] [] e M K := by
  refine im_ld (q := 1) (i := 0) D90_0 rfl rfl rfl ?_
  refine im_gfR (q := 4) (b := (a0 + 1)) D90_1 (im_fl cn_90 fl_9_14) ha0.1 rfl rfl tR_9_0 rfl ?_
  refine im_iconst (q := 5) D90_4 ?_
  refine im_pfI (q := 8) D90_5 (im_fl cn_90 fl_9_29) ha0.2.1.1 rfl rfl ti_0_4 (by decide) ?_
  refine im_ld (q := 9) (i := 0) D90_8 rfl rfl rfl ?_
  refine im_gfR (q := 12) (b := (a0 + 87)) D90_9 (im_fl cn_90 fl_9_20) ha0.1 rfl rfl tR_9_1 rfl ?_
  refine im_iconst (q := 13) D90_12 ?_
  refine im_pfI (q := 16) D90_13 (im_fl cn_90 fl_9_29) ha0.2.2.1.1 rfl rfl ti_0_4 (by decide) ?_
  refine im_ld (q := 17) (i := 0) D90_16 rfl rfl rfl ?_
  refine im_gfR (q := 20) (b := (a0 + 173)) D90_17 (im_fl cn_90 fl_9_23) ha0.1 rfl rfl tR_9_2 rfl ?_
  refine im_iconst (q := 21) D90_20 ?_
  refine im_pfI (q := 24) D90_21 (im_fl cn_90 fl_9_29) ha0.2.2.2.1 rfl rfl ti_0_4 (by decide) ?_
  refine im_ld (q := 25) (i := 0) D90_24 rfl rfl rfl ?_
  refine im_ld (q := 26) (i := 2) D90_25 rfl rfl rfl ?_
  obtain ⟨hg1, hP⟩ := hP
  refine im_pfL (q := 29) D90_26 (im_fl cn_90 fl_9_33) ha0.1 rfl rfl tl_9_4 hg1 ?_
  refine im_ld (q := 30) (i := 0) D90_29 rfl rfl rfl ?_
  refine im_ld (q := 31) (i := 1) D90_30 rfl rfl rfl ?_
  obtain ⟨hg2, hP⟩ := hP
  refine im_pfI (q := 34) D90_31 (im_fl cn_90 fl_9_37) ha0.1 rfl rfl ti_9_5 hg2 ?_
  refine im_ld (q := 35) (i := 0) D90_34 rfl rfl rfl ?_
  refine im_iconst (q := 36) D90_35 ?_
  refine im_pfZ (q := 39) D90_36 (im_fl cn_90 fl_9_40) ha0.1 rfl rfl tz_9_6 (by decide) ?_
  exact im_vret (q := 40) D90_39 rfl hP
set_option maxRecDepth 20000 in
set_option maxHeartbeats 4000000 in
theorem k_Book_copy_0 {g : im_g} {d : Nat} {e : im_E} {M : im_M} {K : im_K} {a0 na0 : Nat} (ha0 : im_book e a0 na0) {p1 np1 : Nat} (hp1 : im_book e p1 np1) (hP : (im_i32 na0) ∧ im_T g d 91 18 [some (.ref a0), some (.ref p1), some (vI 0)] [] e (im_u M a0 4 (min (M p1 4) na0)) K) : im_T g d 91 0 [some (.ref a0), some (.ref p1), none] [] e M K := by
  refine im_ld (q := 1) (i := 0) D91_0 rfl rfl rfl ?_
  refine im_ld (q := 2) (i := 1) D91_1 rfl rfl rfl ?_
  refine im_rng (j := 4) hp1.1 (by decide) (show (4 : Int) < ((5 : Nat) : Int) by decide) (fun hr1 => ?_)
  refine im_gfI (q := 5) D91_2 (im_fl cn_91 fl_0_29) hp1.1 rfl rfl tI_0_4 rfl ?_
  refine im_ld (q := 6) (i := 0) D91_5 rfl rfl rfl ?_
  refine im_gfR (q := 9) (b := (a0 + 5)) D91_6 (im_fl cn_91 fl_0_25) ha0.1 rfl rfl tR_0_2 rfl ?_
  refine im_alen (q := 10) D91_9 ha0.2.2.2.1 (by decide) ?_
  obtain ⟨hg2, hP⟩ := hP
  refine im_imin (q := 13) D91_10 rfl hr1 hg2 rfl ?_
  refine im_pfI (q := 16) D91_13 (im_fl cn_91 fl_0_29) ha0.1 rfl rfl ti_0_4 (im_minr hr1 hg2) ?_
  refine im_iconst (q := 17) D91_16 ?_
  refine im_st1 (q := 18) (i := 2) (L' := [some (.ref a0), some (.ref p1), some (vI 0)]) D91_17 (Or.inl ⟨_, rfl, rfl⟩) (Nat.le_of_ble_eq_true rfl) rfl ?_
  exact hP.wk ⟨rfl, rfl, rfl, trivial⟩
set_option maxRecDepth 20000 in
set_option maxHeartbeats 4000000 in
theorem k_Book_copy_18 {g : im_g} {d : Nat} {e : im_E} {M : im_M} {K : im_K} {p2 : Int} {a0 na0 : Nat} (ha0 : im_book e a0 na0) {p1 np1 : Nat} (hp1 : im_book e p1 np1) (hd : 1 ≤ d) (hP : (im_i32 p2) ∧ (((M a0 4) ≤ p2 → K (.inl none) e M) ∧ (p2 < (M a0 4) → (0 ≤ p2 ∧ p2 < np1) ∧ (0 ≤ p2 ∧ p2 < na0) ∧ ∃ b8 : Nat, (((im_u (im_u M (a0 + 3) p2 (M (p1 + 3) p2)) (a0 + 4) p2 ((im_u M (a0 + 3) p2 (M (p1 + 3) p2)) (p1 + 4) p2)) (a0 + 5) p2) = (b8 : Int)) ∧ (im_num e b8) ∧ ∃ b11 : Nat, (((im_u (im_u M (a0 + 3) p2 (M (p1 + 3) p2)) (a0 + 4) p2 ((im_u M (a0 + 3) p2 (M (p1 + 3) p2)) (p1 + 4) p2)) (p1 + 5) p2) = (b11 : Int)) ∧ (im_num e b11) ∧ im_T g (d - 1) 66 0 [some (.ref b8), some (.ref b11), none] [] e (im_u (im_u M (a0 + 3) p2 (M (p1 + 3) p2)) (a0 + 4) p2 ((im_u M (a0 + 3) p2 (M (p1 + 3) p2)) (p1 + 4) p2)) (im_r0 (fun  e_ M14 => e = e_ ∧ im_T g d 91 18 [some (.ref a0), some (.ref p1), some (vI (p2 + 1))] [] e M14 K))))) : im_T g d 91 18 [some (.ref a0), some (.ref p1), some (vI p2)] [] e M K := by
  refine im_ld (q := 19) (i := 2) D91_18 rfl rfl rfl ?_
  refine im_ld (q := 20) (i := 0) D91_19 rfl rfl rfl ?_
  refine im_rng (j := 4) ha0.1 (by decide) (show (4 : Int) < ((5 : Nat) : Int) by decide) (fun hr1 => ?_)
  refine im_gfI (q := 23) D91_20 (im_fl cn_91 fl_0_29) ha0.1 rfl rfl tI_0_4 rfl ?_
  obtain ⟨hg2, hP⟩ := hP
  refine im_icmp (q := 26) (t := 71) D91_23 rfl hg2 hr1 (fun hc3 => ?_) (fun hc3 => ?_)
  · replace hP := hP.1 hc3
    exact im_vret (q := 72) D91_71 rfl hP
  · replace hP := hP.2 (Int.not_le.mp hc3)
    refine im_ld (q := 27) (i := 0) D91_26 rfl rfl rfl ?_
    refine im_gfR (q := 30) (b := (a0 + 3)) D91_27 (im_fl cn_91 fl_0_18) ha0.1 rfl rfl tR_0_0 rfl ?_
    refine im_ld (q := 31) (i := 2) D91_30 rfl rfl rfl ?_
    refine im_ld (q := 32) (i := 1) D91_31 rfl rfl rfl ?_
    refine im_gfR (q := 35) (b := (p1 + 3)) D91_32 (im_fl cn_91 fl_0_18) hp1.1 rfl rfl tR_0_0 rfl ?_
    refine im_ld (q := 36) (i := 2) D91_35 rfl rfl rfl ?_
    obtain ⟨hg4, hP⟩ := hP
    refine im_rng (j := p2) hp1.2.1 hg4.1 hg4.2 (fun hr5 => ?_)
    refine im_lald (q := 37) D91_36 hp1.2.1 hg4.1 hg4.2 (Nat.le_trans hp1.2.2.2.2.2 (by decide)) rfl ?_
    obtain ⟨hg6, hP⟩ := hP
    refine im_last (q := 38) D91_37 ha0.2.1 hg6.1 hg6.2 (Nat.le_trans ha0.2.2.2.2.2 (by decide)) hr5 ?_
    refine im_ld (q := 39) (i := 0) D91_38 rfl rfl rfl ?_
    refine im_gfR (q := 42) (b := (a0 + 4)) D91_39 (im_fl cn_91 fl_0_22) ha0.1 rfl rfl tR_0_1 rfl ?_
    refine im_ld (q := 43) (i := 2) D91_42 rfl rfl rfl ?_
    refine im_ld (q := 44) (i := 1) D91_43 rfl rfl rfl ?_
    refine im_gfR (q := 47) (b := (p1 + 4)) D91_44 (im_fl cn_91 fl_0_22) hp1.1 rfl rfl tR_0_1 rfl ?_
    refine im_ld (q := 48) (i := 2) D91_47 rfl rfl rfl ?_
    refine im_rng (j := p2) hp1.2.2.1 hg4.1 hg4.2 (fun hr7 => ?_)
    refine im_lald (q := 49) D91_48 hp1.2.2.1 hg4.1 hg4.2 (Nat.le_trans hp1.2.2.2.2.2 (by decide)) rfl ?_
    refine im_last (q := 50) D91_49 ha0.2.2.1 hg6.1 hg6.2 (Nat.le_trans ha0.2.2.2.2.2 (by decide)) hr7 ?_
    refine im_ld (q := 51) (i := 0) D91_50 rfl rfl rfl ?_
    refine im_gfR (q := 54) (b := (a0 + 5)) D91_51 (im_fl cn_91 fl_0_25) ha0.1 rfl rfl tR_0_2 rfl ?_
    refine im_ld (q := 55) (i := 2) D91_54 rfl rfl rfl ?_
    obtain ⟨b8, hb9, hP⟩ := hP
    obtain ⟨hb10, hP⟩ := hP
    refine im_aald (q := 56) D91_55 ha0.2.2.2.1 (Or.inl rfl) hg6.1 hg6.2 (Nat.le_trans ha0.2.2.2.2.2 (by decide)) hb9 ?_
    refine im_ld (q := 57) (i := 1) D91_56 rfl rfl rfl ?_
    refine im_gfR (q := 60) (b := (p1 + 5)) D91_57 (im_fl cn_91 fl_0_25) hp1.1 rfl rfl tR_0_2 rfl ?_
    refine im_ld (q := 61) (i := 2) D91_60 rfl rfl rfl ?_
    obtain ⟨b11, hb12, hP⟩ := hP
    obtain ⟨hb13, hP⟩ := hP
    refine im_aald (q := 62) D91_61 hp1.2.2.2.1 (Or.inl rfl) hg4.1 hg4.2 (Nat.le_trans hp1.2.2.2.2.2 (by decide)) hb12 ?_
    refine im_callV (q := 65) (kd := 1) (y := 66) (n := 1) (ci := 3) (a := b8) (vs := [.ref b8, .ref b11]) (r := []) (L2 := [some (.ref b8), some (.ref b11), none]) D91_62 (im_cal cn_91 cl_0_39) (Or.inl rfl) rfl hb10.1 rfl rfl rfl rfl hd ⟨rfl, rfl, trivial⟩ ?_
    refine hP.mono ?_
    rintro _ e15 M14 ⟨rfl, rfl, hP⟩
    refine im_bkN ?_
    refine im_iinc (q := 68) (i := 2) (L' := [some (.ref a0), some (.ref p1), some (vI (p2 + 1))]) D91_65 rfl (Nat.le_of_ble_eq_true rfl) rfl ?_
    refine im_goto (q := 71) (t := 18) D91_68 rfl ?_
    exact hP.wk ⟨rfl, rfl, rfl, trivial⟩
set_option maxRecDepth 20000 in
set_option maxHeartbeats 4000000 in
theorem k_P_endInstance_0 {g : im_g} {d : Nat} {e : im_E} {M : im_M} {K : im_K} {p1 : Int} (hd : 1 ≤ d) (hP : (im_i64 p1) ∧ ((((0 ≤ p1 → ((p1 < 16 → (0 ≤ p1 ∧ p1 < 16) ∧ ∃ b8 : Nat, ((M 29 p1) = (b8 : Int)) ∧ (im_state e b8) ∧ (((M b8 6) = 0 → K (.inl (some (vI (-103)))) e M) ∧ (¬ (M b8 6) = 0 → im_T g (d - 1) 93 0 [some (.ref 0), some (.ref b8)] [] e M (im_ri (fun x14 e_ M13 => e = e_ ∧ (im_i32 x14) ∧ ((¬ x14 = 0 → im_T g (d - 1) 77 0 [some (.ref 0), some (vI 4), some (vL p1), none, some (vL 0), none, some (vL 0), none, some (vI 0)] [] e M13 (im_ri (fun x18 e_ M17 => e = e_ ∧ (im_i32 x18) ∧ ((¬ x18 = 0 → K (.inl (some (vI x18))) e M17) ∧ (x18 = 0 → K (.inl (some (vI x18))) e (im_u M17 b8 6 0)))))) ∧ (x14 = 0 → K (.inl (some (vI (-103)))) e M13))))))))))) ∧ ((((p1 < 0)) ∨ ((0 ≤ p1) ∧ (16 ≤ p1))) → K (.inl (some (vI (-101)))) e M))) : im_T g d 92 0 [some (.ref 0), some (vL p1), none, none, none] [] e M K := by
  refine im_ld (q := 1) (i := 1) D92_0 rfl rfl rfl ?_
  refine im_lconst (q := 2) (z := 0) D92_1 rfl ?_
  obtain ⟨hg1, hP⟩ := hP
  obtain ⟨hP, hJ4⟩ := hP
  have kJ5 : (((p1 < 0)) ∨ ((0 ≤ p1) ∧ (16 ≤ p1))) → im_T g d 92 14 [none, none, none, none, none] [] e M K := by
    intro  hx6
    have hP := hJ4  hx6
    refine im_bipush (q := 16) D92_14 rfl ?_
    exact im_iret (q := 17) D92_16 rfl hP
  refine im_lif (q := 3) (q2 := 6) (t := 14) D92_2 D92_3 rfl hg1 (by decide) (fun hc2 => ?_) (fun hc2 => ?_)
  · exact (kJ5  (Or.inl hc2)).wk trivial
  · replace hP := hP (Int.not_lt.mp hc2)
    refine im_ld (q := 7) (i := 1) D92_6 rfl rfl rfl ?_
    refine im_ldc2 (q := 10) (n := 16) D92_7 rfl ?_
    refine im_lif (q := 11) (q2 := 14) (t := 17) D92_10 D92_11 rfl hg1 (by decide) (fun hc3 => ?_) (fun hc3 => ?_)
    · replace hP := hP hc3
      refine im_ld (q := 18) (i := 0) D92_17 rfl rfl rfl ?_
      refine im_gfR (q := 21) (b := 29) D92_18 (im_fl cn_92 fl_11_55) sf_0 rfl rfl tR_11_7 rfl ?_
      refine im_ld (q := 22) (i := 1) D92_21 rfl rfl rfl ?_
      refine im_l2i (q := 23) D92_22 ?_
      obtain ⟨hg7, hP⟩ := hP
      obtain ⟨b8, hb9, hP⟩ := hP
      obtain ⟨hb10, hP⟩ := hP
      refine im_aald (q := 24) D92_23 sf_29 (Or.inr rfl) hg7.1 hg7.2 (by decide) hb9 ?_
      refine im_stR (q := 25) (i := 3) (L' := [some (.ref 0), some (vL p1), none, some (.ref b8), none]) D92_24 (Or.inl ⟨_, rfl, rfl⟩) (Nat.le_of_ble_eq_true rfl) rfl ?_
      refine im_ld (q := 26) (i := 3) D92_25 rfl rfl rfl ?_
      refine im_rng (j := 6) hb10.1 (by decide) (show (6 : Int) < ((7 : Nat) : Int) by decide) (fun hr11 => ?_)
      refine im_gfI (q := 29) D92_26 (im_fl cn_92 fl_11_290) hb10.1 rfl rfl tI_9_6 rfl ?_
      refine im_ifc (q := 32) (t := 40) D92_29 rfl (im_z32 hr11) (fun hc12 => ?_) (fun hc12 => ?_)
      · replace hP := hP.1 hc12
        refine im_bipush (q := 42) D92_40 rfl ?_
        exact im_iret (q := 43) D92_42 rfl hP
      · replace hP := hP.2 hc12
        refine im_ld (q := 33) (i := 0) D92_32 rfl rfl rfl ?_
        refine im_ld (q := 34) (i := 3) D92_33 rfl rfl rfl ?_
        refine im_callV (q := 37) (kd := 1) (y := 93) (n := 1) (ci := 11) (a := 0) (vs := [.ref 0, .ref b8]) (r := []) (L2 := [some (.ref 0), some (.ref b8)]) D92_34 (im_cal cn_92 cl_11_263) (Or.inl rfl) rfl sf_0 rfl rfl rfl rfl hd ⟨rfl, rfl, trivial⟩ ?_
        refine hP.mono ?_
        rintro _ e22 M13 ⟨x14, rfl, rfl, hP⟩
        refine im_bkS ?_
        obtain ⟨hg15, hP⟩ := hP
        refine im_ifc (q := 40) (t := 43) D92_37 rfl hg15 (fun hc16 => ?_) (fun hc16 => ?_)
        · replace hP := hP.1 hc16
          refine im_ld (q := 44) (i := 0) D92_43 rfl rfl rfl ?_
          refine im_iconst (q := 45) D92_44 ?_
          refine im_ld (q := 46) (i := 1) D92_45 rfl rfl rfl ?_
          refine im_lconst (q := 47) (z := 0) D92_46 rfl ?_
          refine im_lconst (q := 48) (z := 0) D92_47 rfl ?_
          refine im_iconst (q := 49) D92_48 ?_
          refine im_callV (q := 52) (kd := 1) (y := 77) (n := 5) (ci := 11) (a := 0) (vs := [.ref 0, vI 4, vL p1, vL 0, vL 0, vI 0]) (r := []) (L2 := [some (.ref 0), some (vI 4), some (vL p1), none, some (vL 0), none, some (vL 0), none, some (vI 0)]) D92_49 (im_cal cn_92 cl_11_228) (Or.inl rfl) rfl sf_0 rfl rfl rfl rfl hd ⟨rfl, rfl, rfl, rfl, rfl, rfl, trivial⟩ ?_
          refine hP.mono ?_
          rintro _ e21 M17 ⟨x18, rfl, rfl, hP⟩
          refine im_bkS ?_
          refine im_st1 (q := 54) (i := 4) (L' := [some (.ref 0), some (vL p1), none, some (.ref b8), some (vI x18)]) D92_52 (Or.inr rfl) (Nat.le_of_ble_eq_true rfl) rfl ?_
          refine im_ld (q := 56) (i := 4) D92_54 rfl rfl rfl ?_
          obtain ⟨hg19, hP⟩ := hP
          refine im_ifc (q := 59) (t := 64) D92_56 rfl hg19 (fun hc20 => ?_) (fun hc20 => ?_)
          · replace hP := hP.1 hc20
            refine im_ld (q := 66) (i := 4) D92_64 rfl rfl rfl ?_
            exact im_iret (q := 67) D92_66 rfl hP
          · replace hP := hP.2 (Decidable.not_not.mp hc20)
            refine im_ld (q := 60) (i := 3) D92_59 rfl rfl rfl ?_
            refine im_iconst (q := 61) D92_60 ?_
            refine im_pfZ (q := 64) D92_61 (im_fl cn_92 fl_11_290) hb10.1 rfl rfl tz_9_6 (by decide) ?_
            refine im_ld (q := 66) (i := 4) D92_64 rfl rfl rfl ?_
            exact im_iret (q := 67) D92_66 rfl hP
        · replace hP := hP.2 (Decidable.not_not.mp hc16)
          refine im_bipush (q := 42) D92_40 rfl ?_
          exact im_iret (q := 43) D92_42 rfl hP
    · exact (kJ5  (Or.inr ⟨(Int.not_lt.mp hc2), (Int.not_lt.mp hc3)⟩)).wk trivial
set_option maxRecDepth 20000 in
set_option maxHeartbeats 4000000 in
theorem k_P_isOver_0 {g : im_g} {d : Nat} {e : im_E} {M : im_M} {K : im_K} {p1 : Nat} (hp1 : im_state e p1) (hP : (0 ≤ (M p1 5) ∧ (M p1 5) < 5000) ∧ (((((M 14 (M p1 5)) = 0 → (((M (p1 + 1) 4) = 0 → K (.inl (some (vI 1))) e M))))) ∧ ((((¬ (M 14 (M p1 5)) = 0)) ∨ (((M 14 (M p1 5)) = 0) ∧ (¬ (M (p1 + 1) 4) = 0))) → K (.inl (some (vI 0))) e M))) : im_T g d 93 0 [some (.ref 0), some (.ref p1)] [] e M K := by
  refine im_ld (q := 1) (i := 0) D93_0 rfl rfl rfl ?_
  refine im_gfR (q := 4) (b := 13) D93_1 (im_fl cn_93 fl_11_36) sf_0 rfl rfl tR_11_4 rfl ?_
  refine im_gfR (q := 7) (b := 14) D93_4 (im_fl cn_93 fl_11_293) sf_13 rfl rfl tR_5_0 rfl ?_
  refine im_ld (q := 8) (i := 1) D93_7 rfl rfl rfl ?_
  refine im_rng (j := 5) hp1.1 (by decide) (show (5 : Int) < ((7 : Nat) : Int) by decide) (fun hr1 => ?_)
  refine im_gfI (q := 11) D93_8 (im_fl cn_93 fl_11_256) hp1.1 rfl rfl tI_9_5 rfl ?_
  obtain ⟨hg2, hP⟩ := hP
  refine im_rng (j := (M p1 5)) sf_14 hg2.1 hg2.2 (fun hr3 => ?_)
  refine im_iald (q := 12) D93_11 sf_14 hg2.1 hg2.2 (by decide) rfl ?_
  obtain ⟨hP, hJ7⟩ := hP
  have kJ8 : (((¬ (M 14 (M p1 5)) = 0)) ∨ (((M 14 (M p1 5)) = 0) ∧ (¬ (M (p1 + 1) 4) = 0))) → im_T g d 93 29 [none, none] [] e M K := by
    intro  hx9
    have hP := hJ7  hx9
    refine im_iconst (q := 30) D93_29 ?_
    exact im_zret (q := 31) D93_30 rfl (by decide) hP
  refine im_ifc (q := 15) (t := 29) D93_12 rfl hr3 (fun hc4 => ?_) (fun hc4 => ?_)
  · exact (kJ8  (Or.inl hc4)).wk trivial
  · replace hP := hP (Decidable.not_not.mp hc4)
    refine im_ld (q := 16) (i := 1) D93_15 rfl rfl rfl ?_
    refine im_gfR (q := 19) (b := (p1 + 1)) D93_16 (im_fl cn_93 fl_11_296) hp1.1 rfl rfl tR_9_0 rfl ?_
    refine im_rng (j := 4) hp1.2.1.1 (by decide) (show (4 : Int) < ((5 : Nat) : Int) by decide) (fun hr5 => ?_)
    refine im_gfI (q := 22) D93_19 (im_fl cn_93 fl_11_271) hp1.2.1.1 rfl rfl tI_0_4 rfl ?_
    refine im_ifc (q := 25) (t := 29) D93_22 rfl hr5 (fun hc6 => ?_) (fun hc6 => ?_)
    · exact (kJ8  (Or.inr ⟨(Decidable.not_not.mp hc4), hc6⟩)).wk trivial
    · replace hP := hP (Decidable.not_not.mp hc6)
      refine im_iconst (q := 26) D93_25 ?_
      refine im_goto (q := 29) (t := 30) D93_26 rfl ?_
      exact im_zret (q := 31) D93_30 rfl (by decide) hP
set_option maxRecDepth 20000 in
set_option maxHeartbeats 4000000 in
theorem k_P_mintText_0 {g : im_g} {d : Nat} {e : im_E} {M : im_M} {K : im_K} {p1 p3 p5 : Int} (hd : 1 ≤ d) (hP : im_T g (d - 1) 95 0 [some (.ref 2), some (vL p1), none, none, none, none] [] e M (im_ri (fun x2 e_ M1 => e = e_ ∧ (im_i32 x2) ∧ ((x2 = 0 → K (.inl (some (vI (-102)))) e M1) ∧ (¬ x2 = 0 → im_T g (d - 1) 95 0 [some (.ref 2), some (vL p3), none, none, none, none] [] e M1 (im_ri (fun x6 e_ M5 => e = e_ ∧ (im_i32 x6) ∧ ((¬ x6 = 0 → im_T g (d - 1) 96 0 [some (.ref 2), some (.ref 1), some (vI p5)] [] e M5 (im_ri (fun x10 e_ M9 => e = e_ ∧ im_T g (d - 1) 76 0 [some (.ref 2), some (vI x10)] [] e M9 (im_ri (fun x12 e_ M11 => e = e_ ∧ (im_i32 x12) ∧ ((x12 = 0 → ((0 < (M11 5 0) → im_T g (d - 1) 89 0 [some (.ref 202), some (vL p3), none, some (vL 0), none, none] [] e M11 (im_rr (fun a18 e_ M17 => e = e_ ∧ im_num e a18 ∧ im_T g (d - 1) 66 0 [some (.ref 2070), some (.ref a18), none] [] e M17 (im_r0 (fun  e_ M20 => e = e_ ∧ im_T g (d - 1) 97 0 [some (.ref 2070), some (.ref 5), none, none, none, none] [] e M20 (im_ri (fun x22 e_ M21 => e = e_ ∧ (im_i32 x22) ∧ ((¬ x22 = 0 → im_T g (d - 1) 88 0 [some (.ref 76), some (vL p1), none, some (vL p3), none, none] [] e M21 (im_ri (fun x26 e_ M25 => e = e_ ∧ (im_i32 x26) ∧ ((((x26 < 0 → ((60 ≤ (M25 76 4) → im_T g (d - 1) 88 0 [some (.ref 202), some (vL p3), none, some (vL 0), none, none] [] e M25 (im_ri (fun x60 e_ M59 => e = e_ ∧ (im_i32 x60) ∧ ((((x60 < 0 → ((60 ≤ (M59 202 4) → K (.inl (some (vI (-9)))) e M59))))) ∧ ((((0 ≤ x60)) ∨ ((x60 < 0) ∧ ((M59 202 4) < 60))) → K (.inl (some (vI (-9)))) e M59))))))))) ∧ ((((0 ≤ x26)) ∨ ((x26 < 0) ∧ ((M25 76 4) < 60))) → im_T g (d - 1) 88 0 [some (.ref 202), some (vL p3), none, some (vL 0), none, none] [] e M25 (im_ri (fun x35 e_ M34 => e = e_ ∧ (im_i32 x35) ∧ ((((x35 < 0 → ((60 ≤ (M34 202 4) → K (.inl (some (vI (-9)))) e M34))))) ∧ ((((0 ≤ x35)) ∨ ((x35 < 0) ∧ ((M34 202 4) < 60))) → im_T g (d - 1) 77 0 [some (.ref 0), some (vI 5), some (vL p1), none, some (vL p3), none, some (vL 0), none, some (vI p5)] [] e M34 (im_ri (fun x46 e_ M45 => e = e_ ∧ (im_i32 x46) ∧ ((¬ x46 = 0 → K (.inl (some (vI x46))) e M45) ∧ (x46 = 0 → im_T g (d - 1) 99 0 [some (.ref 76), some (vL p1), none, some (vL p3), none, some (.ref 5), none] [] e M45 (im_ri (fun x50 e_ M49 => e = e_ ∧ im_T g (d - 1) 99 0 [some (.ref 202), some (vL p3), none, some (vL 0), none, some (.ref 5), none] [] e M49 (im_ri (fun x52 e_ M51 => e = e_ ∧ K (.inl (some (vI x46))) e M51))))))))))))))))) ∧ (x22 = 0 → K (.inl (some (vI (-8)))) e M21))))))))) ∧ ((M11 5 0) ≤ 0 → K (.inl (some (vI (-5)))) e M11))) ∧ (¬ x12 = 0 → K (.inl (some (vI (-1)))) e M11))))))) ∧ (x6 = 0 → K (.inl (some (vI (-102)))) e M5))))))))) : im_T g d 94 0 [some (.ref 0), some (vL p1), none, some (vL p3), none, some (vI p5), none, none, none] [] e M K := by
  refine im_ld (q := 1) (i := 0) D94_0 rfl rfl rfl ?_
  refine im_gfR (q := 4) (b := 2) D94_1 (im_fl cn_94 fl_11_16) sf_0 rfl rfl tR_11_2 rfl ?_
  refine im_ld (q := 5) (i := 1) D94_4 rfl rfl rfl ?_
  refine im_callV (q := 8) (kd := 1) (y := 95) (n := 1) (ci := 6) (a := 2) (vs := [.ref 2, vL p1]) (r := []) (L2 := [some (.ref 2), some (vL p1), none, none, none, none]) D94_5 (im_cal cn_94 cl_11_299) (Or.inl rfl) rfl sf_2 rfl rfl rfl rfl hd ⟨rfl, rfl, trivial⟩ ?_
  refine hP.mono ?_
  rintro _ e78 M1 ⟨x2, rfl, rfl, hP⟩
  refine im_bkS ?_
  obtain ⟨hg3, hP⟩ := hP
  refine im_ifc (q := 11) (t := 22) D94_8 rfl hg3 (fun hc4 => ?_) (fun hc4 => ?_)
  · replace hP := hP.1 hc4
    refine im_bipush (q := 24) D94_22 rfl ?_
    exact im_iret (q := 25) D94_24 rfl hP
  · replace hP := hP.2 hc4
    refine im_ld (q := 12) (i := 0) D94_11 rfl rfl rfl ?_
    refine im_gfR (q := 15) (b := 2) D94_12 (im_fl cn_94 fl_11_16) sf_0 rfl rfl tR_11_2 rfl ?_
    refine im_ld (q := 16) (i := 3) D94_15 rfl rfl rfl ?_
    refine im_callV (q := 19) (kd := 1) (y := 95) (n := 1) (ci := 6) (a := 2) (vs := [.ref 2, vL p3]) (r := []) (L2 := [some (.ref 2), some (vL p3), none, none, none, none]) D94_16 (im_cal cn_94 cl_11_299) (Or.inl rfl) rfl sf_2 rfl rfl rfl rfl hd ⟨rfl, rfl, trivial⟩ ?_
    refine hP.mono ?_
    rintro _ e77 M5 ⟨x6, rfl, rfl, hP⟩
    refine im_bkS ?_
    obtain ⟨hg7, hP⟩ := hP
    refine im_ifc (q := 22) (t := 25) D94_19 rfl hg7 (fun hc8 => ?_) (fun hc8 => ?_)
    · replace hP := hP.1 hc8
      refine im_ld (q := 26) (i := 0) D94_25 rfl rfl rfl ?_
      refine im_gfR (q := 29) (b := 2) D94_26 (im_fl cn_94 fl_11_16) sf_0 rfl rfl tR_11_2 rfl ?_
      refine im_ld (q := 30) (i := 0) D94_29 rfl rfl rfl ?_
      refine im_gfR (q := 33) (b := 2) D94_30 (im_fl cn_94 fl_11_16) sf_0 rfl rfl tR_11_2 rfl ?_
      refine im_ld (q := 34) (i := 0) D94_33 rfl rfl rfl ?_
      refine im_gfR (q := 37) (b := 1) D94_34 (im_fl cn_94 fl_11_9) sf_0 rfl rfl tR_11_0 rfl ?_
      refine im_ld (q := 39) (i := 5) D94_37 rfl rfl rfl ?_
      refine im_callV (q := 42) (kd := 1) (y := 96) (n := 2) (ci := 6) (a := 2) (vs := [.ref 2, .ref 1, vI p5]) (r := [.ref 2]) (L2 := [some (.ref 2), some (.ref 1), some (vI p5)]) D94_39 (im_cal cn_94 cl_11_303) (Or.inl rfl) rfl sf_2 rfl rfl rfl rfl hd ⟨rfl, rfl, rfl, trivial⟩ ?_
      refine hP.mono ?_
      rintro _ e76 M9 ⟨x10, rfl, rfl, hP⟩
      refine im_bkS ?_
      refine im_callV (q := 45) (kd := 1) (y := 76) (n := 1) (ci := 6) (a := 2) (vs := [.ref 2, vI x10]) (r := []) (L2 := [some (.ref 2), some (vI x10)]) D94_42 (im_cal cn_94 cl_11_220) (Or.inl rfl) rfl sf_2 rfl rfl rfl rfl hd ⟨rfl, rfl, trivial⟩ ?_
      refine hP.mono ?_
      rintro _ e75 M11 ⟨x12, rfl, rfl, hP⟩
      refine im_bkS ?_
      obtain ⟨hg13, hP⟩ := hP
      refine im_ifc (q := 48) (t := 50) D94_45 rfl hg13 (fun hc14 => ?_) (fun hc14 => ?_)
      · replace hP := hP.1 hc14
        refine im_ld (q := 51) (i := 0) D94_50 rfl rfl rfl ?_
        refine im_gfR (q := 54) (b := 2) D94_51 (im_fl cn_94 fl_11_16) sf_0 rfl rfl tR_11_2 rfl ?_
        refine im_gfR (q := 57) (b := 5) D94_54 (im_fl cn_94 fl_11_310) sf_2 rfl rfl tR_6_7 rfl ?_
        refine im_rng (j := 0) sf_5 (by decide) (by decide) (fun hr15 => ?_)
        refine im_gfI (q := 60) D94_57 (im_fl cn_94 fl_11_381) sf_5 rfl rfl tI_3_0 rfl ?_
        refine im_ifc (q := 63) (t := 66) D94_60 rfl hr15 (fun hc16 => ?_) (fun hc16 => ?_)
        · replace hP := hP.1 hc16
          refine im_ld (q := 67) (i := 0) D94_66 rfl rfl rfl ?_
          refine im_gfR (q := 70) (b := 2070) D94_67 (im_fl cn_94 fl_11_120) sf_0 rfl rfl tR_11_18 rfl ?_
          refine im_ld (q := 71) (i := 0) D94_70 rfl rfl rfl ?_
          refine im_gfR (q := 74) (b := 202) D94_71 (im_fl cn_94 fl_11_71) sf_0 rfl rfl tR_11_10 rfl ?_
          refine im_ld (q := 75) (i := 3) D94_74 rfl rfl rfl ?_
          refine im_lconst (q := 76) (z := 0) D94_75 rfl ?_
          refine im_callV (q := 79) (kd := 1) (y := 89) (n := 2) (ci := 0) (a := 202) (vs := [.ref 202, vL p3, vL 0]) (r := [.ref 2070]) (L2 := [some (.ref 202), some (vL p3), none, some (vL 0), none, none]) D94_76 (im_cal cn_94 cl_11_372) (Or.inl rfl) rfl sf_202 rfl rfl rfl rfl hd ⟨rfl, rfl, rfl, trivial⟩ ?_
          refine hP.mono ?_
          rintro _ e74 M17 ⟨a18, rfl, rfl, hP⟩
          refine im_bkS ?_
          obtain ⟨hb19, hP⟩ := hP
          refine im_callV (q := 82) (kd := 1) (y := 66) (n := 1) (ci := 3) (a := 2070) (vs := [.ref 2070, .ref a18]) (r := []) (L2 := [some (.ref 2070), some (.ref a18), none]) D94_79 (im_cal cn_94 cl_11_384) (Or.inl rfl) rfl sf_2070 rfl rfl rfl rfl hd ⟨rfl, rfl, trivial⟩ ?_
          refine hP.mono ?_
          rintro _ e73 M20 ⟨rfl, rfl, hP⟩
          refine im_bkN ?_
          refine im_ld (q := 83) (i := 0) D94_82 rfl rfl rfl ?_
          refine im_gfR (q := 86) (b := 2070) D94_83 (im_fl cn_94 fl_11_120) sf_0 rfl rfl tR_11_18 rfl ?_
          refine im_ld (q := 87) (i := 0) D94_86 rfl rfl rfl ?_
          refine im_gfR (q := 90) (b := 2) D94_87 (im_fl cn_94 fl_11_16) sf_0 rfl rfl tR_11_2 rfl ?_
          refine im_gfR (q := 93) (b := 5) D94_90 (im_fl cn_94 fl_11_310) sf_2 rfl rfl tR_6_7 rfl ?_
          refine im_callV (q := 96) (kd := 1) (y := 97) (n := 1) (ci := 3) (a := 2070) (vs := [.ref 2070, .ref 5]) (r := []) (L2 := [some (.ref 2070), some (.ref 5), none, none, none, none]) D94_93 (im_cal cn_94 cl_11_387) (Or.inl rfl) rfl sf_2070 rfl rfl rfl rfl hd ⟨rfl, rfl, trivial⟩ ?_
          refine hP.mono ?_
          rintro _ e72 M21 ⟨x22, rfl, rfl, hP⟩
          refine im_bkS ?_
          obtain ⟨hg23, hP⟩ := hP
          refine im_ifc (q := 99) (t := 102) D94_96 rfl hg23 (fun hc24 => ?_) (fun hc24 => ?_)
          · replace hP := hP.1 hc24
            refine im_ld (q := 103) (i := 0) D94_102 rfl rfl rfl ?_
            refine im_gfR (q := 106) (b := 76) D94_103 (im_fl cn_94 fl_11_68) sf_0 rfl rfl tR_11_9 rfl ?_
            refine im_ld (q := 107) (i := 1) D94_106 rfl rfl rfl ?_
            refine im_ld (q := 108) (i := 3) D94_107 rfl rfl rfl ?_
            refine im_callV (q := 111) (kd := 1) (y := 88) (n := 2) (ci := 0) (a := 76) (vs := [.ref 76, vL p1, vL p3]) (r := []) (L2 := [some (.ref 76), some (vL p1), none, some (vL p3), none, none]) D94_108 (im_cal cn_94 cl_11_306) (Or.inl rfl) rfl sf_76 rfl rfl rfl rfl hd ⟨rfl, rfl, rfl, trivial⟩ ?_
            refine hP.mono ?_
            rintro _ e71 M25 ⟨x26, rfl, rfl, hP⟩
            refine im_bkS ?_
            obtain ⟨hg27, hP⟩ := hP
            obtain ⟨hP, hJ31⟩ := hP
            have kJ32 : (((0 ≤ x26)) ∨ ((x26 < 0) ∧ ((M25 76 4) < 60))) → im_T g d 94 130 [some (.ref 0), some (vL p1), none, some (vL p3), none, some (vI p5), none, none, none] [] e M25 K := by
              intro  hx33
              have hP := hJ31  hx33
              refine im_iconst (q := 131) D94_130 ?_
              refine im_st1 (q := 133) (i := 6) (L' := [some (.ref 0), some (vL p1), none, some (vL p3), none, some (vI p5), some (vI 0), none, none]) D94_131 (Or.inr rfl) (Nat.le_of_ble_eq_true rfl) rfl ?_
              refine im_ld (q := 134) (i := 0) D94_133 rfl rfl rfl ?_
              refine im_gfR (q := 137) (b := 202) D94_134 (im_fl cn_94 fl_11_71) sf_0 rfl rfl tR_11_10 rfl ?_
              refine im_ld (q := 138) (i := 3) D94_137 rfl rfl rfl ?_
              refine im_lconst (q := 139) (z := 0) D94_138 rfl ?_
              refine im_callV (q := 142) (kd := 1) (y := 88) (n := 2) (ci := 0) (a := 202) (vs := [.ref 202, vL p3, vL 0]) (r := []) (L2 := [some (.ref 202), some (vL p3), none, some (vL 0), none, none]) D94_139 (im_cal cn_94 cl_11_306) (Or.inl rfl) rfl sf_202 rfl rfl rfl rfl hd ⟨rfl, rfl, rfl, trivial⟩ ?_
              refine hP.mono ?_
              rintro _ e58 M34 ⟨x35, rfl, rfl, hP⟩
              refine im_bkS ?_
              obtain ⟨hg36, hP⟩ := hP
              obtain ⟨hP, hJ40⟩ := hP
              have kJ41 : (((0 ≤ x35)) ∨ ((x35 < 0) ∧ ((M34 202 4) < 60))) → im_T g d 94 161 [some (.ref 0), some (vL p1), none, some (vL p3), none, some (vI p5), some (vI 0), none, none] [] e M34 K := by
                intro  hx42
                have hP := hJ40  hx42
                refine im_iconst (q := 162) D94_161 ?_
                refine im_st1 (q := 164) (i := 7) (L' := [some (.ref 0), some (vL p1), none, some (vL p3), none, some (vI p5), some (vI 0), some (vI 0), none]) D94_162 (Or.inr rfl) (Nat.le_of_ble_eq_true rfl) rfl ?_
                refine im_ld (q := 166) (i := 6) D94_164 rfl rfl rfl ?_
                refine im_ifc (q := 169) (t := 174) D94_166 rfl (by decide) (fun hc => absurd hc (show ¬ (¬ (0 : Int) = 0) by decide)) (fun _ => ?_)
                refine im_ld (q := 171) (i := 7) D94_169 rfl rfl rfl ?_
                refine im_ifc (q := 174) (t := 177) D94_171 rfl (by decide) (fun _ => ?_) (fun hc => absurd (show (0 : Int) = 0 by decide) hc)
                refine im_ld (q := 178) (i := 0) D94_177 rfl rfl rfl ?_
                refine im_iconst (q := 179) D94_178 ?_
                refine im_ld (q := 180) (i := 1) D94_179 rfl rfl rfl ?_
                refine im_ld (q := 181) (i := 3) D94_180 rfl rfl rfl ?_
                refine im_lconst (q := 182) (z := 0) D94_181 rfl ?_
                refine im_ld (q := 184) (i := 5) D94_182 rfl rfl rfl ?_
                refine im_callV (q := 187) (kd := 1) (y := 77) (n := 5) (ci := 11) (a := 0) (vs := [.ref 0, vI 5, vL p1, vL p3, vL 0, vI p5]) (r := []) (L2 := [some (.ref 0), some (vI 5), some (vL p1), none, some (vL p3), none, some (vL 0), none, some (vI p5)]) D94_184 (im_cal cn_94 cl_11_228) (Or.inl rfl) rfl sf_0 rfl rfl rfl rfl hd ⟨rfl, rfl, rfl, rfl, rfl, rfl, trivial⟩ ?_
                refine hP.mono ?_
                rintro _ e55 M45 ⟨x46, rfl, rfl, hP⟩
                refine im_bkS ?_
                refine im_st1 (q := 189) (i := 8) (L' := [some (.ref 0), some (vL p1), none, some (vL p3), none, some (vI p5), some (vI 0), some (vI 0), some (vI x46)]) D94_187 (Or.inr rfl) (Nat.le_of_ble_eq_true rfl) rfl ?_
                refine im_ld (q := 191) (i := 8) D94_189 rfl rfl rfl ?_
                obtain ⟨hg47, hP⟩ := hP
                refine im_ifc (q := 194) (t := 228) D94_191 rfl hg47 (fun hc48 => ?_) (fun hc48 => ?_)
                · replace hP := hP.1 hc48
                  refine im_ld (q := 230) (i := 8) D94_228 rfl rfl rfl ?_
                  exact im_iret (q := 231) D94_230 rfl hP
                · replace hP := hP.2 (Decidable.not_not.mp hc48)
                  refine im_ld (q := 195) (i := 0) D94_194 rfl rfl rfl ?_
                  refine im_gfR (q := 198) (b := 76) D94_195 (im_fl cn_94 fl_11_68) sf_0 rfl rfl tR_11_9 rfl ?_
                  refine im_ld (q := 199) (i := 1) D94_198 rfl rfl rfl ?_
                  refine im_ld (q := 200) (i := 3) D94_199 rfl rfl rfl ?_
                  refine im_ld (q := 201) (i := 0) D94_200 rfl rfl rfl ?_
                  refine im_gfR (q := 204) (b := 2) D94_201 (im_fl cn_94 fl_11_16) sf_0 rfl rfl tR_11_2 rfl ?_
                  refine im_gfR (q := 207) (b := 5) D94_204 (im_fl cn_94 fl_11_310) sf_2 rfl rfl tR_6_7 rfl ?_
                  refine im_callV (q := 210) (kd := 1) (y := 99) (n := 3) (ci := 0) (a := 76) (vs := [.ref 76, vL p1, vL p3, .ref 5]) (r := []) (L2 := [some (.ref 76), some (vL p1), none, some (vL p3), none, some (.ref 5), none]) D94_207 (im_cal cn_94 cl_11_391) (Or.inl rfl) rfl sf_76 rfl rfl rfl rfl hd ⟨rfl, rfl, rfl, rfl, trivial⟩ ?_
                  refine hP.mono ?_
                  rintro _ e54 M49 ⟨x50, rfl, rfl, hP⟩
                  refine im_bkS ?_
                  refine im_pop (q := 211) D94_210 rfl ?_
                  refine im_ld (q := 212) (i := 0) D94_211 rfl rfl rfl ?_
                  refine im_gfR (q := 215) (b := 202) D94_212 (im_fl cn_94 fl_11_71) sf_0 rfl rfl tR_11_10 rfl ?_
                  refine im_ld (q := 216) (i := 3) D94_215 rfl rfl rfl ?_
                  refine im_lconst (q := 217) (z := 0) D94_216 rfl ?_
                  refine im_ld (q := 218) (i := 0) D94_217 rfl rfl rfl ?_
                  refine im_gfR (q := 221) (b := 2) D94_218 (im_fl cn_94 fl_11_16) sf_0 rfl rfl tR_11_2 rfl ?_
                  refine im_gfR (q := 224) (b := 5) D94_221 (im_fl cn_94 fl_11_310) sf_2 rfl rfl tR_6_7 rfl ?_
                  refine im_callV (q := 227) (kd := 1) (y := 99) (n := 3) (ci := 0) (a := 202) (vs := [.ref 202, vL p3, vL 0, .ref 5]) (r := []) (L2 := [some (.ref 202), some (vL p3), none, some (vL 0), none, some (.ref 5), none]) D94_224 (im_cal cn_94 cl_11_391) (Or.inl rfl) rfl sf_202 rfl rfl rfl rfl hd ⟨rfl, rfl, rfl, rfl, trivial⟩ ?_
                  refine hP.mono ?_
                  rintro _ e53 M51 ⟨x52, rfl, rfl, hP⟩
                  refine im_bkS ?_
                  refine im_pop (q := 228) D94_227 rfl ?_
                  refine im_ld (q := 230) (i := 8) D94_228 rfl rfl rfl ?_
                  exact im_iret (q := 231) D94_230 rfl hP
              refine im_ifc (q := 145) (t := 161) D94_142 rfl hg36 (fun hc37 => ?_) (fun hc37 => ?_)
              · exact (kJ41  (Or.inl hc37)).wk ⟨rfl, rfl, rfl, rfl, rfl, trivial⟩
              · replace hP := hP (Int.not_le.mp hc37)
                refine im_ld (q := 146) (i := 0) D94_145 rfl rfl rfl ?_
                refine im_gfR (q := 149) (b := 202) D94_146 (im_fl cn_94 fl_11_71) sf_0 rfl rfl tR_11_10 rfl ?_
                refine im_rng (j := 4) sf_202 (by decide) (by decide) (fun hr38 => ?_)
                refine im_gfI (q := 152) D94_149 (im_fl cn_94 fl_11_271) sf_202 rfl rfl tI_0_4 rfl ?_
                refine im_bipush (q := 154) D94_152 rfl ?_
                refine im_icmp (q := 157) (t := 161) D94_154 rfl hr38 (by decide) (fun hc39 => ?_) (fun hc39 => ?_)
                · exact (kJ41  (Or.inr ⟨(Int.not_le.mp hc37), hc39⟩)).wk ⟨rfl, rfl, rfl, rfl, rfl, trivial⟩
                · replace hP := hP (Int.not_lt.mp hc39)
                  refine im_iconst (q := 158) D94_157 ?_
                  refine im_goto (q := 161) (t := 162) D94_158 rfl ?_
                  refine im_st1 (q := 164) (i := 7) (L' := [some (.ref 0), some (vL p1), none, some (vL p3), none, some (vI p5), some (vI 0), some (vI 1), none]) D94_162 (Or.inr rfl) (Nat.le_of_ble_eq_true rfl) rfl ?_
                  refine im_ld (q := 166) (i := 6) D94_164 rfl rfl rfl ?_
                  refine im_ifc (q := 169) (t := 174) D94_166 rfl (by decide) (fun hc => absurd hc (show ¬ (¬ (0 : Int) = 0) by decide)) (fun _ => ?_)
                  refine im_ld (q := 171) (i := 7) D94_169 rfl rfl rfl ?_
                  refine im_ifc (q := 174) (t := 177) D94_171 rfl (by decide) (fun hc => absurd hc (show ¬ ((1 : Int) = 0) by decide)) (fun _ => ?_)
                  refine im_bipush (q := 176) D94_174 rfl ?_
                  exact im_iret (q := 177) D94_176 rfl hP
            refine im_ifc (q := 114) (t := 130) D94_111 rfl hg27 (fun hc28 => ?_) (fun hc28 => ?_)
            · exact (kJ32  (Or.inl hc28)).wk ⟨rfl, rfl, rfl, rfl, trivial⟩
            · replace hP := hP (Int.not_le.mp hc28)
              refine im_ld (q := 115) (i := 0) D94_114 rfl rfl rfl ?_
              refine im_gfR (q := 118) (b := 76) D94_115 (im_fl cn_94 fl_11_68) sf_0 rfl rfl tR_11_9 rfl ?_
              refine im_rng (j := 4) sf_76 (by decide) (by decide) (fun hr29 => ?_)
              refine im_gfI (q := 121) D94_118 (im_fl cn_94 fl_11_271) sf_76 rfl rfl tI_0_4 rfl ?_
              refine im_bipush (q := 123) D94_121 rfl ?_
              refine im_icmp (q := 126) (t := 130) D94_123 rfl hr29 (by decide) (fun hc30 => ?_) (fun hc30 => ?_)
              · exact (kJ32  (Or.inr ⟨(Int.not_le.mp hc28), hc30⟩)).wk ⟨rfl, rfl, rfl, rfl, trivial⟩
              · replace hP := hP (Int.not_lt.mp hc30)
                refine im_iconst (q := 127) D94_126 ?_
                refine im_goto (q := 130) (t := 131) D94_127 rfl ?_
                refine im_st1 (q := 133) (i := 6) (L' := [some (.ref 0), some (vL p1), none, some (vL p3), none, some (vI p5), some (vI 1), none, none]) D94_131 (Or.inr rfl) (Nat.le_of_ble_eq_true rfl) rfl ?_
                refine im_ld (q := 134) (i := 0) D94_133 rfl rfl rfl ?_
                refine im_gfR (q := 137) (b := 202) D94_134 (im_fl cn_94 fl_11_71) sf_0 rfl rfl tR_11_10 rfl ?_
                refine im_ld (q := 138) (i := 3) D94_137 rfl rfl rfl ?_
                refine im_lconst (q := 139) (z := 0) D94_138 rfl ?_
                refine im_callV (q := 142) (kd := 1) (y := 88) (n := 2) (ci := 0) (a := 202) (vs := [.ref 202, vL p3, vL 0]) (r := []) (L2 := [some (.ref 202), some (vL p3), none, some (vL 0), none, none]) D94_139 (im_cal cn_94 cl_11_306) (Or.inl rfl) rfl sf_202 rfl rfl rfl rfl hd ⟨rfl, rfl, rfl, trivial⟩ ?_
                refine hP.mono ?_
                rintro _ e70 M59 ⟨x60, rfl, rfl, hP⟩
                refine im_bkS ?_
                obtain ⟨hg61, hP⟩ := hP
                obtain ⟨hP, hJ65⟩ := hP
                have kJ66 : (((0 ≤ x60)) ∨ ((x60 < 0) ∧ ((M59 202 4) < 60))) → im_T g d 94 161 [some (.ref 0), some (vL p1), none, some (vL p3), none, some (vI p5), some (vI 1), none, none] [] e M59 K := by
                  intro  hx67
                  have hP := hJ65  hx67
                  refine im_iconst (q := 162) D94_161 ?_
                  refine im_st1 (q := 164) (i := 7) (L' := [some (.ref 0), some (vL p1), none, some (vL p3), none, some (vI p5), some (vI 1), some (vI 0), none]) D94_162 (Or.inr rfl) (Nat.le_of_ble_eq_true rfl) rfl ?_
                  refine im_ld (q := 166) (i := 6) D94_164 rfl rfl rfl ?_
                  refine im_ifc (q := 169) (t := 174) D94_166 rfl (by decide) (fun _ => ?_) (fun hc => absurd (show ¬ (1 : Int) = 0 by decide) hc)
                  refine im_bipush (q := 176) D94_174 rfl ?_
                  exact im_iret (q := 177) D94_176 rfl hP
                refine im_ifc (q := 145) (t := 161) D94_142 rfl hg61 (fun hc62 => ?_) (fun hc62 => ?_)
                · exact (kJ66  (Or.inl hc62)).wk ⟨rfl, rfl, rfl, rfl, rfl, trivial⟩
                · replace hP := hP (Int.not_le.mp hc62)
                  refine im_ld (q := 146) (i := 0) D94_145 rfl rfl rfl ?_
                  refine im_gfR (q := 149) (b := 202) D94_146 (im_fl cn_94 fl_11_71) sf_0 rfl rfl tR_11_10 rfl ?_
                  refine im_rng (j := 4) sf_202 (by decide) (by decide) (fun hr63 => ?_)
                  refine im_gfI (q := 152) D94_149 (im_fl cn_94 fl_11_271) sf_202 rfl rfl tI_0_4 rfl ?_
                  refine im_bipush (q := 154) D94_152 rfl ?_
                  refine im_icmp (q := 157) (t := 161) D94_154 rfl hr63 (by decide) (fun hc64 => ?_) (fun hc64 => ?_)
                  · exact (kJ66  (Or.inr ⟨(Int.not_le.mp hc62), hc64⟩)).wk ⟨rfl, rfl, rfl, rfl, rfl, trivial⟩
                  · replace hP := hP (Int.not_lt.mp hc64)
                    refine im_iconst (q := 158) D94_157 ?_
                    refine im_goto (q := 161) (t := 162) D94_158 rfl ?_
                    refine im_st1 (q := 164) (i := 7) (L' := [some (.ref 0), some (vL p1), none, some (vL p3), none, some (vI p5), some (vI 1), some (vI 1), none]) D94_162 (Or.inr rfl) (Nat.le_of_ble_eq_true rfl) rfl ?_
                    refine im_ld (q := 166) (i := 6) D94_164 rfl rfl rfl ?_
                    refine im_ifc (q := 169) (t := 174) D94_166 rfl (by decide) (fun _ => ?_) (fun hc => absurd (show ¬ (1 : Int) = 0 by decide) hc)
                    refine im_bipush (q := 176) D94_174 rfl ?_
                    exact im_iret (q := 177) D94_176 rfl hP
          · replace hP := hP.2 (Decidable.not_not.mp hc24)
            refine im_bipush (q := 101) D94_99 rfl ?_
            exact im_iret (q := 102) D94_101 rfl hP
        · replace hP := hP.2 (Int.not_lt.mp hc16)
          refine im_bipush (q := 65) D94_63 rfl ?_
          exact im_iret (q := 66) D94_65 rfl hP
      · replace hP := hP.2 hc14
        refine im_iconst (q := 49) D94_48 ?_
        exact im_iret (q := 50) D94_49 rfl hP
    · replace hP := hP.2 (Decidable.not_not.mp hc8)
      refine im_bipush (q := 24) D94_22 rfl ?_
      exact im_iret (q := 25) D94_24 rfl hP
set_option maxRecDepth 20000 in
set_option maxHeartbeats 4000000 in
theorem k_Reader_isName_0 {g : im_g} {d : Nat} {e : im_E} {M : im_M} {K : im_K} {p1 : Int} (hP : im_T g d 95 3 [some (.ref 2), some (vL p1), none, some (vI 56), none, none] [] e M K) : im_T g d 95 0 [some (.ref 2), some (vL p1), none, none, none, none] [] e M K := by
  refine im_bipush (q := 2) D95_0 rfl ?_
  refine im_st1 (q := 3) (i := 3) (L' := [some (.ref 2), some (vL p1), none, some (vI 56), none, none]) D95_2 (Or.inl ⟨_, rfl, rfl⟩) (Nat.le_of_ble_eq_true rfl) rfl ?_
  exact hP.wk ⟨rfl, rfl, rfl, trivial⟩
set_option maxRecDepth 20000 in
set_option maxHeartbeats 4000000 in
theorem k_Reader_isName_3 {g : im_g} {d : Nat} {e : im_E} {M : im_M} {K : im_K} {p1 p3 : Int} (hd : 1 ≤ d) (hP : (im_i32 p3) ∧ ((((0 < p3 → (((xlushr p1 p3) = 0 → im_T g d 95 3 [some (.ref 2), some (vL p1), none, some (vI (p3 + (-8))), none, none] [] e M K))))) ∧ ((((p3 ≤ 0)) ∨ ((0 < p3) ∧ (¬ (xlushr p1 p3) = 0))) → im_T g (d - 1) 48 0 [some (vI (xlushr p1 p3))] [] e M (im_ri (fun x8 e_ M7 => e = e_ ∧ (im_i32 x8) ∧ ((¬ x8 = 0 → im_T g d 95 39 [some (.ref 2), some (vL p1), none, none, some (vI (p3 - 8)), none] [] e M7 K) ∧ (x8 = 0 → K (.inl (some (vI 0))) e M7))))))) : im_T g d 95 3 [some (.ref 2), some (vL p1), none, some (vI p3), none, none] [] e M K := by
  refine im_ld (q := 4) (i := 3) D95_3 rfl rfl rfl ?_
  obtain ⟨hg1, hP⟩ := hP
  obtain ⟨hP, hJ4⟩ := hP
  have kJ5 : (((p3 ≤ 0)) ∨ ((0 < p3) ∧ (¬ (xlushr p1 p3) = 0))) → im_T g d 95 21 [some (.ref 2), some (vL p1), none, some (vI p3), none, none] [] e M K := by
    intro  hx6
    have hP := hJ4  hx6
    refine im_ld (q := 22) (i := 1) D95_21 rfl rfl rfl ?_
    refine im_ld (q := 23) (i := 3) D95_22 rfl rfl rfl ?_
    refine im_lushr (q := 24) D95_23 ?_
    refine im_l2i (q := 25) D95_24 ?_
    refine im_callS (q := 28) (kd := 0) (y := 48) (n := 1) (z := 6) (vs := [vI (xlushr p1 p3)]) (r := []) (L2 := [some (vI (xlushr p1 p3))]) D95_25 rfl (im_cal cn_95 cl_6_95) (Or.inl rfl) rfl rfl rfl rfl rfl hd ⟨rfl, trivial⟩ ?_
    refine hP.mono ?_
    rintro _ e11 M7 ⟨x8, rfl, rfl, hP⟩
    refine im_bkS ?_
    obtain ⟨hg9, hP⟩ := hP
    refine im_ifc (q := 31) (t := 33) D95_28 rfl hg9 (fun hc10 => ?_) (fun hc10 => ?_)
    · replace hP := hP.1 hc10
      refine im_ld (q := 34) (i := 3) D95_33 rfl rfl rfl ?_
      refine im_bipush (q := 36) D95_34 rfl ?_
      refine im_isub (q := 37) D95_36 ?_
      refine im_st1 (q := 39) (i := 4) (L' := [some (.ref 2), some (vL p1), none, some (vI p3), some (vI (p3 - 8)), none]) D95_37 (Or.inr rfl) (Nat.le_of_ble_eq_true rfl) rfl ?_
      exact hP.wk ⟨rfl, rfl, rfl, trivial⟩
    · replace hP := hP.2 (Decidable.not_not.mp hc10)
      refine im_iconst (q := 32) D95_31 ?_
      exact im_zret (q := 33) D95_32 rfl (by decide) hP
  refine im_ifc (q := 7) (t := 21) D95_4 rfl hg1 (fun hc2 => ?_) (fun hc2 => ?_)
  · exact (kJ5  (Or.inl hc2)).wk ⟨rfl, rfl, rfl, trivial⟩
  · replace hP := hP (Int.not_le.mp hc2)
    refine im_ld (q := 8) (i := 1) D95_7 rfl rfl rfl ?_
    refine im_ld (q := 9) (i := 3) D95_8 rfl rfl rfl ?_
    refine im_lushr (q := 10) D95_9 ?_
    refine im_lconst (q := 11) (z := 0) D95_10 rfl ?_
    refine im_lif (q := 12) (q2 := 15) (t := 21) D95_11 D95_12 rfl (xlushr_r _ _) (by decide) (fun hc3 => ?_) (fun hc3 => ?_)
    · exact (kJ5  (Or.inr ⟨(Int.not_le.mp hc2), hc3⟩)).wk ⟨rfl, rfl, rfl, trivial⟩
    · replace hP := hP (Decidable.not_not.mp hc3)
      refine im_iinc (q := 18) (i := 3) (L' := [some (.ref 2), some (vL p1), none, some (vI (p3 + (-8))), none, none]) D95_15 rfl (Nat.le_of_ble_eq_true rfl) rfl ?_
      refine im_goto (q := 21) (t := 3) D95_18 rfl ?_
      exact hP.wk ⟨rfl, rfl, rfl, trivial⟩
set_option maxRecDepth 20000 in
set_option maxHeartbeats 4000000 in
theorem k_Reader_isName_39 {g : im_g} {d : Nat} {e : im_E} {M : im_M} {K : im_K} {p1 p4 : Int} (hd : 1 ≤ d) (hP : (im_i32 p4) ∧ ((p4 < 0 → im_T g (d - 1) 49 0 [some (.ref 2), some (vL p1), none, none] [] e M (im_ri (fun x4 e_ M3 => e = e_ ∧ (im_i32 x4) ∧ ((∀ x7 : Int, (((¬ x4 = (-1)) ∧ x7 = 0) ∨ ((x4 = (-1)) ∧ x7 = 1)) → K (.inl (some (vI x7))) e M3))))) ∧ (0 ≤ p4 → im_T g (d - 1) 48 0 [some (vI (xiand (xlushr p1 p4) 255))] [] e M (im_ri (fun x13 e_ M12 => e = e_ ∧ (im_i32 x13) ∧ ((¬ x13 = 0 → im_T g d 95 39 [some (.ref 2), some (vL p1), none, none, some (vI (p4 + (-8))), none] [] e M12 K) ∧ (x13 = 0 → im_T g (d - 1) 44 0 [some (vI (xiand (xlushr p1 p4) 255))] [] e M12 (im_ri (fun x17 e_ M16 => e = e_ ∧ (im_i32 x17) ∧ ((¬ x17 = 0 → im_T g d 95 39 [some (.ref 2), some (vL p1), none, none, some (vI (p4 + (-8))), none] [] e M16 K) ∧ (x17 = 0 → K (.inl (some (vI 0))) e M16))))))))))) : im_T g d 95 39 [some (.ref 2), some (vL p1), none, none, some (vI p4), none] [] e M K := by
  refine im_ld (q := 41) (i := 4) D95_39 rfl rfl rfl ?_
  obtain ⟨hg1, hP⟩ := hP
  refine im_ifc (q := 44) (t := 79) D95_41 rfl hg1 (fun hc2 => ?_) (fun hc2 => ?_)
  · replace hP := hP.1 hc2
    refine im_ld (q := 80) (i := 0) D95_79 rfl rfl rfl ?_
    refine im_ld (q := 81) (i := 1) D95_80 rfl rfl rfl ?_
    refine im_callV (q := 84) (kd := 1) (y := 49) (n := 1) (ci := 6) (a := 2) (vs := [.ref 2, vL p1]) (r := []) (L2 := [some (.ref 2), some (vL p1), none, none]) D95_81 (im_cal cn_95 cl_6_87) (Or.inl rfl) rfl sf_2 rfl rfl rfl rfl hd ⟨rfl, rfl, trivial⟩ ?_
    refine hP.mono ?_
    rintro _ e11 M3 ⟨x4, rfl, rfl, hP⟩
    refine im_bkS ?_
    refine im_iconst (q := 85) D95_84 ?_
    obtain ⟨hg5, hP⟩ := hP
    have hJ8 := hP
    have kJ9 : ∀ x7 : Int, (((¬ x4 = (-1)) ∧ x7 = 0) ∨ ((x4 = (-1)) ∧ x7 = 1)) → im_T g d 95 93 [none, none, none, none, none, none] [vI x7] e M3 K := by
      intro x7 hx10
      have hP := hJ8 x7 hx10
      exact im_zret (q := 94) D95_93 rfl (by clear hP; omega) hP
    refine im_icmp (q := 88) (t := 92) D95_85 rfl hg5 (by decide) (fun hc6 => ?_) (fun hc6 => ?_)
    · refine im_iconst (q := 93) D95_92 ?_
      exact (kJ9 (0) (Or.inl ⟨hc6, rfl⟩)).wk trivial
    · refine im_iconst (q := 89) D95_88 ?_
      refine im_goto (q := 92) (t := 93) D95_89 rfl ?_
      exact (kJ9 (1) (Or.inr ⟨(Decidable.not_not.mp hc6), rfl⟩)).wk trivial
  · replace hP := hP.2 (Int.not_lt.mp hc2)
    refine im_ld (q := 45) (i := 1) D95_44 rfl rfl rfl ?_
    refine im_ld (q := 47) (i := 4) D95_45 rfl rfl rfl ?_
    refine im_lushr (q := 48) D95_47 ?_
    refine im_l2i (q := 49) D95_48 ?_
    refine im_sipush (q := 52) D95_49 rfl ?_
    refine im_iand (q := 53) D95_52 ?_
    refine im_st1 (q := 55) (i := 5) (L' := [some (.ref 2), some (vL p1), none, none, some (vI p4), some (vI (xiand (xlushr p1 p4) 255))]) D95_53 (Or.inr rfl) (Nat.le_of_ble_eq_true rfl) rfl ?_
    refine im_ld (q := 57) (i := 5) D95_55 rfl rfl rfl ?_
    refine im_callS (q := 60) (kd := 0) (y := 48) (n := 1) (z := 6) (vs := [vI (xiand (xlushr p1 p4) 255)]) (r := []) (L2 := [some (vI (xiand (xlushr p1 p4) 255))]) D95_57 rfl (im_cal cn_95 cl_6_95) (Or.inl rfl) rfl rfl rfl rfl rfl hd ⟨rfl, trivial⟩ ?_
    refine hP.mono ?_
    rintro _ e21 M12 ⟨x13, rfl, rfl, hP⟩
    refine im_bkS ?_
    obtain ⟨hg14, hP⟩ := hP
    refine im_ifc (q := 63) (t := 73) D95_60 rfl hg14 (fun hc15 => ?_) (fun hc15 => ?_)
    · replace hP := hP.1 hc15
      refine im_iinc (q := 76) (i := 4) (L' := [some (.ref 2), some (vL p1), none, none, some (vI (p4 + (-8))), some (vI (xiand (xlushr p1 p4) 255))]) D95_73 rfl (Nat.le_of_ble_eq_true rfl) rfl ?_
      refine im_goto (q := 79) (t := 39) D95_76 rfl ?_
      exact hP.wk ⟨rfl, rfl, rfl, trivial⟩
    · replace hP := hP.2 (Decidable.not_not.mp hc15)
      refine im_ld (q := 65) (i := 5) D95_63 rfl rfl rfl ?_
      refine im_callS (q := 68) (kd := 0) (y := 44) (n := 1) (z := 6) (vs := [vI (xiand (xlushr p1 p4) 255)]) (r := []) (L2 := [some (vI (xiand (xlushr p1 p4) 255))]) D95_65 rfl (im_cal cn_95 cl_6_73) (Or.inl rfl) rfl rfl rfl rfl rfl hd ⟨rfl, trivial⟩ ?_
      refine hP.mono ?_
      rintro _ e20 M16 ⟨x17, rfl, rfl, hP⟩
      refine im_bkS ?_
      obtain ⟨hg18, hP⟩ := hP
      refine im_ifc (q := 71) (t := 73) D95_68 rfl hg18 (fun hc19 => ?_) (fun hc19 => ?_)
      · replace hP := hP.1 hc19
        refine im_iinc (q := 76) (i := 4) (L' := [some (.ref 2), some (vL p1), none, none, some (vI (p4 + (-8))), some (vI (xiand (xlushr p1 p4) 255))]) D95_73 rfl (Nat.le_of_ble_eq_true rfl) rfl ?_
        refine im_goto (q := 79) (t := 39) D95_76 rfl ?_
        exact hP.wk ⟨rfl, rfl, rfl, trivial⟩
      · replace hP := hP.2 (Decidable.not_not.mp hc19)
        refine im_iconst (q := 72) D95_71 ?_
        exact im_zret (q := 73) D95_72 rfl (by decide) hP

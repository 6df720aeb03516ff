/-! blocks of the class -/
theorem D142_0 {g : im_g} : im_D g 142 0 (.aload_n 0) 1 := im_D.of (by decide +kernel)
theorem D142_1 {g : im_g} : im_D g 142 1 (.getfield 31) 4 := im_D.of (by decide +kernel)
theorem D142_4 {g : im_g} : im_D g 142 4 (.getfield 183) 7 := im_D.of (by decide +kernel)
theorem D142_7 {g : im_g} : im_D g 142 7 (.istore_n 3) 8 := im_D.of (by decide +kernel)
theorem D142_8 {g : im_g} : im_D g 142 8 (.aload_n 0) 9 := im_D.of (by decide +kernel)
theorem D142_9 {g : im_g} : im_D g 142 9 (.getfield 55) 12 := im_D.of (by decide +kernel)
theorem D142_12 {g : im_g} : im_D g 142 12 (.getfield 89) 15 := im_D.of (by decide +kernel)
theorem D142_15 {g : im_g} : im_D g 142 15 (.iload_n 3) 16 := im_D.of (by decide +kernel)
theorem D142_16 {g : im_g} : im_D g 142 16 (.iaload) 17 := im_D.of (by decide +kernel)
theorem D142_17 {g : im_g} : im_D g 142 17 (.iconst 3) 18 := im_D.of (by decide +kernel)
theorem D142_18 {g : im_g} : im_D g 142 18 (.if_icmp .eq 6) 21 := im_D.of (by decide +kernel)
theorem D142_21 {g : im_g} : im_D g 142 21 (.bipush (-5)) 23 := im_D.of (by decide +kernel)
theorem D142_23 {g : im_g} : im_D g 142 23 (.ireturn) 24 := im_D.of (by decide +kernel)
theorem D142_24 {g : im_g} : im_D g 142 24 (.iload_n 3) 25 := im_D.of (by decide +kernel)
theorem D142_25 {g : im_g} : im_D g 142 25 (.iconst 1) 26 := im_D.of (by decide +kernel)
theorem D142_26 {g : im_g} : im_D g 142 26 (.iadd) 27 := im_D.of (by decide +kernel)
theorem D142_27 {g : im_g} : im_D g 142 27 (.istore 4) 29 := im_D.of (by decide +kernel)
theorem D142_29 {g : im_g} : im_D g 142 29 (.iconst 0) 30 := im_D.of (by decide +kernel)
theorem D142_30 {g : im_g} : im_D g 142 30 (.istore 5) 32 := im_D.of (by decide +kernel)
theorem D142_32 {g : im_g} : im_D g 142 32 (.iload 5) 34 := im_D.of (by decide +kernel)
theorem D142_34 {g : im_g} : im_D g 142 34 (.bipush 8) 36 := im_D.of (by decide +kernel)
theorem D142_36 {g : im_g} : im_D g 142 36 (.if_icmp .ge 155) 39 := im_D.of (by decide +kernel)
theorem D142_39 {g : im_g} : im_D g 142 39 (.aload_n 0) 40 := im_D.of (by decide +kernel)
theorem D142_40 {g : im_g} : im_D g 142 40 (.getfield 55) 43 := im_D.of (by decide +kernel)
theorem D142_43 {g : im_g} : im_D g 142 43 (.iload 4) 45 := im_D.of (by decide +kernel)
theorem D142_45 {g : im_g} : im_D g 142 45 (.invokevirtual 252) 48 := im_D.of (by decide +kernel)
theorem D142_48 {g : im_g} : im_D g 142 48 (.ifCond .eq 143) 51 := im_D.of (by decide +kernel)
theorem D142_51 {g : im_g} : im_D g 142 51 (.aload_n 0) 52 := im_D.of (by decide +kernel)
theorem D142_52 {g : im_g} : im_D g 142 52 (.iload 4) 54 := im_D.of (by decide +kernel)
theorem D142_54 {g : im_g} : im_D g 142 54 (.aload_n 1) 55 := im_D.of (by decide +kernel)
theorem D142_55 {g : im_g} : im_D g 142 55 (.iload_n 2) 56 := im_D.of (by decide +kernel)
theorem D142_56 {g : im_g} : im_D g 142 56 (.invokevirtual 255) 59 := im_D.of (by decide +kernel)
theorem D142_59 {g : im_g} : im_D g 142 59 (.ifCond .eq 114) 62 := im_D.of (by decide +kernel)
theorem D142_62 {g : im_g} : im_D g 142 62 (.aload_n 1) 63 := im_D.of (by decide +kernel)
theorem D142_63 {g : im_g} : im_D g 142 63 (.getfield 259) 66 := im_D.of (by decide +kernel)
theorem D142_66 {g : im_g} : im_D g 142 66 (.iload_n 2) 67 := im_D.of (by decide +kernel)
theorem D142_67 {g : im_g} : im_D g 142 67 (.iaload) 68 := im_D.of (by decide +kernel)
theorem D142_68 {g : im_g} : im_D g 142 68 (.bipush 29) 70 := im_D.of (by decide +kernel)
theorem D142_70 {g : im_g} : im_D g 142 70 (.if_icmp .ne 18) 73 := im_D.of (by decide +kernel)
theorem D142_73 {g : im_g} : im_D g 142 73 (.aload_n 0) 74 := im_D.of (by decide +kernel)
theorem D142_74 {g : im_g} : im_D g 142 74 (.iload 4) 76 := im_D.of (by decide +kernel)
theorem D142_76 {g : im_g} : im_D g 142 76 (.aload_n 1) 77 := im_D.of (by decide +kernel)
theorem D142_77 {g : im_g} : im_D g 142 77 (.getfield 260) 80 := im_D.of (by decide +kernel)
theorem D142_80 {g : im_g} : im_D g 142 80 (.iload_n 2) 81 := im_D.of (by decide +kernel)
theorem D142_81 {g : im_g} : im_D g 142 81 (.aaload) 82 := im_D.of (by decide +kernel)
theorem D142_82 {g : im_g} : im_D g 142 82 (.invokevirtual 261) 85 := im_D.of (by decide +kernel)
theorem D142_85 {g : im_g} : im_D g 142 85 (.goto 12) 88 := im_D.of (by decide +kernel)
theorem D142_88 {g : im_g} : im_D g 142 88 (.aload_n 0) 89 := im_D.of (by decide +kernel)
theorem D142_89 {g : im_g} : im_D g 142 89 (.iload 4) 91 := im_D.of (by decide +kernel)
theorem D142_91 {g : im_g} : im_D g 142 91 (.iconst 1) 92 := im_D.of (by decide +kernel)
theorem D142_92 {g : im_g} : im_D g 142 92 (.iadd) 93 := im_D.of (by decide +kernel)
theorem D142_93 {g : im_g} : im_D g 142 93 (.iconst 0) 94 := im_D.of (by decide +kernel)
theorem D142_94 {g : im_g} : im_D g 142 94 (.invokevirtual 101) 97 := im_D.of (by decide +kernel)
theorem D142_97 {g : im_g} : im_D g 142 97 (.istore 6) 99 := im_D.of (by decide +kernel)
theorem D142_99 {g : im_g} : im_D g 142 99 (.aload_n 0) 100 := im_D.of (by decide +kernel)
theorem D142_100 {g : im_g} : im_D g 142 100 (.getfield 86) 103 := im_D.of (by decide +kernel)
theorem D142_103 {g : im_g} : im_D g 142 103 (.ifCond .eq 6) 106 := im_D.of (by decide +kernel)
theorem D142_106 {g : im_g} : im_D g 142 106 (.bipush (-8)) 108 := im_D.of (by decide +kernel)
theorem D142_108 {g : im_g} : im_D g 142 108 (.ireturn) 109 := im_D.of (by decide +kernel)
theorem D142_109 {g : im_g} : im_D g 142 109 (.aload_n 1) 110 := im_D.of (by decide +kernel)
theorem D142_110 {g : im_g} : im_D g 142 110 (.getfield 259) 113 := im_D.of (by decide +kernel)
theorem D142_113 {g : im_g} : im_D g 142 113 (.iload_n 2) 114 := im_D.of (by decide +kernel)
theorem D142_114 {g : im_g} : im_D g 142 114 (.iaload) 115 := im_D.of (by decide +kernel)
theorem D142_115 {g : im_g} : im_D g 142 115 (.bipush 28) 117 := im_D.of (by decide +kernel)
theorem D142_117 {g : im_g} : im_D g 142 117 (.if_icmp .ne 28) 120 := im_D.of (by decide +kernel)
theorem D142_120 {g : im_g} : im_D g 142 120 (.aload_n 0) 121 := im_D.of (by decide +kernel)
theorem D142_121 {g : im_g} : im_D g 142 121 (.getfield 11) 124 := im_D.of (by decide +kernel)
theorem D142_124 {g : im_g} : im_D g 142 124 (.iconst 0) 125 := im_D.of (by decide +kernel)
theorem D142_125 {g : im_g} : im_D g 142 125 (.aaload) 126 := im_D.of (by decide +kernel)
theorem D142_126 {g : im_g} : im_D g 142 126 (.aload_n 1) 127 := im_D.of (by decide +kernel)
theorem D142_127 {g : im_g} : im_D g 142 127 (.getfield 260) 130 := im_D.of (by decide +kernel)
theorem D142_130 {g : im_g} : im_D g 142 130 (.iload_n 2) 131 := im_D.of (by decide +kernel)
theorem D142_131 {g : im_g} : im_D g 142 131 (.aaload) 132 := im_D.of (by decide +kernel)
theorem D142_132 {g : im_g} : im_D g 142 132 (.invokevirtual 127) 135 := im_D.of (by decide +kernel)
theorem D142_135 {g : im_g} : im_D g 142 135 (.ifCond .ne 7) 138 := im_D.of (by decide +kernel)
theorem D142_138 {g : im_g} : im_D g 142 138 (.iconst 1) 139 := im_D.of (by decide +kernel)
theorem D142_139 {g : im_g} : im_D g 142 139 (.goto 4) 142 := im_D.of (by decide +kernel)
theorem D142_142 {g : im_g} : im_D g 142 142 (.iconst 0) 143 := im_D.of (by decide +kernel)
theorem D142_143 {g : im_g} : im_D g 142 143 (.istore 6) 145 := im_D.of (by decide +kernel)
theorem D142_145 {g : im_g} : im_D g 142 145 (.iload 6) 147 := im_D.of (by decide +kernel)
theorem D142_147 {g : im_g} : im_D g 142 147 (.ifCond .eq 26) 150 := im_D.of (by decide +kernel)
theorem D142_150 {g : im_g} : im_D g 142 150 (.aload_n 0) 151 := im_D.of (by decide +kernel)
theorem D142_151 {g : im_g} : im_D g 142 151 (.getfield 31) 154 := im_D.of (by decide +kernel)
theorem D142_154 {g : im_g} : im_D g 142 154 (.aload_n 0) 155 := im_D.of (by decide +kernel)
theorem D142_155 {g : im_g} : im_D g 142 155 (.getfield 55) 158 := im_D.of (by decide +kernel)
theorem D142_158 {g : im_g} : im_D g 142 158 (.iload 4) 160 := im_D.of (by decide +kernel)
theorem D142_160 {g : im_g} : im_D g 142 160 (.invokevirtual 224) 163 := im_D.of (by decide +kernel)
theorem D142_163 {g : im_g} : im_D g 142 163 (.putfield 183) 166 := im_D.of (by decide +kernel)
theorem D142_166 {g : im_g} : im_D g 142 166 (.aload_n 0) 167 := im_D.of (by decide +kernel)
theorem D142_167 {g : im_g} : im_D g 142 167 (.aload_n 1) 168 := im_D.of (by decide +kernel)
theorem D142_168 {g : im_g} : im_D g 142 168 (.iload_n 2) 169 := im_D.of (by decide +kernel)
theorem D142_169 {g : im_g} : im_D g 142 169 (.invokevirtual 264) 172 := im_D.of (by decide +kernel)
theorem D142_172 {g : im_g} : im_D g 142 172 (.ireturn) 173 := im_D.of (by decide +kernel)
theorem D142_173 {g : im_g} : im_D g 142 173 (.aload_n 0) 174 := im_D.of (by decide +kernel)
theorem D142_174 {g : im_g} : im_D g 142 174 (.getfield 55) 177 := im_D.of (by decide +kernel)
theorem D142_177 {g : im_g} : im_D g 142 177 (.getfield 112) 180 := im_D.of (by decide +kernel)
theorem D142_180 {g : im_g} : im_D g 142 180 (.iload 4) 182 := im_D.of (by decide +kernel)
theorem D142_182 {g : im_g} : im_D g 142 182 (.iaload) 183 := im_D.of (by decide +kernel)
theorem D142_183 {g : im_g} : im_D g 142 183 (.istore 4) 185 := im_D.of (by decide +kernel)
theorem D142_185 {g : im_g} : im_D g 142 185 (.iinc 5 1) 188 := im_D.of (by decide +kernel)
theorem D142_188 {g : im_g} : im_D g 142 188 (.goto (-156)) 191 := im_D.of (by decide +kernel)
theorem D142_191 {g : im_g} : im_D g 142 191 (.bipush (-5)) 193 := im_D.of (by decide +kernel)
theorem D142_193 {g : im_g} : im_D g 142 193 (.ireturn) 194 := im_D.of (by decide +kernel)
theorem D143_0 {g : im_g} : im_D g 143 0 (.aload_n 2) 1 := im_D.of (by decide +kernel)
theorem D143_1 {g : im_g} : im_D g 143 1 (.getfield 259) 4 := im_D.of (by decide +kernel)
theorem D143_4 {g : im_g} : im_D g 143 4 (.iload_n 3) 5 := im_D.of (by decide +kernel)
theorem D143_5 {g : im_g} : im_D g 143 5 (.iaload) 6 := im_D.of (by decide +kernel)
theorem D143_6 {g : im_g} : im_D g 143 6 (.istore 4) 8 := im_D.of (by decide +kernel)
theorem D143_8 {g : im_g} : im_D g 143 8 (.aload_n 0) 9 := im_D.of (by decide +kernel)
theorem D143_9 {g : im_g} : im_D g 143 9 (.getfield 55) 12 := im_D.of (by decide +kernel)
theorem D143_12 {g : im_g} : im_D g 143 12 (.getfield 89) 15 := im_D.of (by decide +kernel)
theorem D143_15 {g : im_g} : im_D g 143 15 (.iload_n 1) 16 := im_D.of (by decide +kernel)
theorem D143_16 {g : im_g} : im_D g 143 16 (.iaload) 17 := im_D.of (by decide +kernel)
theorem D143_17 {g : im_g} : im_D g 143 17 (.iload 4) 19 := im_D.of (by decide +kernel)
theorem D143_19 {g : im_g} : im_D g 143 19 (.if_icmp .eq 5) 22 := im_D.of (by decide +kernel)
theorem D143_22 {g : im_g} : im_D g 143 22 (.iconst 0) 23 := im_D.of (by decide +kernel)
theorem D143_23 {g : im_g} : im_D g 143 23 (.ireturn) 24 := im_D.of (by decide +kernel)
theorem D143_24 {g : im_g} : im_D g 143 24 (.aload_n 0) 25 := im_D.of (by decide +kernel)
theorem D143_25 {g : im_g} : im_D g 143 25 (.getfield 55) 28 := im_D.of (by decide +kernel)
theorem D143_28 {g : im_g} : im_D g 143 28 (.getfield 68) 31 := im_D.of (by decide +kernel)
theorem D143_31 {g : im_g} : im_D g 143 31 (.iload_n 1) 32 := im_D.of (by decide +kernel)
theorem D143_32 {g : im_g} : im_D g 143 32 (.laload) 33 := im_D.of (by decide +kernel)
theorem D143_33 {g : im_g} : im_D g 143 33 (.aload_n 2) 34 := im_D.of (by decide +kernel)
theorem D143_34 {g : im_g} : im_D g 143 34 (.getfield 267) 37 := im_D.of (by decide +kernel)
theorem D143_37 {g : im_g} : im_D g 143 37 (.iload_n 3) 38 := im_D.of (by decide +kernel)
theorem D143_38 {g : im_g} : im_D g 143 38 (.laload) 39 := im_D.of (by decide +kernel)
theorem D143_39 {g : im_g} : im_D g 143 39 (.lcmp) 40 := im_D.of (by decide +kernel)
theorem D143_40 {g : im_g} : im_D g 143 40 (.ifCond .ne 26) 43 := im_D.of (by decide +kernel)
theorem D143_43 {g : im_g} : im_D g 143 43 (.aload_n 0) 44 := im_D.of (by decide +kernel)
theorem D143_44 {g : im_g} : im_D g 143 44 (.getfield 55) 47 := im_D.of (by decide +kernel)
theorem D143_47 {g : im_g} : im_D g 143 47 (.getfield 63) 50 := im_D.of (by decide +kernel)
theorem D143_50 {g : im_g} : im_D g 143 50 (.iload_n 1) 51 := im_D.of (by decide +kernel)
theorem D143_51 {g : im_g} : im_D g 143 51 (.laload) 52 := im_D.of (by decide +kernel)
theorem D143_52 {g : im_g} : im_D g 143 52 (.aload_n 2) 53 := im_D.of (by decide +kernel)
theorem D143_53 {g : im_g} : im_D g 143 53 (.getfield 268) 56 := im_D.of (by decide +kernel)
theorem D143_56 {g : im_g} : im_D g 143 56 (.iload_n 3) 57 := im_D.of (by decide +kernel)
theorem D143_57 {g : im_g} : im_D g 143 57 (.laload) 58 := im_D.of (by decide +kernel)
theorem D143_58 {g : im_g} : im_D g 143 58 (.lcmp) 59 := im_D.of (by decide +kernel)
theorem D143_59 {g : im_g} : im_D g 143 59 (.ifCond .ne 7) 62 := im_D.of (by decide +kernel)
theorem D143_62 {g : im_g} : im_D g 143 62 (.iconst 1) 63 := im_D.of (by decide +kernel)
theorem D143_63 {g : im_g} : im_D g 143 63 (.goto 4) 66 := im_D.of (by decide +kernel)
theorem D143_66 {g : im_g} : im_D g 143 66 (.iconst 0) 67 := im_D.of (by decide +kernel)
theorem D143_67 {g : im_g} : im_D g 143 67 (.istore 5) 69 := im_D.of (by decide +kernel)
theorem D143_69 {g : im_g} : im_D g 143 69 (.iload 4) 71 := im_D.of (by decide +kernel)
theorem D143_71 {g : im_g} : im_D g 143 71 (.bipush 30) 73 := im_D.of (by decide +kernel)
theorem D143_73 {g : im_g} : im_D g 143 73 (.if_icmp .eq 34) 76 := im_D.of (by decide +kernel)
theorem D143_76 {g : im_g} : im_D g 143 76 (.iload 5) 78 := im_D.of (by decide +kernel)
theorem D143_78 {g : im_g} : im_D g 143 78 (.ifCond .eq 33) 81 := im_D.of (by decide +kernel)
theorem D143_81 {g : im_g} : im_D g 143 81 (.iload 4) 83 := im_D.of (by decide +kernel)
theorem D143_83 {g : im_g} : im_D g 143 83 (.bipush 29) 85 := im_D.of (by decide +kernel)
theorem D143_85 {g : im_g} : im_D g 143 85 (.if_icmp .eq 22) 88 := im_D.of (by decide +kernel)
theorem D143_88 {g : im_g} : im_D g 143 88 (.aload_n 0) 89 := im_D.of (by decide +kernel)
theorem D143_89 {g : im_g} : im_D g 143 89 (.getfield 55) 92 := im_D.of (by decide +kernel)
theorem D143_92 {g : im_g} : im_D g 143 92 (.getfield 218) 95 := im_D.of (by decide +kernel)
theorem D143_95 {g : im_g} : im_D g 143 95 (.iload_n 1) 96 := im_D.of (by decide +kernel)
theorem D143_96 {g : im_g} : im_D g 143 96 (.laload) 97 := im_D.of (by decide +kernel)
theorem D143_97 {g : im_g} : im_D g 143 97 (.aload_n 2) 98 := im_D.of (by decide +kernel)
theorem D143_98 {g : im_g} : im_D g 143 98 (.getfield 269) 101 := im_D.of (by decide +kernel)
theorem D143_101 {g : im_g} : im_D g 143 101 (.iload_n 3) 102 := im_D.of (by decide +kernel)
theorem D143_102 {g : im_g} : im_D g 143 102 (.laload) 103 := im_D.of (by decide +kernel)
theorem D143_103 {g : im_g} : im_D g 143 103 (.lcmp) 104 := im_D.of (by decide +kernel)
theorem D143_104 {g : im_g} : im_D g 143 104 (.ifCond .ne 7) 107 := im_D.of (by decide +kernel)
theorem D143_107 {g : im_g} : im_D g 143 107 (.iconst 1) 108 := im_D.of (by decide +kernel)
theorem D143_108 {g : im_g} : im_D g 143 108 (.goto 4) 111 := im_D.of (by decide +kernel)
theorem D143_111 {g : im_g} : im_D g 143 111 (.iconst 0) 112 := im_D.of (by decide +kernel)
theorem D143_112 {g : im_g} : im_D g 143 112 (.ireturn) 113 := im_D.of (by decide +kernel)
theorem D144_0 {g : im_g} : im_D g 144 0 (.aload_n 0) 1 := im_D.of (by decide +kernel)
theorem D144_1 {g : im_g} : im_D g 144 1 (.getfield 55) 4 := im_D.of (by decide +kernel)
theorem D144_4 {g : im_g} : im_D g 144 4 (.getfield 134) 7 := im_D.of (by decide +kernel)
theorem D144_7 {g : im_g} : im_D g 144 7 (.iload_n 1) 8 := im_D.of (by decide +kernel)
theorem D144_8 {g : im_g} : im_D g 144 8 (.iaload) 9 := im_D.of (by decide +kernel)
theorem D144_9 {g : im_g} : im_D g 144 9 (.istore_n 3) 10 := im_D.of (by decide +kernel)
theorem D144_10 {g : im_g} : im_D g 144 10 (.iconst 0) 11 := im_D.of (by decide +kernel)
theorem D144_11 {g : im_g} : im_D g 144 11 (.istore 4) 13 := im_D.of (by decide +kernel)
theorem D144_13 {g : im_g} : im_D g 144 13 (.iload 4) 15 := im_D.of (by decide +kernel)
theorem D144_15 {g : im_g} : im_D g 144 15 (.i2l) 16 := im_D.of (by decide +kernel)
theorem D144_16 {g : im_g} : im_D g 144 16 (.aload_n 0) 17 := im_D.of (by decide +kernel)
theorem D144_17 {g : im_g} : im_D g 144 17 (.getfield 55) 20 := im_D.of (by decide +kernel)
theorem D144_20 {g : im_g} : im_D g 144 20 (.getfield 218) 23 := im_D.of (by decide +kernel)
theorem D144_23 {g : im_g} : im_D g 144 23 (.iload_n 1) 24 := im_D.of (by decide +kernel)
theorem D144_24 {g : im_g} : im_D g 144 24 (.laload) 25 := im_D.of (by decide +kernel)
theorem D144_25 {g : im_g} : im_D g 144 25 (.lcmp) 26 := im_D.of (by decide +kernel)
theorem D144_26 {g : im_g} : im_D g 144 26 (.ifCond .ge 67) 29 := im_D.of (by decide +kernel)
theorem D144_29 {g : im_g} : im_D g 144 29 (.aload_n 0) 30 := im_D.of (by decide +kernel)
theorem D144_30 {g : im_g} : im_D g 144 30 (.getfield 55) 33 := im_D.of (by decide +kernel)
theorem D144_33 {g : im_g} : im_D g 144 33 (.iload_n 3) 34 := im_D.of (by decide +kernel)
theorem D144_34 {g : im_g} : im_D g 144 34 (.aload_n 0) 35 := im_D.of (by decide +kernel)
theorem D144_35 {g : im_g} : im_D g 144 35 (.getfield 11) 38 := im_D.of (by decide +kernel)
theorem D144_38 {g : im_g} : im_D g 144 38 (.iconst 0) 39 := im_D.of (by decide +kernel)
theorem D144_39 {g : im_g} : im_D g 144 39 (.aaload) 40 := im_D.of (by decide +kernel)
theorem D144_40 {g : im_g} : im_D g 144 40 (.invokevirtual 137) 43 := im_D.of (by decide +kernel)
theorem D144_43 {g : im_g} : im_D g 144 43 (.istore_n 3) 44 := im_D.of (by decide +kernel)
theorem D144_44 {g : im_g} : im_D g 144 44 (.aload_n 0) 45 := im_D.of (by decide +kernel)
theorem D144_45 {g : im_g} : im_D g 144 45 (.getfield 55) 48 := im_D.of (by decide +kernel)
theorem D144_48 {g : im_g} : im_D g 144 48 (.iload_n 3) 49 := im_D.of (by decide +kernel)
theorem D144_49 {g : im_g} : im_D g 144 49 (.aload_n 0) 50 := im_D.of (by decide +kernel)
theorem D144_50 {g : im_g} : im_D g 144 50 (.getfield 11) 53 := im_D.of (by decide +kernel)
theorem D144_53 {g : im_g} : im_D g 144 53 (.iconst 1) 54 := im_D.of (by decide +kernel)
theorem D144_54 {g : im_g} : im_D g 144 54 (.aaload) 55 := im_D.of (by decide +kernel)
theorem D144_55 {g : im_g} : im_D g 144 55 (.invokevirtual 137) 58 := im_D.of (by decide +kernel)
theorem D144_58 {g : im_g} : im_D g 144 58 (.istore_n 3) 59 := im_D.of (by decide +kernel)
theorem D144_59 {g : im_g} : im_D g 144 59 (.aload_n 0) 60 := im_D.of (by decide +kernel)
theorem D144_60 {g : im_g} : im_D g 144 60 (.getfield 11) 63 := im_D.of (by decide +kernel)
theorem D144_63 {g : im_g} : im_D g 144 63 (.iconst 0) 64 := im_D.of (by decide +kernel)
theorem D144_64 {g : im_g} : im_D g 144 64 (.aaload) 65 := im_D.of (by decide +kernel)
theorem D144_65 {g : im_g} : im_D g 144 65 (.aload_n 2) 66 := im_D.of (by decide +kernel)
theorem D144_66 {g : im_g} : im_D g 144 66 (.invokevirtual 127) 69 := im_D.of (by decide +kernel)
theorem D144_69 {g : im_g} : im_D g 144 69 (.ifCond .gt 18) 72 := im_D.of (by decide +kernel)
theorem D144_72 {g : im_g} : im_D g 144 72 (.aload_n 0) 73 := im_D.of (by decide +kernel)
theorem D144_73 {g : im_g} : im_D g 144 73 (.getfield 11) 76 := im_D.of (by decide +kernel)
theorem D144_76 {g : im_g} : im_D g 144 76 (.iconst 1) 77 := im_D.of (by decide +kernel)
theorem D144_77 {g : im_g} : im_D g 144 77 (.aaload) 78 := im_D.of (by decide +kernel)
theorem D144_78 {g : im_g} : im_D g 144 78 (.aload_n 2) 79 := im_D.of (by decide +kernel)
theorem D144_79 {g : im_g} : im_D g 144 79 (.invokevirtual 127) 82 := im_D.of (by decide +kernel)
theorem D144_82 {g : im_g} : im_D g 144 82 (.ifCond .lt 5) 85 := im_D.of (by decide +kernel)
theorem D144_85 {g : im_g} : im_D g 144 85 (.iconst 1) 86 := im_D.of (by decide +kernel)
theorem D144_86 {g : im_g} : im_D g 144 86 (.ireturn) 87 := im_D.of (by decide +kernel)
theorem D144_87 {g : im_g} : im_D g 144 87 (.iinc 4 1) 90 := im_D.of (by decide +kernel)
theorem D144_90 {g : im_g} : im_D g 144 90 (.goto (-77)) 93 := im_D.of (by decide +kernel)
theorem D144_93 {g : im_g} : im_D g 144 93 (.iconst 0) 94 := im_D.of (by decide +kernel)
theorem D144_94 {g : im_g} : im_D g 144 94 (.ireturn) 95 := im_D.of (by decide +kernel)
theorem D145_0 {g : im_g} : im_D g 145 0 (.aload_n 1) 1 := im_D.of (by decide +kernel)
theorem D145_1 {g : im_g} : im_D g 145 1 (.getfield 267) 4 := im_D.of (by decide +kernel)
theorem D145_4 {g : im_g} : im_D g 145 4 (.iload_n 2) 5 := im_D.of (by decide +kernel)
theorem D145_5 {g : im_g} : im_D g 145 5 (.laload) 6 := im_D.of (by decide +kernel)
theorem D145_6 {g : im_g} : im_D g 145 6 (.lstore_n 3) 7 := im_D.of (by decide +kernel)
theorem D145_7 {g : im_g} : im_D g 145 7 (.aload_n 1) 8 := im_D.of (by decide +kernel)
theorem D145_8 {g : im_g} : im_D g 145 8 (.getfield 268) 11 := im_D.of (by decide +kernel)
theorem D145_11 {g : im_g} : im_D g 145 11 (.iload_n 2) 12 := im_D.of (by decide +kernel)
theorem D145_12 {g : im_g} : im_D g 145 12 (.laload) 13 := im_D.of (by decide +kernel)
theorem D145_13 {g : im_g} : im_D g 145 13 (.lstore 5) 15 := im_D.of (by decide +kernel)
theorem D145_15 {g : im_g} : im_D g 145 15 (.aload_n 1) 16 := im_D.of (by decide +kernel)
theorem D145_16 {g : im_g} : im_D g 145 16 (.getfield 269) 19 := im_D.of (by decide +kernel)
theorem D145_19 {g : im_g} : im_D g 145 19 (.iload_n 2) 20 := im_D.of (by decide +kernel)
theorem D145_20 {g : im_g} : im_D g 145 20 (.laload) 21 := im_D.of (by decide +kernel)
theorem D145_21 {g : im_g} : im_D g 145 21 (.lstore 7) 23 := im_D.of (by decide +kernel)
theorem D145_23 {g : im_g} : im_D g 145 23 (.aload_n 1) 24 := im_D.of (by decide +kernel)
theorem D145_24 {g : im_g} : im_D g 145 24 (.getfield 260) 27 := im_D.of (by decide +kernel)
theorem D145_27 {g : im_g} : im_D g 145 27 (.iload_n 2) 28 := im_D.of (by decide +kernel)
theorem D145_28 {g : im_g} : im_D g 145 28 (.aaload) 29 := im_D.of (by decide +kernel)
theorem D145_29 {g : im_g} : im_D g 145 29 (.astore 9) 31 := im_D.of (by decide +kernel)
theorem D145_31 {g : im_g} : im_D g 145 31 (.aload_n 1) 32 := im_D.of (by decide +kernel)
theorem D145_32 {g : im_g} : im_D g 145 32 (.getfield 259) 35 := im_D.of (by decide +kernel)
theorem D145_35 {g : im_g} : im_D g 145 35 (.iload_n 2) 36 := im_D.of (by decide +kernel)
theorem D145_36 {g : im_g} : im_D g 145 36 (.iaload) 37 := im_D.of (by decide +kernel)
theorem D145_37 {g : im_g} : im_D g 145 37 (.bipush 29) 39 := im_D.of (by decide +kernel)
theorem D145_39 {g : im_g} : im_D g 145 39 (.if_icmp .ne 28) 42 := im_D.of (by decide +kernel)
theorem D145_42 {g : im_g} : im_D g 145 42 (.aload_n 0) 43 := im_D.of (by decide +kernel)
theorem D145_43 {g : im_g} : im_D g 145 43 (.getfield 31) 46 := im_D.of (by decide +kernel)
theorem D145_46 {g : im_g} : im_D g 145 46 (.getfield 148) 49 := im_D.of (by decide +kernel)
theorem D145_49 {g : im_g} : im_D g 145 49 (.lload_n 3) 50 := im_D.of (by decide +kernel)
theorem D145_50 {g : im_g} : im_D g 145 50 (.lload 5) 52 := im_D.of (by decide +kernel)
theorem D145_52 {g : im_g} : im_D g 145 52 (.aload 9) 54 := im_D.of (by decide +kernel)
theorem D145_54 {g : im_g} : im_D g 145 54 (.invokevirtual 237) 57 := im_D.of (by decide +kernel)
theorem D145_57 {g : im_g} : im_D g 145 57 (.ifCond .eq 7) 60 := im_D.of (by decide +kernel)
theorem D145_60 {g : im_g} : im_D g 145 60 (.iconst 0) 61 := im_D.of (by decide +kernel)
theorem D145_61 {g : im_g} : im_D g 145 61 (.goto 5) 64 := im_D.of (by decide +kernel)
theorem D145_64 {g : im_g} : im_D g 145 64 (.bipush (-9)) 66 := im_D.of (by decide +kernel)
theorem D145_66 {g : im_g} : im_D g 145 66 (.ireturn) 67 := im_D.of (by decide +kernel)
theorem D145_67 {g : im_g} : im_D g 145 67 (.aload_n 1) 68 := im_D.of (by decide +kernel)
theorem D145_68 {g : im_g} : im_D g 145 68 (.getfield 259) 71 := im_D.of (by decide +kernel)
theorem D145_71 {g : im_g} : im_D g 145 71 (.iload_n 2) 72 := im_D.of (by decide +kernel)
theorem D145_72 {g : im_g} : im_D g 145 72 (.iaload) 73 := im_D.of (by decide +kernel)
theorem D145_73 {g : im_g} : im_D g 145 73 (.bipush 30) 75 := im_D.of (by decide +kernel)
theorem D145_75 {g : im_g} : im_D g 145 75 (.if_icmp .ne 5) 78 := im_D.of (by decide +kernel)
theorem D145_78 {g : im_g} : im_D g 145 78 (.iconst 0) 79 := im_D.of (by decide +kernel)
theorem D145_79 {g : im_g} : im_D g 145 79 (.ireturn) 80 := im_D.of (by decide +kernel)
theorem D145_80 {g : im_g} : im_D g 145 80 (.aload 9) 82 := im_D.of (by decide +kernel)
theorem D145_82 {g : im_g} : im_D g 145 82 (.getfield 108) 85 := im_D.of (by decide +kernel)
theorem D145_85 {g : im_g} : im_D g 145 85 (.ifCond .gt 28) 88 := im_D.of (by decide +kernel)
theorem D145_88 {g : im_g} : im_D g 145 88 (.aload_n 0) 89 := im_D.of (by decide +kernel)
theorem D145_89 {g : im_g} : im_D g 145 89 (.getfield 52) 92 := im_D.of (by decide +kernel)
theorem D145_92 {g : im_g} : im_D g 145 92 (.iconst 1) 93 := im_D.of (by decide +kernel)
theorem D145_93 {g : im_g} : im_D g 145 93 (.lload_n 3) 94 := im_D.of (by decide +kernel)
theorem D145_94 {g : im_g} : im_D g 145 94 (.lload 5) 96 := im_D.of (by decide +kernel)
theorem D145_96 {g : im_g} : im_D g 145 96 (.lload 7) 98 := im_D.of (by decide +kernel)
theorem D145_98 {g : im_g} : im_D g 145 98 (.aload 9) 100 := im_D.of (by decide +kernel)
theorem D145_100 {g : im_g} : im_D g 145 100 (.invokevirtual 234) 103 := im_D.of (by decide +kernel)
theorem D145_103 {g : im_g} : im_D g 145 103 (.ifCond .eq 7) 106 := im_D.of (by decide +kernel)
theorem D145_106 {g : im_g} : im_D g 145 106 (.iconst 0) 107 := im_D.of (by decide +kernel)
theorem D145_107 {g : im_g} : im_D g 145 107 (.goto 5) 110 := im_D.of (by decide +kernel)
theorem D145_110 {g : im_g} : im_D g 145 110 (.bipush (-9)) 112 := im_D.of (by decide +kernel)
theorem D145_112 {g : im_g} : im_D g 145 112 (.ireturn) 113 := im_D.of (by decide +kernel)
theorem D145_113 {g : im_g} : im_D g 145 113 (.aload_n 0) 114 := im_D.of (by decide +kernel)
theorem D145_114 {g : im_g} : im_D g 145 114 (.getfield 59) 117 := im_D.of (by decide +kernel)
theorem D145_117 {g : im_g} : im_D g 145 117 (.ifCond .ne 38) 120 := im_D.of (by decide +kernel)
theorem D145_120 {g : im_g} : im_D g 145 120 (.aload_n 0) 121 := im_D.of (by decide +kernel)
theorem D145_121 {g : im_g} : im_D g 145 121 (.getfield 42) 124 := im_D.of (by decide +kernel)
theorem D145_124 {g : im_g} : im_D g 145 124 (.lload 5) 126 := im_D.of (by decide +kernel)
theorem D145_126 {g : im_g} : im_D g 145 126 (.lload 7) 128 := im_D.of (by decide +kernel)
theorem D145_128 {g : im_g} : im_D g 145 128 (.invokevirtual 71) 131 := im_D.of (by decide +kernel)
theorem D145_131 {g : im_g} : im_D g 145 131 (.aload 9) 133 := im_D.of (by decide +kernel)
theorem D145_133 {g : im_g} : im_D g 145 133 (.invokevirtual 127) 136 := im_D.of (by decide +kernel)
theorem D145_136 {g : im_g} : im_D g 145 136 (.ifCond .ge 6) 139 := im_D.of (by decide +kernel)
theorem D145_139 {g : im_g} : im_D g 145 139 (.bipush (-7)) 141 := im_D.of (by decide +kernel)
theorem D145_141 {g : im_g} : im_D g 145 141 (.ireturn) 142 := im_D.of (by decide +kernel)
theorem D145_142 {g : im_g} : im_D g 145 142 (.aload_n 0) 143 := im_D.of (by decide +kernel)
theorem D145_143 {g : im_g} : im_D g 145 143 (.getfield 42) 146 := im_D.of (by decide +kernel)
theorem D145_146 {g : im_g} : im_D g 145 146 (.lload 5) 148 := im_D.of (by decide +kernel)
theorem D145_148 {g : im_g} : im_D g 145 148 (.lload 7) 150 := im_D.of (by decide +kernel)
theorem D145_150 {g : im_g} : im_D g 145 150 (.aload 9) 152 := im_D.of (by decide +kernel)
theorem D145_152 {g : im_g} : im_D g 145 152 (.invokevirtual 244) 155 := im_D.of (by decide +kernel)
theorem D145_155 {g : im_g} : im_D g 145 155 (.aload_n 0) 156 := im_D.of (by decide +kernel)
theorem D145_156 {g : im_g} : im_D g 145 156 (.getfield 31) 159 := im_D.of (by decide +kernel)
theorem D145_159 {g : im_g} : im_D g 145 159 (.getfield 145) 162 := im_D.of (by decide +kernel)
theorem D145_162 {g : im_g} : im_D g 145 162 (.lload_n 3) 163 := im_D.of (by decide +kernel)
theorem D145_163 {g : im_g} : im_D g 145 163 (.lload 7) 165 := im_D.of (by decide +kernel)
theorem D145_165 {g : im_g} : im_D g 145 165 (.aload 9) 167 := im_D.of (by decide +kernel)
theorem D145_167 {g : im_g} : im_D g 145 167 (.invokevirtual 248) 170 := im_D.of (by decide +kernel)
theorem D145_170 {g : im_g} : im_D g 145 170 (.ireturn) 171 := im_D.of (by decide +kernel)
theorem D146_0 {g : im_g} : im_D g 146 0 (.aload_n 0) 1 := im_D.of (by decide +kernel)
theorem D146_1 {g : im_g} : im_D g 146 1 (.iconst 0) 2 := im_D.of (by decide +kernel)
theorem D146_2 {g : im_g} : im_D g 146 2 (.putfield 30) 5 := im_D.of (by decide +kernel)
theorem D146_5 {g : im_g} : im_D g 146 5 (.iconst 0) 6 := im_D.of (by decide +kernel)
theorem D146_6 {g : im_g} : im_D g 146 6 (.istore_n 2) 7 := im_D.of (by decide +kernel)
theorem D146_7 {g : im_g} : im_D g 146 7 (.iload_n 2) 8 := im_D.of (by decide +kernel)
theorem D146_8 {g : im_g} : im_D g 146 8 (.aload_n 1) 9 := im_D.of (by decide +kernel)
theorem D146_9 {g : im_g} : im_D g 146 9 (.getfield 30) 12 := im_D.of (by decide +kernel)
theorem D146_12 {g : im_g} : im_D g 146 12 (.if_icmp .ge 44) 15 := im_D.of (by decide +kernel)
theorem D146_15 {g : im_g} : im_D g 146 15 (.aload_n 0) 16 := im_D.of (by decide +kernel)
theorem D146_16 {g : im_g} : im_D g 146 16 (.aload_n 1) 17 := im_D.of (by decide +kernel)
theorem D146_17 {g : im_g} : im_D g 146 17 (.getfield 7) 20 := im_D.of (by decide +kernel)
theorem D146_20 {g : im_g} : im_D g 146 20 (.iload_n 2) 21 := im_D.of (by decide +kernel)
theorem D146_21 {g : im_g} : im_D g 146 21 (.iaload) 22 := im_D.of (by decide +kernel)
theorem D146_22 {g : im_g} : im_D g 146 22 (.aload_n 1) 23 := im_D.of (by decide +kernel)
theorem D146_23 {g : im_g} : im_D g 146 23 (.getfield 13) 26 := im_D.of (by decide +kernel)
theorem D146_26 {g : im_g} : im_D g 146 26 (.iload_n 2) 27 := im_D.of (by decide +kernel)
theorem D146_27 {g : im_g} : im_D g 146 27 (.laload) 28 := im_D.of (by decide +kernel)
theorem D146_28 {g : im_g} : im_D g 146 28 (.aload_n 1) 29 := im_D.of (by decide +kernel)
theorem D146_29 {g : im_g} : im_D g 146 29 (.getfield 17) 32 := im_D.of (by decide +kernel)
theorem D146_32 {g : im_g} : im_D g 146 32 (.iload_n 2) 33 := im_D.of (by decide +kernel)
theorem D146_33 {g : im_g} : im_D g 146 33 (.laload) 34 := im_D.of (by decide +kernel)
theorem D146_34 {g : im_g} : im_D g 146 34 (.aload_n 1) 35 := im_D.of (by decide +kernel)
theorem D146_35 {g : im_g} : im_D g 146 35 (.getfield 20) 38 := im_D.of (by decide +kernel)
theorem D146_38 {g : im_g} : im_D g 146 38 (.iload_n 2) 39 := im_D.of (by decide +kernel)
theorem D146_39 {g : im_g} : im_D g 146 39 (.laload) 40 := im_D.of (by decide +kernel)
theorem D146_40 {g : im_g} : im_D g 146 40 (.aload_n 1) 41 := im_D.of (by decide +kernel)
theorem D146_41 {g : im_g} : im_D g 146 41 (.getfield 25) 44 := im_D.of (by decide +kernel)
theorem D146_44 {g : im_g} : im_D g 146 44 (.iload_n 2) 45 := im_D.of (by decide +kernel)
theorem D146_45 {g : im_g} : im_D g 146 45 (.aaload) 46 := im_D.of (by decide +kernel)
theorem D146_46 {g : im_g} : im_D g 146 46 (.invokevirtual 42) 49 := im_D.of (by decide +kernel)
theorem D146_49 {g : im_g} : im_D g 146 49 (.pop) 50 := im_D.of (by decide +kernel)
theorem D146_50 {g : im_g} : im_D g 146 50 (.iinc 2 1) 53 := im_D.of (by decide +kernel)
theorem D146_53 {g : im_g} : im_D g 146 53 (.goto (-46)) 56 := im_D.of (by decide +kernel)
theorem D146_56 {g : im_g} : im_D g 146 56 (.return_) 57 := im_D.of (by decide +kernel)
theorem D147_0 {g : im_g} : im_D g 147 0 (.aload_n 0) 1 := im_D.of (by decide +kernel)
theorem D147_1 {g : im_g} : im_D g 147 1 (.getfield 16) 4 := im_D.of (by decide +kernel)
theorem D147_4 {g : im_g} : im_D g 147 4 (.lload_n 1) 5 := im_D.of (by decide +kernel)
theorem D147_5 {g : im_g} : im_D g 147 5 (.invokevirtual 299) 8 := im_D.of (by decide +kernel)
theorem D147_8 {g : im_g} : im_D g 147 8 (.ifCond .ne 6) 11 := im_D.of (by decide +kernel)
theorem D147_11 {g : im_g} : im_D g 147 11 (.bipush (-102)) 13 := im_D.of (by decide +kernel)
theorem D147_13 {g : im_g} : im_D g 147 13 (.ireturn) 14 := im_D.of (by decide +kernel)
theorem D147_14 {g : im_g} : im_D g 147 14 (.aload_n 0) 15 := im_D.of (by decide +kernel)
theorem D147_15 {g : im_g} : im_D g 147 15 (.getfield 16) 18 := im_D.of (by decide +kernel)
theorem D147_18 {g : im_g} : im_D g 147 18 (.aload_n 0) 19 := im_D.of (by decide +kernel)
theorem D147_19 {g : im_g} : im_D g 147 19 (.getfield 16) 22 := im_D.of (by decide +kernel)
theorem D147_22 {g : im_g} : im_D g 147 22 (.aload_n 0) 23 := im_D.of (by decide +kernel)
theorem D147_23 {g : im_g} : im_D g 147 23 (.getfield 9) 26 := im_D.of (by decide +kernel)
theorem D147_26 {g : im_g} : im_D g 147 26 (.iload_n 3) 27 := im_D.of (by decide +kernel)
theorem D147_27 {g : im_g} : im_D g 147 27 (.invokevirtual 303) 30 := im_D.of (by decide +kernel)
theorem D147_30 {g : im_g} : im_D g 147 30 (.invokevirtual 220) 33 := im_D.of (by decide +kernel)
theorem D147_33 {g : im_g} : im_D g 147 33 (.ifCond .eq 5) 36 := im_D.of (by decide +kernel)
theorem D147_36 {g : im_g} : im_D g 147 36 (.iconst (-1)) 37 := im_D.of (by decide +kernel)
theorem D147_37 {g : im_g} : im_D g 147 37 (.ireturn) 38 := im_D.of (by decide +kernel)
theorem D147_38 {g : im_g} : im_D g 147 38 (.aload_n 0) 39 := im_D.of (by decide +kernel)
theorem D147_39 {g : im_g} : im_D g 147 39 (.getfield 64) 42 := im_D.of (by decide +kernel)
theorem D147_42 {g : im_g} : im_D g 147 42 (.lload_n 1) 43 := im_D.of (by decide +kernel)
theorem D147_43 {g : im_g} : im_D g 147 43 (.lconst 0) 44 := im_D.of (by decide +kernel)
theorem D147_44 {g : im_g} : im_D g 147 44 (.invokevirtual 306) 47 := im_D.of (by decide +kernel)
theorem D147_47 {g : im_g} : im_D g 147 47 (.ifCond .ge 18) 50 := im_D.of (by decide +kernel)
theorem D147_50 {g : im_g} : im_D g 147 50 (.aload_n 0) 51 := im_D.of (by decide +kernel)
theorem D147_51 {g : im_g} : im_D g 147 51 (.getfield 64) 54 := im_D.of (by decide +kernel)
theorem D147_54 {g : im_g} : im_D g 147 54 (.getfield 271) 57 := im_D.of (by decide +kernel)
theorem D147_57 {g : im_g} : im_D g 147 57 (.bipush 20) 59 := im_D.of (by decide +kernel)
theorem D147_59 {g : im_g} : im_D g 147 59 (.if_icmp .lt 6) 62 := im_D.of (by decide +kernel)
theorem D147_62 {g : im_g} : im_D g 147 62 (.bipush (-9)) 64 := im_D.of (by decide +kernel)
theorem D147_64 {g : im_g} : im_D g 147 64 (.ireturn) 65 := im_D.of (by decide +kernel)
theorem D147_65 {g : im_g} : im_D g 147 65 (.aload_n 0) 66 := im_D.of (by decide +kernel)
theorem D147_66 {g : im_g} : im_D g 147 66 (.bipush 7) 68 := im_D.of (by decide +kernel)
theorem D147_68 {g : im_g} : im_D g 147 68 (.lload_n 1) 69 := im_D.of (by decide +kernel)
theorem D147_69 {g : im_g} : im_D g 147 69 (.lconst 0) 70 := im_D.of (by decide +kernel)
theorem D147_70 {g : im_g} : im_D g 147 70 (.lconst 0) 71 := im_D.of (by decide +kernel)
theorem D147_71 {g : im_g} : im_D g 147 71 (.iload_n 3) 72 := im_D.of (by decide +kernel)
theorem D147_72 {g : im_g} : im_D g 147 72 (.invokevirtual 228) 75 := im_D.of (by decide +kernel)
theorem D147_75 {g : im_g} : im_D g 147 75 (.istore 4) 77 := im_D.of (by decide +kernel)
theorem D147_77 {g : im_g} : im_D g 147 77 (.iload 4) 79 := im_D.of (by decide +kernel)
theorem D147_79 {g : im_g} : im_D g 147 79 (.ifCond .eq 6) 82 := im_D.of (by decide +kernel)
theorem D147_82 {g : im_g} : im_D g 147 82 (.iload 4) 84 := im_D.of (by decide +kernel)
theorem D147_84 {g : im_g} : im_D g 147 84 (.ireturn) 85 := im_D.of (by decide +kernel)
theorem D147_85 {g : im_g} : im_D g 147 85 (.aload_n 0) 86 := im_D.of (by decide +kernel)
theorem D147_86 {g : im_g} : im_D g 147 86 (.getfield 64) 89 := im_D.of (by decide +kernel)
theorem D147_89 {g : im_g} : im_D g 147 89 (.lload_n 1) 90 := im_D.of (by decide +kernel)
theorem D147_90 {g : im_g} : im_D g 147 90 (.lconst 0) 91 := im_D.of (by decide +kernel)
theorem D147_91 {g : im_g} : im_D g 147 91 (.aload_n 0) 92 := im_D.of (by decide +kernel)
theorem D147_92 {g : im_g} : im_D g 147 92 (.getfield 16) 95 := im_D.of (by decide +kernel)
theorem D147_95 {g : im_g} : im_D g 147 95 (.getfield 310) 98 := im_D.of (by decide +kernel)
theorem D147_98 {g : im_g} : im_D g 147 98 (.invokevirtual 313) 101 := im_D.of (by decide +kernel)
theorem D147_101 {g : im_g} : im_D g 147 101 (.pop) 102 := im_D.of (by decide +kernel)
theorem D147_102 {g : im_g} : im_D g 147 102 (.aload_n 0) 103 := im_D.of (by decide +kernel)
theorem D147_103 {g : im_g} : im_D g 147 103 (.getfield 64) 106 := im_D.of (by decide +kernel)
theorem D147_106 {g : im_g} : im_D g 147 106 (.getfield 271) 109 := im_D.of (by decide +kernel)
theorem D147_109 {g : im_g} : im_D g 147 109 (.ireturn) 110 := im_D.of (by decide +kernel)
theorem D148_0 {g : im_g} : im_D g 148 0 (.aload_n 0) 1 := im_D.of (by decide +kernel)
theorem D148_1 {g : im_g} : im_D g 148 1 (.bipush 8) 3 := im_D.of (by decide +kernel)
theorem D148_3 {g : im_g} : im_D g 148 3 (.lconst 0) 4 := im_D.of (by decide +kernel)
theorem D148_4 {g : im_g} : im_D g 148 4 (.lconst 0) 5 := im_D.of (by decide +kernel)
theorem D148_5 {g : im_g} : im_D g 148 5 (.lconst 0) 6 := im_D.of (by decide +kernel)
theorem D148_6 {g : im_g} : im_D g 148 6 (.iconst 0) 7 := im_D.of (by decide +kernel)
theorem D148_7 {g : im_g} : im_D g 148 7 (.invokevirtual 228) 10 := im_D.of (by decide +kernel)
theorem D148_10 {g : im_g} : im_D g 148 10 (.istore_n 1) 11 := im_D.of (by decide +kernel)
theorem D148_11 {g : im_g} : im_D g 148 11 (.iload_n 1) 12 := im_D.of (by decide +kernel)
theorem D148_12 {g : im_g} : im_D g 148 12 (.ifCond .eq 5) 15 := im_D.of (by decide +kernel)
theorem D148_15 {g : im_g} : im_D g 148 15 (.iload_n 1) 16 := im_D.of (by decide +kernel)
theorem D148_16 {g : im_g} : im_D g 148 16 (.ireturn) 17 := im_D.of (by decide +kernel)
theorem D148_17 {g : im_g} : im_D g 148 17 (.aload_n 0) 18 := im_D.of (by decide +kernel)
theorem D148_18 {g : im_g} : im_D g 148 18 (.getfield 64) 21 := im_D.of (by decide +kernel)
theorem D148_21 {g : im_g} : im_D g 148 21 (.getfield 271) 24 := im_D.of (by decide +kernel)
theorem D148_24 {g : im_g} : im_D g 148 24 (.istore_n 2) 25 := im_D.of (by decide +kernel)
theorem D148_25 {g : im_g} : im_D g 148 25 (.aload_n 0) 26 := im_D.of (by decide +kernel)
theorem D148_26 {g : im_g} : im_D g 148 26 (.getfield 64) 29 := im_D.of (by decide +kernel)
theorem D148_29 {g : im_g} : im_D g 148 29 (.iconst 0) 30 := im_D.of (by decide +kernel)
theorem D148_30 {g : im_g} : im_D g 148 30 (.putfield 271) 33 := im_D.of (by decide +kernel)
theorem D148_33 {g : im_g} : im_D g 148 33 (.iload_n 2) 34 := im_D.of (by decide +kernel)
theorem D148_34 {g : im_g} : im_D g 148 34 (.ireturn) 35 := im_D.of (by decide +kernel)
theorem D149_0 {g : im_g} : im_D g 149 0 (.aload_n 0) 1 := im_D.of (by decide +kernel)
theorem D149_1 {g : im_g} : im_D g 149 1 (.iconst (-1)) 2 := im_D.of (by decide +kernel)
theorem D149_2 {g : im_g} : im_D g 149 2 (.putfield 26) 5 := im_D.of (by decide +kernel)
theorem D149_5 {g : im_g} : im_D g 149 5 (.aload_n 0) 6 := im_D.of (by decide +kernel)
theorem D149_6 {g : im_g} : im_D g 149 6 (.iconst (-1)) 7 := im_D.of (by decide +kernel)
theorem D149_7 {g : im_g} : im_D g 149 7 (.putfield 30) 10 := im_D.of (by decide +kernel)
theorem D149_10 {g : im_g} : im_D g 149 10 (.return_) 11 := im_D.of (by decide +kernel)
theorem D151_0 {g : im_g} : im_D g 151 0 (.aload_n 0) 1 := im_D.of (by decide +kernel)
theorem D151_1 {g : im_g} : im_D g 151 1 (.invokevirtual 124) 4 := im_D.of (by decide +kernel)
theorem D151_4 {g : im_g} : im_D g 151 4 (.aload_n 0) 5 := im_D.of (by decide +kernel)
theorem D151_5 {g : im_g} : im_D g 151 5 (.getfield 127) 8 := im_D.of (by decide +kernel)
theorem D151_8 {g : im_g} : im_D g 151 8 (.bipush 20) 10 := im_D.of (by decide +kernel)
theorem D151_10 {g : im_g} : im_D g 151 10 (.iadd) 11 := im_D.of (by decide +kernel)
theorem D151_11 {g : im_g} : im_D g 151 11 (.sipush 16384) 14 := im_D.of (by decide +kernel)
theorem D151_14 {g : im_g} : im_D g 151 14 (.if_icmp .le 13) 17 := im_D.of (by decide +kernel)
theorem D151_27 {g : im_g} : im_D g 151 27 (.aload_n 0) 28 := im_D.of (by decide +kernel)
theorem D151_28 {g : im_g} : im_D g 151 28 (.iload_n 1) 29 := im_D.of (by decide +kernel)
theorem D151_29 {g : im_g} : im_D g 151 29 (.invokevirtual 138) 32 := im_D.of (by decide +kernel)
theorem D151_32 {g : im_g} : im_D g 151 32 (.aload_n 0) 33 := im_D.of (by decide +kernel)
theorem D151_33 {g : im_g} : im_D g 151 33 (.iload_n 2) 34 := im_D.of (by decide +kernel)
theorem D151_34 {g : im_g} : im_D g 151 34 (.invokevirtual 138) 37 := im_D.of (by decide +kernel)
theorem D151_37 {g : im_g} : im_D g 151 37 (.aload_n 0) 38 := im_D.of (by decide +kernel)
theorem D151_38 {g : im_g} : im_D g 151 38 (.iload_n 3) 39 := im_D.of (by decide +kernel)
theorem D151_39 {g : im_g} : im_D g 151 39 (.invokevirtual 138) 42 := im_D.of (by decide +kernel)
theorem D151_42 {g : im_g} : im_D g 151 42 (.aload_n 0) 43 := im_D.of (by decide +kernel)
theorem D151_43 {g : im_g} : im_D g 151 43 (.iload 4) 45 := im_D.of (by decide +kernel)
theorem D151_45 {g : im_g} : im_D g 151 45 (.invokevirtual 138) 48 := im_D.of (by decide +kernel)
theorem D151_48 {g : im_g} : im_D g 151 48 (.aload_n 0) 49 := im_D.of (by decide +kernel)
theorem D151_49 {g : im_g} : im_D g 151 49 (.iload 5) 51 := im_D.of (by decide +kernel)
theorem D151_51 {g : im_g} : im_D g 151 51 (.invokevirtual 138) 54 := im_D.of (by decide +kernel)
theorem D151_54 {g : im_g} : im_D g 151 54 (.aload_n 0) 55 := im_D.of (by decide +kernel)
theorem D151_55 {g : im_g} : im_D g 151 55 (.getfield 127) 58 := im_D.of (by decide +kernel)
theorem D151_58 {g : im_g} : im_D g 151 58 (.ireturn) 59 := im_D.of (by decide +kernel)
theorem D152_0 {g : im_g} : im_D g 152 0 (.aload_n 0) 1 := im_D.of (by decide +kernel)
theorem D152_1 {g : im_g} : im_D g 152 1 (.getfield 113) 4 := im_D.of (by decide +kernel)
theorem D152_4 {g : im_g} : im_D g 152 4 (.getfield 411) 7 := im_D.of (by decide +kernel)
theorem D152_7 {g : im_g} : im_D g 152 7 (.ifCond .eq 14) 10 := im_D.of (by decide +kernel)
theorem D152_21 {g : im_g} : im_D g 152 21 (.return_) 22 := im_D.of (by decide +kernel)
theorem D153_0 {g : im_g} : im_D g 153 0 (.bipush 24) 2 := im_D.of (by decide +kernel)
theorem D153_2 {g : im_g} : im_D g 153 2 (.istore_n 2) 3 := im_D.of (by decide +kernel)
theorem D153_3 {g : im_g} : im_D g 153 3 (.iload_n 2) 4 := im_D.of (by decide +kernel)
theorem D153_4 {g : im_g} : im_D g 153 4 (.ifCond .lt 42) 7 := im_D.of (by decide +kernel)
theorem D153_7 {g : im_g} : im_D g 153 7 (.aload_n 0) 8 := im_D.of (by decide +kernel)
theorem D153_8 {g : im_g} : im_D g 153 8 (.getfield 127) 11 := im_D.of (by decide +kernel)
theorem D153_11 {g : im_g} : im_D g 153 11 (.sipush 16384) 14 := im_D.of (by decide +kernel)
theorem D153_14 {g : im_g} : im_D g 153 14 (.if_icmp .ge 32) 17 := im_D.of (by decide +kernel)
theorem D153_17 {g : im_g} : im_D g 153 17 (.aload_n 0) 18 := im_D.of (by decide +kernel)
theorem D153_18 {g : im_g} : im_D g 153 18 (.getfield 9) 21 := im_D.of (by decide +kernel)
theorem D153_21 {g : im_g} : im_D g 153 21 (.aload_n 0) 22 := im_D.of (by decide +kernel)
theorem D153_22 {g : im_g} : im_D g 153 22 (.getfield 127) 25 := im_D.of (by decide +kernel)
theorem D153_25 {g : im_g} : im_D g 153 25 (.iload_n 1) 26 := im_D.of (by decide +kernel)
theorem D153_26 {g : im_g} : im_D g 153 26 (.iload_n 2) 27 := im_D.of (by decide +kernel)
theorem D153_27 {g : im_g} : im_D g 153 27 (.iushr) 28 := im_D.of (by decide +kernel)
theorem D153_28 {g : im_g} : im_D g 153 28 (.i2b) 29 := im_D.of (by decide +kernel)
theorem D153_29 {g : im_g} : im_D g 153 29 (.bastore) 30 := im_D.of (by decide +kernel)
theorem D153_30 {g : im_g} : im_D g 153 30 (.aload_n 0) 31 := im_D.of (by decide +kernel)
theorem D153_31 {g : im_g} : im_D g 153 31 (.dup) 32 := im_D.of (by decide +kernel)
theorem D153_32 {g : im_g} : im_D g 153 32 (.getfield 127) 35 := im_D.of (by decide +kernel)
theorem D153_35 {g : im_g} : im_D g 153 35 (.iconst 1) 36 := im_D.of (by decide +kernel)
theorem D153_36 {g : im_g} : im_D g 153 36 (.iadd) 37 := im_D.of (by decide +kernel)
theorem D153_37 {g : im_g} : im_D g 153 37 (.putfield 127) 40 := im_D.of (by decide +kernel)
theorem D153_40 {g : im_g} : im_D g 153 40 (.iinc 2 (-8)) 43 := im_D.of (by decide +kernel)
theorem D153_43 {g : im_g} : im_D g 153 43 (.goto (-40)) 46 := im_D.of (by decide +kernel)
theorem D153_46 {g : im_g} : im_D g 153 46 (.return_) 47 := im_D.of (by decide +kernel)
theorem D155_0 {g : im_g} : im_D g 155 0 (.aload_n 0) 1 := im_D.of (by decide +kernel)
theorem D155_1 {g : im_g} : im_D g 155 1 (.invokevirtual 124) 4 := im_D.of (by decide +kernel)
theorem D155_4 {g : im_g} : im_D g 155 4 (.iload_n 1) 5 := im_D.of (by decide +kernel)
theorem D155_5 {g : im_g} : im_D g 155 5 (.ifCond .ge 13) 8 := im_D.of (by decide +kernel)
theorem D155_18 {g : im_g} : im_D g 155 18 (.aload_n 0) 19 := im_D.of (by decide +kernel)
theorem D155_19 {g : im_g} : im_D g 155 19 (.aload_n 0) 20 := im_D.of (by decide +kernel)
theorem D155_20 {g : im_g} : im_D g 155 20 (.getfield 127) 23 := im_D.of (by decide +kernel)
theorem D155_23 {g : im_g} : im_D g 155 23 (.iload_n 1) 24 := im_D.of (by decide +kernel)
theorem D155_24 {g : im_g} : im_D g 155 24 (.invokestatic 143) 27 := im_D.of (by decide +kernel)
theorem D155_27 {g : im_g} : im_D g 155 27 (.putfield 127) 30 := im_D.of (by decide +kernel)
theorem D155_30 {g : im_g} : im_D g 155 30 (.aload_n 0) 31 := im_D.of (by decide +kernel)
theorem D155_31 {g : im_g} : im_D g 155 31 (.getfield 127) 34 := im_D.of (by decide +kernel)
theorem D155_34 {g : im_g} : im_D g 155 34 (.ireturn) 35 := im_D.of (by decide +kernel)
theorem D157_0 {g : im_g} : im_D g 157 0 (.aload_n 0) 1 := im_D.of (by decide +kernel)
theorem D157_1 {g : im_g} : im_D g 157 1 (.invokevirtual 124) 4 := im_D.of (by decide +kernel)
theorem D157_4 {g : im_g} : im_D g 157 4 (.aload_n 0) 5 := im_D.of (by decide +kernel)
theorem D157_5 {g : im_g} : im_D g 157 5 (.getfield 29) 8 := im_D.of (by decide +kernel)
theorem D157_8 {g : im_g} : im_D g 157 8 (.getfield 149) 11 := im_D.of (by decide +kernel)
theorem D157_11 {g : im_g} : im_D g 157 11 (.ireturn) 12 := im_D.of (by decide +kernel)
theorem D159_0 {g : im_g} : im_D g 159 0 (.aload_n 0) 1 := im_D.of (by decide +kernel)
theorem D159_1 {g : im_g} : im_D g 159 1 (.invokevirtual 124) 4 := im_D.of (by decide +kernel)
theorem D159_4 {g : im_g} : im_D g 159 4 (.lconst 0) 5 := im_D.of (by decide +kernel)
theorem D159_5 {g : im_g} : im_D g 159 5 (.lstore_n 2) 6 := im_D.of (by decide +kernel)
theorem D159_6 {g : im_g} : im_D g 159 6 (.iload_n 1) 7 := im_D.of (by decide +kernel)
theorem D159_7 {g : im_g} : im_D g 159 7 (.ifCond .lt 10) 10 := im_D.of (by decide +kernel)
theorem D159_10 {g : im_g} : im_D g 159 10 (.iload_n 1) 11 := im_D.of (by decide +kernel)
theorem D159_11 {g : im_g} : im_D g 159 11 (.sipush 2048) 14 := im_D.of (by decide +kernel)
theorem D159_14 {g : im_g} : im_D g 159 14 (.if_icmp .lt 5) 17 := im_D.of (by decide +kernel)
theorem D159_17 {g : im_g} : im_D g 159 17 (.lload_n 2) 18 := im_D.of (by decide +kernel)
theorem D159_18 {g : im_g} : im_D g 159 18 (.lreturn) 19 := im_D.of (by decide +kernel)
theorem D159_19 {g : im_g} : im_D g 159 19 (.bipush 8) 21 := im_D.of (by decide +kernel)
theorem D159_21 {g : im_g} : im_D g 159 21 (.iload_n 1) 22 := im_D.of (by decide +kernel)
theorem D159_22 {g : im_g} : im_D g 159 22 (.imul) 23 := im_D.of (by decide +kernel)
theorem D159_23 {g : im_g} : im_D g 159 23 (.istore 4) 25 := im_D.of (by decide +kernel)
theorem D159_25 {g : im_g} : im_D g 159 25 (.iload 4) 27 := im_D.of (by decide +kernel)
theorem D159_27 {g : im_g} : im_D g 159 27 (.bipush 8) 29 := im_D.of (by decide +kernel)
theorem D159_29 {g : im_g} : im_D g 159 29 (.iload_n 1) 30 := im_D.of (by decide +kernel)
theorem D159_30 {g : im_g} : im_D g 159 30 (.imul) 31 := im_D.of (by decide +kernel)
theorem D159_31 {g : im_g} : im_D g 159 31 (.bipush 8) 33 := im_D.of (by decide +kernel)
theorem D159_33 {g : im_g} : im_D g 159 33 (.iadd) 34 := im_D.of (by decide +kernel)
theorem D159_34 {g : im_g} : im_D g 159 34 (.if_icmp .ge 46) 37 := im_D.of (by decide +kernel)
theorem D159_37 {g : im_g} : im_D g 159 37 (.lload_n 2) 38 := im_D.of (by decide +kernel)
theorem D159_38 {g : im_g} : im_D g 159 38 (.bipush 8) 40 := im_D.of (by decide +kernel)
theorem D159_40 {g : im_g} : im_D g 159 40 (.lshl) 41 := im_D.of (by decide +kernel)
theorem D159_41 {g : im_g} : im_D g 159 41 (.iload 4) 43 := im_D.of (by decide +kernel)
theorem D159_43 {g : im_g} : im_D g 159 43 (.aload_n 0) 44 := im_D.of (by decide +kernel)
theorem D159_44 {g : im_g} : im_D g 159 44 (.getfield 29) 47 := im_D.of (by decide +kernel)
theorem D159_47 {g : im_g} : im_D g 159 47 (.getfield 149) 50 := im_D.of (by decide +kernel)
theorem D159_50 {g : im_g} : im_D g 159 50 (.if_icmp .ge 20) 53 := im_D.of (by decide +kernel)
theorem D159_53 {g : im_g} : im_D g 159 53 (.aload_n 0) 54 := im_D.of (by decide +kernel)
theorem D159_54 {g : im_g} : im_D g 159 54 (.getfield 29) 57 := im_D.of (by decide +kernel)
theorem D159_57 {g : im_g} : im_D g 159 57 (.getfield 152) 60 := im_D.of (by decide +kernel)
theorem D159_60 {g : im_g} : im_D g 159 60 (.iload 4) 62 := im_D.of (by decide +kernel)
theorem D159_62 {g : im_g} : im_D g 159 62 (.baload) 63 := im_D.of (by decide +kernel)
theorem D159_63 {g : im_g} : im_D g 159 63 (.sipush 255) 66 := im_D.of (by decide +kernel)
theorem D159_66 {g : im_g} : im_D g 159 66 (.iand) 67 := im_D.of (by decide +kernel)
theorem D159_67 {g : im_g} : im_D g 159 67 (.goto 4) 70 := im_D.of (by decide +kernel)
theorem D159_70 {g : im_g} : im_D g 159 70 (.iconst 0) 71 := im_D.of (by decide +kernel)
theorem D159_71 {g : im_g} : im_D g 159 71 (.i2l) 72 := im_D.of (by decide +kernel)
theorem D159_72 {g : im_g} : im_D g 159 72 (.lor) 73 := im_D.of (by decide +kernel)
theorem D159_73 {g : im_g} : im_D g 159 73 (.lstore_n 2) 74 := im_D.of (by decide +kernel)
theorem D159_74 {g : im_g} : im_D g 159 74 (.iinc 4 1) 77 := im_D.of (by decide +kernel)
theorem D159_77 {g : im_g} : im_D g 159 77 (.goto (-52)) 80 := im_D.of (by decide +kernel)
theorem D159_80 {g : im_g} : im_D g 159 80 (.lload_n 2) 81 := im_D.of (by decide +kernel)
theorem D159_81 {g : im_g} : im_D g 159 81 (.lreturn) 82 := im_D.of (by decide +kernel)
theorem D161_0 {g : im_g} : im_D g 161 0 (.aload_n 0) 1 := im_D.of (by decide +kernel)
theorem D161_1 {g : im_g} : im_D g 161 1 (.invokevirtual 124) 4 := im_D.of (by decide +kernel)
theorem D161_4 {g : im_g} : im_D g 161 4 (.aload_n 0) 5 := im_D.of (by decide +kernel)
theorem D161_5 {g : im_g} : im_D g 161 5 (.getfield 29) 8 := im_D.of (by decide +kernel)
theorem D161_8 {g : im_g} : im_D g 161 8 (.invokevirtual 155) 11 := im_D.of (by decide +kernel)
theorem D161_11 {g : im_g} : im_D g 161 11 (.iconst 0) 12 := im_D.of (by decide +kernel)
theorem D161_12 {g : im_g} : im_D g 161 12 (.istore_n 1) 13 := im_D.of (by decide +kernel)
theorem D161_13 {g : im_g} : im_D g 161 13 (.iload_n 1) 14 := im_D.of (by decide +kernel)
theorem D161_14 {g : im_g} : im_D g 161 14 (.aload_n 0) 15 := im_D.of (by decide +kernel)
theorem D161_15 {g : im_g} : im_D g 161 15 (.getfield 127) 18 := im_D.of (by decide +kernel)
theorem D161_18 {g : im_g} : im_D g 161 18 (.if_icmp .ge 22) 21 := im_D.of (by decide +kernel)
theorem D161_21 {g : im_g} : im_D g 161 21 (.aload_n 0) 22 := im_D.of (by decide +kernel)
theorem D161_22 {g : im_g} : im_D g 161 22 (.getfield 29) 25 := im_D.of (by decide +kernel)
theorem D161_25 {g : im_g} : im_D g 161 25 (.aload_n 0) 26 := im_D.of (by decide +kernel)
theorem D161_26 {g : im_g} : im_D g 161 26 (.getfield 9) 29 := im_D.of (by decide +kernel)
theorem D161_29 {g : im_g} : im_D g 161 29 (.iload_n 1) 30 := im_D.of (by decide +kernel)
theorem D161_30 {g : im_g} : im_D g 161 30 (.baload) 31 := im_D.of (by decide +kernel)
theorem D161_31 {g : im_g} : im_D g 161 31 (.invokevirtual 158) 34 := im_D.of (by decide +kernel)
theorem D161_34 {g : im_g} : im_D g 161 34 (.iinc 1 1) 37 := im_D.of (by decide +kernel)
theorem D161_37 {g : im_g} : im_D g 161 37 (.goto (-24)) 40 := im_D.of (by decide +kernel)
theorem D161_40 {g : im_g} : im_D g 161 40 (.aload_n 0) 41 := im_D.of (by decide +kernel)
theorem D161_41 {g : im_g} : im_D g 161 41 (.getfield 29) 44 := im_D.of (by decide +kernel)
theorem D161_44 {g : im_g} : im_D g 161 44 (.getfield 149) 47 := im_D.of (by decide +kernel)
theorem D161_47 {g : im_g} : im_D g 161 47 (.ireturn) 48 := im_D.of (by decide +kernel)
theorem D162_0 {g : im_g} : im_D g 162 0 (.aload_n 0) 1 := im_D.of (by decide +kernel)
theorem D162_1 {g : im_g} : im_D g 162 1 (.getfield 33) 4 := im_D.of (by decide +kernel)
theorem D162_4 {g : im_g} : im_D g 162 4 (.sipush 16384) 7 := im_D.of (by decide +kernel)
theorem D162_7 {g : im_g} : im_D g 162 7 (.if_icmp .ge 24) 10 := im_D.of (by decide +kernel)
theorem D162_10 {g : im_g} : im_D g 162 10 (.aload_n 0) 11 := im_D.of (by decide +kernel)
theorem D162_11 {g : im_g} : im_D g 162 11 (.getfield 9) 14 := im_D.of (by decide +kernel)
theorem D162_14 {g : im_g} : im_D g 162 14 (.aload_n 0) 15 := im_D.of (by decide +kernel)
theorem D162_15 {g : im_g} : im_D g 162 15 (.getfield 33) 18 := im_D.of (by decide +kernel)
theorem D162_18 {g : im_g} : im_D g 162 18 (.iload_n 1) 19 := im_D.of (by decide +kernel)
theorem D162_19 {g : im_g} : im_D g 162 19 (.i2b) 20 := im_D.of (by decide +kernel)
theorem D162_20 {g : im_g} : im_D g 162 20 (.bastore) 21 := im_D.of (by decide +kernel)
theorem D162_21 {g : im_g} : im_D g 162 21 (.aload_n 0) 22 := im_D.of (by decide +kernel)
theorem D162_22 {g : im_g} : im_D g 162 22 (.dup) 23 := im_D.of (by decide +kernel)
theorem D162_23 {g : im_g} : im_D g 162 23 (.getfield 33) 26 := im_D.of (by decide +kernel)
theorem D162_26 {g : im_g} : im_D g 162 26 (.iconst 1) 27 := im_D.of (by decide +kernel)
theorem D162_27 {g : im_g} : im_D g 162 27 (.iadd) 28 := im_D.of (by decide +kernel)
theorem D162_28 {g : im_g} : im_D g 162 28 (.putfield 33) 31 := im_D.of (by decide +kernel)
theorem D162_31 {g : im_g} : im_D g 162 31 (.return_) 32 := im_D.of (by decide +kernel)
theorem D164_0 {g : im_g} : im_D g 164 0 (.aload_n 0) 1 := im_D.of (by decide +kernel)
theorem D164_1 {g : im_g} : im_D g 164 1 (.aload_n 0) 2 := im_D.of (by decide +kernel)
theorem D164_2 {g : im_g} : im_D g 164 2 (.iload_n 1) 3 := im_D.of (by decide +kernel)
theorem D164_3 {g : im_g} : im_D g 164 3 (.i2l) 4 := im_D.of (by decide +kernel)
theorem D164_4 {g : im_g} : im_D g 164 4 (.aload_n 0) 5 := im_D.of (by decide +kernel)
theorem D164_5 {g : im_g} : im_D g 164 5 (.invokevirtual 161) 8 := im_D.of (by decide +kernel)
theorem D164_8 {g : im_g} : im_D g 164 8 (.invokevirtual 165) 11 := im_D.of (by decide +kernel)
theorem D164_11 {g : im_g} : im_D g 164 11 (.invokevirtual 169) 14 := im_D.of (by decide +kernel)
theorem D164_14 {g : im_g} : im_D g 164 14 (.ireturn) 15 := im_D.of (by decide +kernel)
theorem D165_0 {g : im_g} : im_D g 165 0 (.aload_n 0) 1 := im_D.of (by decide +kernel)
theorem D165_1 {g : im_g} : im_D g 165 1 (.invokevirtual 124) 4 := im_D.of (by decide +kernel)
theorem D165_4 {g : im_g} : im_D g 165 4 (.aload_n 0) 5 := im_D.of (by decide +kernel)
theorem D165_5 {g : im_g} : im_D g 165 5 (.getfield 127) 8 := im_D.of (by decide +kernel)
theorem D165_8 {g : im_g} : im_D g 165 8 (.istore_n 1) 9 := im_D.of (by decide +kernel)
theorem D165_9 {g : im_g} : im_D g 165 9 (.aload_n 0) 10 := im_D.of (by decide +kernel)
theorem D165_10 {g : im_g} : im_D g 165 10 (.iconst 0) 11 := im_D.of (by decide +kernel)
theorem D165_11 {g : im_g} : im_D g 165 11 (.putfield 127) 14 := im_D.of (by decide +kernel)
theorem D165_14 {g : im_g} : im_D g 165 14 (.iload_n 1) 15 := im_D.of (by decide +kernel)
theorem D165_15 {g : im_g} : im_D g 165 15 (.ireturn) 16 := im_D.of (by decide +kernel)
theorem D166_0 {g : im_g} : im_D g 166 0 (.iload_n 1) 1 := im_D.of (by decide +kernel)
theorem D166_1 {g : im_g} : im_D g 166 1 (.bipush (-103)) 3 := im_D.of (by decide +kernel)
theorem D166_3 {g : im_g} : im_D g 166 3 (.if_icmp .eq 7) 6 := im_D.of (by decide +kernel)
theorem D166_6 {g : im_g} : im_D g 166 6 (.iconst 1) 7 := im_D.of (by decide +kernel)
theorem D166_7 {g : im_g} : im_D g 166 7 (.goto 4) 10 := im_D.of (by decide +kernel)
theorem D166_10 {g : im_g} : im_D g 166 10 (.iconst 0) 11 := im_D.of (by decide +kernel)
theorem D166_11 {g : im_g} : im_D g 166 11 (.invokestatic 187) 14 := im_D.of (by decide +kernel)
theorem D166_14 {g : im_g} : im_D g 166 14 (.iload_n 1) 15 := im_D.of (by decide +kernel)
theorem D166_15 {g : im_g} : im_D g 166 15 (.bipush (-102)) 17 := im_D.of (by decide +kernel)
theorem D166_17 {g : im_g} : im_D g 166 17 (.if_icmp .eq 7) 20 := im_D.of (by decide +kernel)
theorem D166_20 {g : im_g} : im_D g 166 20 (.iconst 1) 21 := im_D.of (by decide +kernel)
theorem D166_21 {g : im_g} : im_D g 166 21 (.goto 4) 24 := im_D.of (by decide +kernel)
theorem D166_24 {g : im_g} : im_D g 166 24 (.iconst 0) 25 := im_D.of (by decide +kernel)
theorem D166_25 {g : im_g} : im_D g 166 25 (.invokestatic 195) 28 := im_D.of (by decide +kernel)
theorem D166_28 {g : im_g} : im_D g 166 28 (.iload_n 1) 29 := im_D.of (by decide +kernel)
theorem D166_29 {g : im_g} : im_D g 166 29 (.bipush (-101)) 31 := im_D.of (by decide +kernel)
theorem D166_31 {g : im_g} : im_D g 166 31 (.if_icmp .ne 7) 34 := im_D.of (by decide +kernel)
theorem D166_34 {g : im_g} : im_D g 166 34 (.iconst (-1)) 35 := im_D.of (by decide +kernel)
theorem D166_35 {g : im_g} : im_D g 166 35 (.goto 4) 38 := im_D.of (by decide +kernel)
theorem D166_38 {g : im_g} : im_D g 166 38 (.iconst 0) 39 := im_D.of (by decide +kernel)
theorem D166_39 {g : im_g} : im_D g 166 39 (.iconst 1) 40 := im_D.of (by decide +kernel)
theorem D166_40 {g : im_g} : im_D g 166 40 (.invokestatic 183) 43 := im_D.of (by decide +kernel)
theorem D166_43 {g : im_g} : im_D g 166 43 (.iload_n 1) 44 := im_D.of (by decide +kernel)
theorem D166_44 {g : im_g} : im_D g 166 44 (.ireturn) 45 := im_D.of (by decide +kernel)
theorem D167_0 {g : im_g} : im_D g 167 0 (.iload_n 0) 1 := im_D.of (by decide +kernel)
theorem D167_1 {g : im_g} : im_D g 167 1 (.ifCond .ne 14) 4 := im_D.of (by decide +kernel)
theorem D167_15 {g : im_g} : im_D g 167 15 (.return_) 16 := im_D.of (by decide +kernel)
theorem D168_0 {g : im_g} : im_D g 168 0 (.iload_n 0) 1 := im_D.of (by decide +kernel)
theorem D168_1 {g : im_g} : im_D g 168 1 (.ifCond .ne 14) 4 := im_D.of (by decide +kernel)
theorem D168_15 {g : im_g} : im_D g 168 15 (.return_) 16 := im_D.of (by decide +kernel)
theorem D169_0 {g : im_g} : im_D g 169 0 (.iload_n 0) 1 := im_D.of (by decide +kernel)
theorem D169_1 {g : im_g} : im_D g 169 1 (.ifCond .lt 8) 4 := im_D.of (by decide +kernel)
theorem D169_4 {g : im_g} : im_D g 169 4 (.iload_n 0) 5 := im_D.of (by decide +kernel)
theorem D169_5 {g : im_g} : im_D g 169 5 (.iload_n 1) 6 := im_D.of (by decide +kernel)
theorem D169_6 {g : im_g} : im_D g 169 6 (.if_icmp .lt 14) 9 := im_D.of (by decide +kernel)
theorem D169_20 {g : im_g} : im_D g 169 20 (.return_) 21 := im_D.of (by decide +kernel)
theorem D171_0 {g : im_g} : im_D g 171 0 (.aload_n 0) 1 := im_D.of (by decide +kernel)
theorem D171_1 {g : im_g} : im_D g 171 1 (.invokevirtual 124) 4 := im_D.of (by decide +kernel)
theorem D171_4 {g : im_g} : im_D g 171 4 (.aload_n 0) 5 := im_D.of (by decide +kernel)
theorem D171_5 {g : im_g} : im_D g 171 5 (.aload_n 0) 6 := im_D.of (by decide +kernel)
theorem D171_6 {g : im_g} : im_D g 171 6 (.iload_n 1) 7 := im_D.of (by decide +kernel)
theorem D171_7 {g : im_g} : im_D g 171 7 (.i2l) 8 := im_D.of (by decide +kernel)
theorem D171_8 {g : im_g} : im_D g 171 8 (.invokevirtual 179) 11 := im_D.of (by decide +kernel)
theorem D171_11 {g : im_g} : im_D g 171 11 (.invokevirtual 169) 14 := im_D.of (by decide +kernel)
theorem D171_14 {g : im_g} : im_D g 171 14 (.ireturn) 15 := im_D.of (by decide +kernel)
set_option maxRecDepth 20000 in
set_option maxHeartbeats 4000000 in
theorem k_Machine_apply_0 {g : im_g} {d : Nat} {e : im_E} {M : im_M} {K : im_K} {p2 : Int} {p1 np1 : Nat} (hp1 : im_row e p1 np1) (hP : ∃ b1 : Nat, ((M 931 4) = (b1 : Int)) ∧ (im_state e b1) ∧ (0 ≤ (M b1 5) ∧ (M b1 5) < 5000) ∧ (((M 14 (M b1 5)) = 3 → im_T g d 142 32 [some (.ref 931), some (.ref p1), some (vI p2), none, some (vI ((M b1 5) + 1)), some (vI 0), none] [] e M K) ∧ (¬ (M 14 (M b1 5)) = 3 → K (.inl (some (vI (-5)))) e M))) : im_T g d 142 0 [some (.ref 931), some (.ref p1), some (vI p2), none, none, none, none] [] e M K := by
  refine im_ld (q := 1) (i := 0) D142_0 rfl rfl rfl ?_
  obtain ⟨b1, hb2, hP⟩ := hP
  obtain ⟨hb3, hP⟩ := hP
  refine im_gfD (q := 4) D142_1 (im_fl cn_142 fl_2_31) sf_931 rfl rfl tR_2_4 rfl hb2 ?_
  refine im_rng (j := 5) hb3.1 (by decide) (show (5 : Int) < ((7 : Nat) : Int) by decide) (fun hr4 => ?_)
  refine im_gfI (q := 7) D142_4 (im_fl cn_142 fl_2_183) hb3.1 rfl rfl tI_9_5 rfl ?_
  refine im_st1 (q := 8) (i := 3) (L' := [some (.ref 931), some (.ref p1), some (vI p2), some (vI (M b1 5)), none, none, none]) D142_7 (Or.inl ⟨_, rfl, rfl⟩) (Nat.le_of_ble_eq_true rfl) rfl ?_
  refine im_ld (q := 9) (i := 0) D142_8 rfl rfl rfl ?_
  refine im_gfR (q := 12) (b := 13) D142_9 (im_fl cn_142 fl_2_55) sf_931 rfl rfl tR_2_0 rfl ?_
  refine im_gfR (q := 15) (b := 14) D142_12 (im_fl cn_142 fl_2_89) sf_13 rfl rfl tR_5_0 rfl ?_
  refine im_ld (q := 16) (i := 3) D142_15 rfl rfl rfl ?_
  obtain ⟨hg5, hP⟩ := hP
  refine im_rng (j := (M b1 5)) sf_14 hg5.1 hg5.2 (fun hr6 => ?_)
  refine im_iald (q := 17) D142_16 sf_14 hg5.1 hg5.2 (by decide) rfl ?_
  refine im_iconst (q := 18) D142_17 ?_
  refine im_icmp (q := 21) (t := 24) D142_18 rfl hr6 (by decide) (fun hc7 => ?_) (fun hc7 => ?_)
  · replace hP := hP.1 hc7
    refine im_ld (q := 25) (i := 3) D142_24 rfl rfl rfl ?_
    refine im_iconst (q := 26) D142_25 ?_
    refine im_iadd (q := 27) D142_26 ?_
    refine im_st1 (q := 29) (i := 4) (L' := [some (.ref 931), some (.ref p1), some (vI p2), some (vI (M b1 5)), some (vI ((M b1 5) + 1)), none, none]) D142_27 (Or.inr rfl) (Nat.le_of_ble_eq_true rfl) rfl ?_
    refine im_iconst (q := 30) D142_29 ?_
    refine im_st1 (q := 32) (i := 5) (L' := [some (.ref 931), some (.ref p1), some (vI p2), some (vI (M b1 5)), some (vI ((M b1 5) + 1)), some (vI 0), none]) D142_30 (Or.inr rfl) (Nat.le_of_ble_eq_true rfl) rfl ?_
    exact hP.wk ⟨rfl, rfl, rfl, rfl, rfl, trivial⟩
  · replace hP := hP.2 hc7
    refine im_bipush (q := 23) D142_21 rfl ?_
    exact im_iret (q := 24) D142_23 rfl hP
set_option maxRecDepth 20000 in
set_option maxHeartbeats 4000000 in
theorem k_Machine_apply_32 {g : im_g} {d : Nat} {e : im_E} {M : im_M} {K : im_K} {p2 p4 p5 : Int} {p1 np1 : Nat} (hp1 : im_row e p1 np1) (hd : 1 ≤ d) (hP : (im_i32 p5) ∧ ((8 ≤ p5 → K (.inl (some (vI (-5)))) e M) ∧ (p5 < 8 → im_T g (d - 1) 116 0 [some (.ref 13), some (vI p4)] [] e M (im_ri (fun x4 e_ M3 => e = e_ ∧ (im_i32 x4) ∧ ((x4 = 0 → K (.inl (some (vI (-5)))) e M3) ∧ (¬ x4 = 0 → im_T g (d - 1) 143 0 [some (.ref 931), some (vI p4), some (.ref p1), some (vI p2), none, none] [] e M3 (im_ri (fun x8 e_ M7 => e = e_ ∧ (im_i32 x8) ∧ ((x8 = 0 → (0 ≤ p4 ∧ p4 < 5000) ∧ im_T g d 142 32 [some (.ref 931), some (.ref p1), some (vI p2), none, some (vI (M7 15 p4)), some (vI (p5 + 1)), none] [] e M7 K) ∧ (¬ x8 = 0 → (0 ≤ p2 ∧ p2 < np1) ∧ ((¬ (M7 (p1 + 1) p2) = 29 → im_T g (d - 1) 122 0 [some (.ref 931), some (vI (p4 + 1)), some (vI 0), none, none, none, none, none, none, none, none] [] e M7 (im_ri (fun x17 e_ M16 => e = e_ ∧ (((M16 931 12) = 0 → ((¬ (M16 (p1 + 1) p2) = 28 → (im_i32 x17) ∧ ((x17 = 0 → (0 ≤ p4 ∧ p4 < 5000) ∧ im_T g d 142 32 [some (.ref 931), some (.ref p1), some (vI p2), none, some (vI (M16 15 p4)), some (vI (p5 + 1)), none] [] e M16 K) ∧ (¬ x17 = 0 → ∃ b26 : Nat, ((M16 931 4) = (b26 : Int)) ∧ (im_state e b26) ∧ im_T g (d - 1) 138 0 [some (.ref 13), some (vI p4)] [] e M16 (im_ri (fun x30 e_ M29 => e = e_ ∧ (im_i32 x30) ∧ im_T g (d - 1) 145 0 [some (.ref 931), some (.ref p1), some (vI p2), none, none, none, none, none, none, none] [] e (im_u M29 b26 5 x30) (im_ri (fun x33 e_ M32 => e = e_ ∧ K (.inl (some (vI x33))) e M32))))))) ∧ ((M16 (p1 + 1) p2) = 28 → ∃ b36 : Nat, ((M16 932 0) = (b36 : Int)) ∧ (im_num e b36) ∧ ∃ b39 : Nat, ((M16 (p1 + 5) p2) = (b39 : Int)) ∧ (im_num e b39) ∧ im_T g (d - 1) 68 0 [some (.ref b36), some (.ref b39)] [] e M16 (im_ri (fun x43 e_ M42 => e = e_ ∧ (im_i32 x43) ∧ ((∀ x46 : Int, (((¬ x43 = 0) ∧ x46 = 0) ∨ ((x43 = 0) ∧ x46 = 1)) → ((x46 = 0 → (0 ≤ p4 ∧ p4 < 5000) ∧ im_T g d 142 32 [some (.ref 931), some (.ref p1), some (vI p2), none, some (vI (M42 15 p4)), some (vI (p5 + 1)), none] [] e M42 K) ∧ (¬ x46 = 0 → ∃ b53 : Nat, ((M42 931 4) = (b53 : Int)) ∧ (im_state e b53) ∧ im_T g (d - 1) 138 0 [some (.ref 13), some (vI p4)] [] e M42 (im_ri (fun x57 e_ M56 => e = e_ ∧ (im_i32 x57) ∧ im_T g (d - 1) 145 0 [some (.ref 931), some (.ref p1), some (vI p2), none, none, none, none, none, none, none] [] e (im_u M56 b53 5 x57) (im_ri (fun x60 e_ M59 => e = e_ ∧ K (.inl (some (vI x60))) e M59))))))))))))) ∧ (¬ (M16 931 12) = 0 → K (.inl (some (vI (-8)))) e M16))))) ∧ ((M7 (p1 + 1) p2) = 29 → ∃ b65 : Nat, ((M7 (p1 + 5) p2) = (b65 : Int)) ∧ (im_num e b65) ∧ im_T g (d - 1) 144 0 [some (.ref 931), some (vI p4), some (.ref b65), none, none] [] e M7 (im_ri (fun x69 e_ M68 => e = e_ ∧ (((M68 931 12) = 0 → ((¬ (M68 (p1 + 1) p2) = 28 → (im_i32 x69) ∧ ((x69 = 0 → (0 ≤ p4 ∧ p4 < 5000) ∧ im_T g d 142 32 [some (.ref 931), some (.ref p1), some (vI p2), none, some (vI (M68 15 p4)), some (vI (p5 + 1)), none] [] e M68 K) ∧ (¬ x69 = 0 → ∃ b78 : Nat, ((M68 931 4) = (b78 : Int)) ∧ (im_state e b78) ∧ im_T g (d - 1) 138 0 [some (.ref 13), some (vI p4)] [] e M68 (im_ri (fun x82 e_ M81 => e = e_ ∧ (im_i32 x82) ∧ im_T g (d - 1) 145 0 [some (.ref 931), some (.ref p1), some (vI p2), none, none, none, none, none, none, none] [] e (im_u M81 b78 5 x82) (im_ri (fun x85 e_ M84 => e = e_ ∧ K (.inl (some (vI x85))) e M84))))))) ∧ ((M68 (p1 + 1) p2) = 28 → ∃ b88 : Nat, ((M68 932 0) = (b88 : Int)) ∧ (im_num e b88) ∧ ∃ b91 : Nat, ((M68 (p1 + 5) p2) = (b91 : Int)) ∧ (im_num e b91) ∧ im_T g (d - 1) 68 0 [some (.ref b88), some (.ref b91)] [] e M68 (im_ri (fun x95 e_ M94 => e = e_ ∧ (im_i32 x95) ∧ ((∀ x98 : Int, (((¬ x95 = 0) ∧ x98 = 0) ∨ ((x95 = 0) ∧ x98 = 1)) → ((x98 = 0 → (0 ≤ p4 ∧ p4 < 5000) ∧ im_T g d 142 32 [some (.ref 931), some (.ref p1), some (vI p2), none, some (vI (M94 15 p4)), some (vI (p5 + 1)), none] [] e M94 K) ∧ (¬ x98 = 0 → ∃ b105 : Nat, ((M94 931 4) = (b105 : Int)) ∧ (im_state e b105) ∧ im_T g (d - 1) 138 0 [some (.ref 13), some (vI p4)] [] e M94 (im_ri (fun x109 e_ M108 => e = e_ ∧ (im_i32 x109) ∧ im_T g (d - 1) 145 0 [some (.ref 931), some (.ref p1), some (vI p2), none, none, none, none, none, none, none] [] e (im_u M108 b105 5 x109) (im_ri (fun x112 e_ M111 => e = e_ ∧ K (.inl (some (vI x112))) e M111))))))))))))) ∧ (¬ (M68 931 12) = 0 → K (.inl (some (vI (-8)))) e M68))))))))))))))))) : im_T g d 142 32 [some (.ref 931), some (.ref p1), some (vI p2), none, some (vI p4), some (vI p5), none] [] e M K := by
  refine im_ld (q := 34) (i := 5) D142_32 rfl rfl rfl ?_
  refine im_bipush (q := 36) D142_34 rfl ?_
  obtain ⟨hg1, hP⟩ := hP
  refine im_icmp (q := 39) (t := 191) D142_36 rfl hg1 (by decide) (fun hc2 => ?_) (fun hc2 => ?_)
  · replace hP := hP.1 hc2
    refine im_bipush (q := 193) D142_191 rfl ?_
    exact im_iret (q := 194) D142_193 rfl hP
  · replace hP := hP.2 (Int.not_le.mp hc2)
    refine im_ld (q := 40) (i := 0) D142_39 rfl rfl rfl ?_
    refine im_gfR (q := 43) (b := 13) D142_40 (im_fl cn_142 fl_2_55) sf_931 rfl rfl tR_2_0 rfl ?_
    refine im_ld (q := 45) (i := 4) D142_43 rfl rfl rfl ?_
    refine im_callV (q := 48) (kd := 1) (y := 116) (n := 1) (ci := 5) (a := 13) (vs := [.ref 13, vI p4]) (r := []) (L2 := [some (.ref 13), some (vI p4)]) D142_45 (im_cal cn_142 cl_2_252) (Or.inl rfl) rfl sf_13 rfl rfl rfl rfl hd ⟨rfl, rfl, trivial⟩ ?_
    refine hP.mono ?_
    rintro _ e118 M3 ⟨x4, rfl, rfl, hP⟩
    refine im_bkS ?_
    obtain ⟨hg5, hP⟩ := hP
    refine im_ifc (q := 51) (t := 191) D142_48 rfl hg5 (fun hc6 => ?_) (fun hc6 => ?_)
    · replace hP := hP.1 hc6
      refine im_bipush (q := 193) D142_191 rfl ?_
      exact im_iret (q := 194) D142_193 rfl hP
    · replace hP := hP.2 hc6
      refine im_ld (q := 52) (i := 0) D142_51 rfl rfl rfl ?_
      refine im_ld (q := 54) (i := 4) D142_52 rfl rfl rfl ?_
      refine im_ld (q := 55) (i := 1) D142_54 rfl rfl rfl ?_
      refine im_ld (q := 56) (i := 2) D142_55 rfl rfl rfl ?_
      refine im_callV (q := 59) (kd := 1) (y := 143) (n := 3) (ci := 2) (a := 931) (vs := [.ref 931, vI p4, .ref p1, vI p2]) (r := []) (L2 := [some (.ref 931), some (vI p4), some (.ref p1), some (vI p2), none, none]) D142_56 (im_cal cn_142 cl_2_255) (Or.inl rfl) rfl sf_931 rfl rfl rfl rfl hd ⟨rfl, rfl, rfl, rfl, trivial⟩ ?_
      refine hP.mono ?_
      rintro _ e117 M7 ⟨x8, rfl, rfl, hP⟩
      refine im_bkS ?_
      obtain ⟨hg9, hP⟩ := hP
      refine im_ifc (q := 62) (t := 173) D142_59 rfl hg9 (fun hc10 => ?_) (fun hc10 => ?_)
      · replace hP := hP.1 hc10
        refine im_ld (q := 174) (i := 0) D142_173 rfl rfl rfl ?_
        refine im_gfR (q := 177) (b := 13) D142_174 (im_fl cn_142 fl_2_55) sf_931 rfl rfl tR_2_0 rfl ?_
        refine im_gfR (q := 180) (b := 15) D142_177 (im_fl cn_142 fl_2_112) sf_13 rfl rfl tR_5_1 rfl ?_
        refine im_ld (q := 182) (i := 4) D142_180 rfl rfl rfl ?_
        obtain ⟨hg14, hP⟩ := hP
        refine im_rng (j := p4) sf_15 hg14.1 hg14.2 (fun hr15 => ?_)
        refine im_iald (q := 183) D142_182 sf_15 hg14.1 hg14.2 (by decide) rfl ?_
        refine im_st1 (q := 185) (i := 4) (L' := [some (.ref 931), some (.ref p1), some (vI p2), none, some (vI (M7 15 p4)), some (vI p5), none]) D142_183 (Or.inr rfl) (Nat.le_of_ble_eq_true rfl) rfl ?_
        refine im_iinc (q := 188) (i := 5) (L' := [some (.ref 931), some (.ref p1), some (vI p2), none, some (vI (M7 15 p4)), some (vI (p5 + 1)), none]) D142_185 rfl (Nat.le_of_ble_eq_true rfl) rfl ?_
        refine im_goto (q := 191) (t := 32) D142_188 rfl ?_
        exact hP.wk ⟨rfl, rfl, rfl, rfl, rfl, trivial⟩
      · replace hP := hP.2 hc10
        refine im_ld (q := 63) (i := 1) D142_62 rfl rfl rfl ?_
        refine im_gfR (q := 66) (b := (p1 + 1)) D142_63 (im_fl cn_142 fl_2_259) hp1.1 rfl rfl tR_7_0 rfl ?_
        refine im_ld (q := 67) (i := 2) D142_66 rfl rfl rfl ?_
        obtain ⟨hg11, hP⟩ := hP
        refine im_rng (j := p2) hp1.2.1 hg11.1 hg11.2 (fun hr12 => ?_)
        refine im_iald (q := 68) D142_67 hp1.2.1 hg11.1 hg11.2 (Nat.le_trans hp1.2.2.2.2.2.2 (by decide)) rfl ?_
        refine im_bipush (q := 70) D142_68 rfl ?_
        refine im_icmp (q := 73) (t := 88) D142_70 rfl hr12 (by decide) (fun hc13 => ?_) (fun hc13 => ?_)
        · replace hP := hP.1 hc13
          refine im_ld (q := 89) (i := 0) D142_88 rfl rfl rfl ?_
          refine im_ld (q := 91) (i := 4) D142_89 rfl rfl rfl ?_
          refine im_iconst (q := 92) D142_91 ?_
          refine im_iadd (q := 93) D142_92 ?_
          refine im_iconst (q := 94) D142_93 ?_
          refine im_callV (q := 97) (kd := 1) (y := 122) (n := 2) (ci := 2) (a := 931) (vs := [.ref 931, vI (p4 + 1), vI 0]) (r := []) (L2 := [some (.ref 931), some (vI (p4 + 1)), some (vI 0), none, none, none, none, none, none, none, none]) D142_94 (im_cal cn_142 cl_2_101) (Or.inl rfl) rfl sf_931 rfl rfl rfl rfl hd ⟨rfl, rfl, rfl, trivial⟩ ?_
          refine hP.mono ?_
          rintro _ e64 M16 ⟨x17, rfl, rfl, hP⟩
          refine im_bkS ?_
          refine im_st1 (q := 99) (i := 6) (L' := [some (.ref 931), some (.ref p1), some (vI p2), none, some (vI p4), some (vI p5), some (vI x17)]) D142_97 (Or.inr rfl) (Nat.le_of_ble_eq_true rfl) rfl ?_
          refine im_ld (q := 100) (i := 0) D142_99 rfl rfl rfl ?_
          refine im_rng (j := 12) sf_931 (by decide) (by decide) (fun hr18 => ?_)
          refine im_gfI (q := 103) D142_100 (im_fl cn_142 fl_2_86) sf_931 rfl rfl tI_2_12 rfl ?_
          refine im_ifc (q := 106) (t := 109) D142_103 rfl (im_z32 hr18) (fun hc19 => ?_) (fun hc19 => ?_)
          · replace hP := hP.1 hc19
            refine im_ld (q := 110) (i := 1) D142_109 rfl rfl rfl ?_
            refine im_gfR (q := 113) (b := (p1 + 1)) D142_110 (im_fl cn_142 fl_2_259) hp1.1 rfl rfl tR_7_0 rfl ?_
            refine im_ld (q := 114) (i := 2) D142_113 rfl rfl rfl ?_
            refine im_rng (j := p2) hp1.2.1 hg11.1 hg11.2 (fun hr20 => ?_)
            refine im_iald (q := 115) D142_114 hp1.2.1 hg11.1 hg11.2 (Nat.le_trans hp1.2.2.2.2.2.2 (by decide)) rfl ?_
            refine im_bipush (q := 117) D142_115 rfl ?_
            refine im_icmp (q := 120) (t := 145) D142_117 rfl hr20 (by decide) (fun hc21 => ?_) (fun hc21 => ?_)
            · replace hP := hP.1 hc21
              refine im_ld (q := 147) (i := 6) D142_145 rfl rfl rfl ?_
              obtain ⟨hg22, hP⟩ := hP
              refine im_ifc (q := 150) (t := 173) D142_147 rfl hg22 (fun hc23 => ?_) (fun hc23 => ?_)
              · replace hP := hP.1 hc23
                refine im_ld (q := 174) (i := 0) D142_173 rfl rfl rfl ?_
                refine im_gfR (q := 177) (b := 13) D142_174 (im_fl cn_142 fl_2_55) sf_931 rfl rfl tR_2_0 rfl ?_
                refine im_gfR (q := 180) (b := 15) D142_177 (im_fl cn_142 fl_2_112) sf_13 rfl rfl tR_5_1 rfl ?_
                refine im_ld (q := 182) (i := 4) D142_180 rfl rfl rfl ?_
                obtain ⟨hg24, hP⟩ := hP
                refine im_rng (j := p4) sf_15 hg24.1 hg24.2 (fun hr25 => ?_)
                refine im_iald (q := 183) D142_182 sf_15 hg24.1 hg24.2 (by decide) rfl ?_
                refine im_st1 (q := 185) (i := 4) (L' := [some (.ref 931), some (.ref p1), some (vI p2), none, some (vI (M16 15 p4)), some (vI p5), some (vI x17)]) D142_183 (Or.inr rfl) (Nat.le_of_ble_eq_true rfl) rfl ?_
                refine im_iinc (q := 188) (i := 5) (L' := [some (.ref 931), some (.ref p1), some (vI p2), none, some (vI (M16 15 p4)), some (vI (p5 + 1)), some (vI x17)]) D142_185 rfl (Nat.le_of_ble_eq_true rfl) rfl ?_
                refine im_goto (q := 191) (t := 32) D142_188 rfl ?_
                exact hP.wk ⟨rfl, rfl, rfl, rfl, rfl, trivial⟩
              · replace hP := hP.2 hc23
                refine im_ld (q := 151) (i := 0) D142_150 rfl rfl rfl ?_
                obtain ⟨b26, hb27, hP⟩ := hP
                obtain ⟨hb28, hP⟩ := hP
                refine im_gfD (q := 154) D142_151 (im_fl cn_142 fl_2_31) sf_931 rfl rfl tR_2_4 rfl hb27 ?_
                refine im_ld (q := 155) (i := 0) D142_154 rfl rfl rfl ?_
                refine im_gfR (q := 158) (b := 13) D142_155 (im_fl cn_142 fl_2_55) sf_931 rfl rfl tR_2_0 rfl ?_
                refine im_ld (q := 160) (i := 4) D142_158 rfl rfl rfl ?_
                refine im_callV (q := 163) (kd := 1) (y := 138) (n := 1) (ci := 5) (a := 13) (vs := [.ref 13, vI p4]) (r := [.ref b26]) (L2 := [some (.ref 13), some (vI p4)]) D142_160 (im_cal cn_142 cl_2_224) (Or.inl rfl) rfl sf_13 rfl rfl rfl rfl hd ⟨rfl, rfl, trivial⟩ ?_
                refine hP.mono ?_
                rintro _ e35 M29 ⟨x30, rfl, rfl, hP⟩
                refine im_bkS ?_
                obtain ⟨hg31, hP⟩ := hP
                refine im_pfI (q := 166) D142_163 (im_fl cn_142 fl_2_183) hb28.1 rfl rfl ti_9_5 hg31 ?_
                refine im_ld (q := 167) (i := 0) D142_166 rfl rfl rfl ?_
                refine im_ld (q := 168) (i := 1) D142_167 rfl rfl rfl ?_
                refine im_ld (q := 169) (i := 2) D142_168 rfl rfl rfl ?_
                refine im_callV (q := 172) (kd := 1) (y := 145) (n := 2) (ci := 2) (a := 931) (vs := [.ref 931, .ref p1, vI p2]) (r := []) (L2 := [some (.ref 931), some (.ref p1), some (vI p2), none, none, none, none, none, none, none]) D142_169 (im_cal cn_142 cl_2_264) (Or.inl rfl) rfl sf_931 rfl rfl rfl rfl hd ⟨rfl, rfl, rfl, trivial⟩ ?_
                refine hP.mono ?_
                rintro _ e34 M32 ⟨x33, rfl, rfl, hP⟩
                refine im_bkS ?_
                exact im_iret (q := 173) D142_172 rfl hP
            · replace hP := hP.2 (Decidable.not_not.mp hc21)
              refine im_ld (q := 121) (i := 0) D142_120 rfl rfl rfl ?_
              refine im_gfR (q := 124) (b := 932) D142_121 (im_fl cn_142 fl_2_11) sf_931 rfl rfl tR_2_1 rfl ?_
              refine im_iconst (q := 125) D142_124 ?_
              obtain ⟨b36, hb37, hP⟩ := hP
              obtain ⟨hb38, hP⟩ := hP
              refine im_aald (q := 126) D142_125 sf_932 (Or.inl rfl) (by decide) (by decide) (by decide) hb37 ?_
              refine im_ld (q := 127) (i := 1) D142_126 rfl rfl rfl ?_
              refine im_gfR (q := 130) (b := (p1 + 5)) D142_127 (im_fl cn_142 fl_2_260) hp1.1 rfl rfl tR_7_4 rfl ?_
              refine im_ld (q := 131) (i := 2) D142_130 rfl rfl rfl ?_
              obtain ⟨b39, hb40, hP⟩ := hP
              obtain ⟨hb41, hP⟩ := hP
              refine im_aald (q := 132) D142_131 hp1.2.2.2.2.2.1 (Or.inl rfl) hg11.1 hg11.2 (Nat.le_trans hp1.2.2.2.2.2.2 (by decide)) hb40 ?_
              refine im_callV (q := 135) (kd := 1) (y := 68) (n := 1) (ci := 3) (a := b36) (vs := [.ref b36, .ref b39]) (r := []) (L2 := [some (.ref b36), some (.ref b39)]) D142_132 (im_cal cn_142 cl_2_127) (Or.inl rfl) rfl hb38.1 rfl rfl rfl rfl hd ⟨rfl, rfl, trivial⟩ ?_
              refine hP.mono ?_
              rintro _ e63 M42 ⟨x43, rfl, rfl, hP⟩
              refine im_bkS ?_
              obtain ⟨hg44, hP⟩ := hP
              have hJ47 := hP
              have kJ48 : ∀ x46 : Int, (((¬ x43 = 0) ∧ x46 = 0) ∨ ((x43 = 0) ∧ x46 = 1)) → im_T g d 142 143 [some (.ref 931), some (.ref p1), some (vI p2), none, some (vI p4), some (vI p5), none] [vI x46] e M42 K := by
                intro x46 hx49
                have hP := hJ47 x46 hx49
                refine im_st1 (q := 145) (i := 6) (L' := [some (.ref 931), some (.ref p1), some (vI p2), none, some (vI p4), some (vI p5), some (vI x46)]) D142_143 (Or.inr rfl) (Nat.le_of_ble_eq_true rfl) rfl ?_
                refine im_ld (q := 147) (i := 6) D142_145 rfl rfl rfl ?_
                refine im_ifc (q := 150) (t := 173) D142_147 rfl (by clear hP; omega) (fun hc50 => ?_) (fun hc50 => ?_)
                · replace hP := hP.1 hc50
                  refine im_ld (q := 174) (i := 0) D142_173 rfl rfl rfl ?_
                  refine im_gfR (q := 177) (b := 13) D142_174 (im_fl cn_142 fl_2_55) sf_931 rfl rfl tR_2_0 rfl ?_
                  refine im_gfR (q := 180) (b := 15) D142_177 (im_fl cn_142 fl_2_112) sf_13 rfl rfl tR_5_1 rfl ?_
                  refine im_ld (q := 182) (i := 4) D142_180 rfl rfl rfl ?_
                  obtain ⟨hg51, hP⟩ := hP
                  refine im_rng (j := p4) sf_15 hg51.1 hg51.2 (fun hr52 => ?_)
                  refine im_iald (q := 183) D142_182 sf_15 hg51.1 hg51.2 (by decide) rfl ?_
                  refine im_st1 (q := 185) (i := 4) (L' := [some (.ref 931), some (.ref p1), some (vI p2), none, some (vI (M42 15 p4)), some (vI p5), some (vI x46)]) D142_183 (Or.inr rfl) (Nat.le_of_ble_eq_true rfl) rfl ?_
                  refine im_iinc (q := 188) (i := 5) (L' := [some (.ref 931), some (.ref p1), some (vI p2), none, some (vI (M42 15 p4)), some (vI (p5 + 1)), some (vI x46)]) D142_185 rfl (Nat.le_of_ble_eq_true rfl) rfl ?_
                  refine im_goto (q := 191) (t := 32) D142_188 rfl ?_
                  exact hP.wk ⟨rfl, rfl, rfl, rfl, rfl, trivial⟩
                · replace hP := hP.2 hc50
                  refine im_ld (q := 151) (i := 0) D142_150 rfl rfl rfl ?_
                  obtain ⟨b53, hb54, hP⟩ := hP
                  obtain ⟨hb55, hP⟩ := hP
                  refine im_gfD (q := 154) D142_151 (im_fl cn_142 fl_2_31) sf_931 rfl rfl tR_2_4 rfl hb54 ?_
                  refine im_ld (q := 155) (i := 0) D142_154 rfl rfl rfl ?_
                  refine im_gfR (q := 158) (b := 13) D142_155 (im_fl cn_142 fl_2_55) sf_931 rfl rfl tR_2_0 rfl ?_
                  refine im_ld (q := 160) (i := 4) D142_158 rfl rfl rfl ?_
                  refine im_callV (q := 163) (kd := 1) (y := 138) (n := 1) (ci := 5) (a := 13) (vs := [.ref 13, vI p4]) (r := [.ref b53]) (L2 := [some (.ref 13), some (vI p4)]) D142_160 (im_cal cn_142 cl_2_224) (Or.inl rfl) rfl sf_13 rfl rfl rfl rfl hd ⟨rfl, rfl, trivial⟩ ?_
                  refine hP.mono ?_
                  rintro _ e62 M56 ⟨x57, rfl, rfl, hP⟩
                  refine im_bkS ?_
                  obtain ⟨hg58, hP⟩ := hP
                  refine im_pfI (q := 166) D142_163 (im_fl cn_142 fl_2_183) hb55.1 rfl rfl ti_9_5 hg58 ?_
                  refine im_ld (q := 167) (i := 0) D142_166 rfl rfl rfl ?_
                  refine im_ld (q := 168) (i := 1) D142_167 rfl rfl rfl ?_
                  refine im_ld (q := 169) (i := 2) D142_168 rfl rfl rfl ?_
                  refine im_callV (q := 172) (kd := 1) (y := 145) (n := 2) (ci := 2) (a := 931) (vs := [.ref 931, .ref p1, vI p2]) (r := []) (L2 := [some (.ref 931), some (.ref p1), some (vI p2), none, none, none, none, none, none, none]) D142_169 (im_cal cn_142 cl_2_264) (Or.inl rfl) rfl sf_931 rfl rfl rfl rfl hd ⟨rfl, rfl, rfl, trivial⟩ ?_
                  refine hP.mono ?_
                  rintro _ e61 M59 ⟨x60, rfl, rfl, hP⟩
                  refine im_bkS ?_
                  exact im_iret (q := 173) D142_172 rfl hP
              refine im_ifc (q := 138) (t := 142) D142_135 rfl hg44 (fun hc45 => ?_) (fun hc45 => ?_)
              · refine im_iconst (q := 143) D142_142 ?_
                exact (kJ48 (0) (Or.inl ⟨hc45, rfl⟩)).wk ⟨rfl, rfl, rfl, rfl, rfl, trivial⟩
              · refine im_iconst (q := 139) D142_138 ?_
                refine im_goto (q := 142) (t := 143) D142_139 rfl ?_
                exact (kJ48 (1) (Or.inr ⟨(Decidable.not_not.mp hc45), rfl⟩)).wk ⟨rfl, rfl, rfl, rfl, rfl, trivial⟩
          · replace hP := hP.2 hc19
            refine im_bipush (q := 108) D142_106 rfl ?_
            exact im_iret (q := 109) D142_108 rfl hP
        · replace hP := hP.2 (Decidable.not_not.mp hc13)
          refine im_ld (q := 74) (i := 0) D142_73 rfl rfl rfl ?_
          refine im_ld (q := 76) (i := 4) D142_74 rfl rfl rfl ?_
          refine im_ld (q := 77) (i := 1) D142_76 rfl rfl rfl ?_
          refine im_gfR (q := 80) (b := (p1 + 5)) D142_77 (im_fl cn_142 fl_2_260) hp1.1 rfl rfl tR_7_4 rfl ?_
          refine im_ld (q := 81) (i := 2) D142_80 rfl rfl rfl ?_
          obtain ⟨b65, hb66, hP⟩ := hP
          obtain ⟨hb67, hP⟩ := hP
          refine im_aald (q := 82) D142_81 hp1.2.2.2.2.2.1 (Or.inl rfl) hg11.1 hg11.2 (Nat.le_trans hp1.2.2.2.2.2.2 (by decide)) hb66 ?_
          refine im_callV (q := 85) (kd := 1) (y := 144) (n := 2) (ci := 2) (a := 931) (vs := [.ref 931, vI p4, .ref b65]) (r := []) (L2 := [some (.ref 931), some (vI p4), some (.ref b65), none, none]) D142_82 (im_cal cn_142 cl_2_261) (Or.inl rfl) rfl sf_931 rfl rfl rfl rfl hd ⟨rfl, rfl, rfl, trivial⟩ ?_
          refine hP.mono ?_
          rintro _ e116 M68 ⟨x69, rfl, rfl, hP⟩
          refine im_bkS ?_
          refine im_goto (q := 88) (t := 97) D142_85 rfl ?_
          refine im_st1 (q := 99) (i := 6) (L' := [some (.ref 931), some (.ref p1), some (vI p2), none, some (vI p4), some (vI p5), some (vI x69)]) D142_97 (Or.inr rfl) (Nat.le_of_ble_eq_true rfl) rfl ?_
          refine im_ld (q := 100) (i := 0) D142_99 rfl rfl rfl ?_
          refine im_rng (j := 12) sf_931 (by decide) (by decide) (fun hr70 => ?_)
          refine im_gfI (q := 103) D142_100 (im_fl cn_142 fl_2_86) sf_931 rfl rfl tI_2_12 rfl ?_
          refine im_ifc (q := 106) (t := 109) D142_103 rfl (im_z32 hr70) (fun hc71 => ?_) (fun hc71 => ?_)
          · replace hP := hP.1 hc71
            refine im_ld (q := 110) (i := 1) D142_109 rfl rfl rfl ?_
            refine im_gfR (q := 113) (b := (p1 + 1)) D142_110 (im_fl cn_142 fl_2_259) hp1.1 rfl rfl tR_7_0 rfl ?_
            refine im_ld (q := 114) (i := 2) D142_113 rfl rfl rfl ?_
            refine im_rng (j := p2) hp1.2.1 hg11.1 hg11.2 (fun hr72 => ?_)
            refine im_iald (q := 115) D142_114 hp1.2.1 hg11.1 hg11.2 (Nat.le_trans hp1.2.2.2.2.2.2 (by decide)) rfl ?_
            refine im_bipush (q := 117) D142_115 rfl ?_
            refine im_icmp (q := 120) (t := 145) D142_117 rfl hr72 (by decide) (fun hc73 => ?_) (fun hc73 => ?_)
            · replace hP := hP.1 hc73
              refine im_ld (q := 147) (i := 6) D142_145 rfl rfl rfl ?_
              obtain ⟨hg74, hP⟩ := hP
              refine im_ifc (q := 150) (t := 173) D142_147 rfl hg74 (fun hc75 => ?_) (fun hc75 => ?_)
              · replace hP := hP.1 hc75
                refine im_ld (q := 174) (i := 0) D142_173 rfl rfl rfl ?_
                refine im_gfR (q := 177) (b := 13) D142_174 (im_fl cn_142 fl_2_55) sf_931 rfl rfl tR_2_0 rfl ?_
                refine im_gfR (q := 180) (b := 15) D142_177 (im_fl cn_142 fl_2_112) sf_13 rfl rfl tR_5_1 rfl ?_
                refine im_ld (q := 182) (i := 4) D142_180 rfl rfl rfl ?_
                obtain ⟨hg76, hP⟩ := hP
                refine im_rng (j := p4) sf_15 hg76.1 hg76.2 (fun hr77 => ?_)
                refine im_iald (q := 183) D142_182 sf_15 hg76.1 hg76.2 (by decide) rfl ?_
                refine im_st1 (q := 185) (i := 4) (L' := [some (.ref 931), some (.ref p1), some (vI p2), none, some (vI (M68 15 p4)), some (vI p5), some (vI x69)]) D142_183 (Or.inr rfl) (Nat.le_of_ble_eq_true rfl) rfl ?_
                refine im_iinc (q := 188) (i := 5) (L' := [some (.ref 931), some (.ref p1), some (vI p2), none, some (vI (M68 15 p4)), some (vI (p5 + 1)), some (vI x69)]) D142_185 rfl (Nat.le_of_ble_eq_true rfl) rfl ?_
                refine im_goto (q := 191) (t := 32) D142_188 rfl ?_
                exact hP.wk ⟨rfl, rfl, rfl, rfl, rfl, trivial⟩
              · replace hP := hP.2 hc75
                refine im_ld (q := 151) (i := 0) D142_150 rfl rfl rfl ?_
                obtain ⟨b78, hb79, hP⟩ := hP
                obtain ⟨hb80, hP⟩ := hP
                refine im_gfD (q := 154) D142_151 (im_fl cn_142 fl_2_31) sf_931 rfl rfl tR_2_4 rfl hb79 ?_
                refine im_ld (q := 155) (i := 0) D142_154 rfl rfl rfl ?_
                refine im_gfR (q := 158) (b := 13) D142_155 (im_fl cn_142 fl_2_55) sf_931 rfl rfl tR_2_0 rfl ?_
                refine im_ld (q := 160) (i := 4) D142_158 rfl rfl rfl ?_
                refine im_callV (q := 163) (kd := 1) (y := 138) (n := 1) (ci := 5) (a := 13) (vs := [.ref 13, vI p4]) (r := [.ref b78]) (L2 := [some (.ref 13), some (vI p4)]) D142_160 (im_cal cn_142 cl_2_224) (Or.inl rfl) rfl sf_13 rfl rfl rfl rfl hd ⟨rfl, rfl, trivial⟩ ?_
                refine hP.mono ?_
                rintro _ e87 M81 ⟨x82, rfl, rfl, hP⟩
                refine im_bkS ?_
                obtain ⟨hg83, hP⟩ := hP
                refine im_pfI (q := 166) D142_163 (im_fl cn_142 fl_2_183) hb80.1 rfl rfl ti_9_5 hg83 ?_
                refine im_ld (q := 167) (i := 0) D142_166 rfl rfl rfl ?_
                refine im_ld (q := 168) (i := 1) D142_167 rfl rfl rfl ?_
                refine im_ld (q := 169) (i := 2) D142_168 rfl rfl rfl ?_
                refine im_callV (q := 172) (kd := 1) (y := 145) (n := 2) (ci := 2) (a := 931) (vs := [.ref 931, .ref p1, vI p2]) (r := []) (L2 := [some (.ref 931), some (.ref p1), some (vI p2), none, none, none, none, none, none, none]) D142_169 (im_cal cn_142 cl_2_264) (Or.inl rfl) rfl sf_931 rfl rfl rfl rfl hd ⟨rfl, rfl, rfl, trivial⟩ ?_
                refine hP.mono ?_
                rintro _ e86 M84 ⟨x85, rfl, rfl, hP⟩
                refine im_bkS ?_
                exact im_iret (q := 173) D142_172 rfl hP
            · replace hP := hP.2 (Decidable.not_not.mp hc73)
              refine im_ld (q := 121) (i := 0) D142_120 rfl rfl rfl ?_
              refine im_gfR (q := 124) (b := 932) D142_121 (im_fl cn_142 fl_2_11) sf_931 rfl rfl tR_2_1 rfl ?_
              refine im_iconst (q := 125) D142_124 ?_
              obtain ⟨b88, hb89, hP⟩ := hP
              obtain ⟨hb90, hP⟩ := hP
              refine im_aald (q := 126) D142_125 sf_932 (Or.inl rfl) (by decide) (by decide) (by decide) hb89 ?_
              refine im_ld (q := 127) (i := 1) D142_126 rfl rfl rfl ?_
              refine im_gfR (q := 130) (b := (p1 + 5)) D142_127 (im_fl cn_142 fl_2_260) hp1.1 rfl rfl tR_7_4 rfl ?_
              refine im_ld (q := 131) (i := 2) D142_130 rfl rfl rfl ?_
              obtain ⟨b91, hb92, hP⟩ := hP
              obtain ⟨hb93, hP⟩ := hP
              refine im_aald (q := 132) D142_131 hp1.2.2.2.2.2.1 (Or.inl rfl) hg11.1 hg11.2 (Nat.le_trans hp1.2.2.2.2.2.2 (by decide)) hb92 ?_
              refine im_callV (q := 135) (kd := 1) (y := 68) (n := 1) (ci := 3) (a := b88) (vs := [.ref b88, .ref b91]) (r := []) (L2 := [some (.ref b88), some (.ref b91)]) D142_132 (im_cal cn_142 cl_2_127) (Or.inl rfl) rfl hb90.1 rfl rfl rfl rfl hd ⟨rfl, rfl, trivial⟩ ?_
              refine hP.mono ?_
              rintro _ e115 M94 ⟨x95, rfl, rfl, hP⟩
              refine im_bkS ?_
              obtain ⟨hg96, hP⟩ := hP
              have hJ99 := hP
              have kJ100 : ∀ x98 : Int, (((¬ x95 = 0) ∧ x98 = 0) ∨ ((x95 = 0) ∧ x98 = 1)) → im_T g d 142 143 [some (.ref 931), some (.ref p1), some (vI p2), none, some (vI p4), some (vI p5), none] [vI x98] e M94 K := by
                intro x98 hx101
                have hP := hJ99 x98 hx101
                refine im_st1 (q := 145) (i := 6) (L' := [some (.ref 931), some (.ref p1), some (vI p2), none, some (vI p4), some (vI p5), some (vI x98)]) D142_143 (Or.inr rfl) (Nat.le_of_ble_eq_true rfl) rfl ?_
                refine im_ld (q := 147) (i := 6) D142_145 rfl rfl rfl ?_
                refine im_ifc (q := 150) (t := 173) D142_147 rfl (by clear hP; omega) (fun hc102 => ?_) (fun hc102 => ?_)
                · replace hP := hP.1 hc102
                  refine im_ld (q := 174) (i := 0) D142_173 rfl rfl rfl ?_
                  refine im_gfR (q := 177) (b := 13) D142_174 (im_fl cn_142 fl_2_55) sf_931 rfl rfl tR_2_0 rfl ?_
                  refine im_gfR (q := 180) (b := 15) D142_177 (im_fl cn_142 fl_2_112) sf_13 rfl rfl tR_5_1 rfl ?_
                  refine im_ld (q := 182) (i := 4) D142_180 rfl rfl rfl ?_
                  obtain ⟨hg103, hP⟩ := hP
                  refine im_rng (j := p4) sf_15 hg103.1 hg103.2 (fun hr104 => ?_)
                  refine im_iald (q := 183) D142_182 sf_15 hg103.1 hg103.2 (by decide) rfl ?_
                  refine im_st1 (q := 185) (i := 4) (L' := [some (.ref 931), some (.ref p1), some (vI p2), none, some (vI (M94 15 p4)), some (vI p5), some (vI x98)]) D142_183 (Or.inr rfl) (Nat.le_of_ble_eq_true rfl) rfl ?_
                  refine im_iinc (q := 188) (i := 5) (L' := [some (.ref 931), some (.ref p1), some (vI p2), none, some (vI (M94 15 p4)), some (vI (p5 + 1)), some (vI x98)]) D142_185 rfl (Nat.le_of_ble_eq_true rfl) rfl ?_
                  refine im_goto (q := 191) (t := 32) D142_188 rfl ?_
                  exact hP.wk ⟨rfl, rfl, rfl, rfl, rfl, trivial⟩
                · replace hP := hP.2 hc102
                  refine im_ld (q := 151) (i := 0) D142_150 rfl rfl rfl ?_
                  obtain ⟨b105, hb106, hP⟩ := hP
                  obtain ⟨hb107, hP⟩ := hP
                  refine im_gfD (q := 154) D142_151 (im_fl cn_142 fl_2_31) sf_931 rfl rfl tR_2_4 rfl hb106 ?_
                  refine im_ld (q := 155) (i := 0) D142_154 rfl rfl rfl ?_
                  refine im_gfR (q := 158) (b := 13) D142_155 (im_fl cn_142 fl_2_55) sf_931 rfl rfl tR_2_0 rfl ?_
                  refine im_ld (q := 160) (i := 4) D142_158 rfl rfl rfl ?_
                  refine im_callV (q := 163) (kd := 1) (y := 138) (n := 1) (ci := 5) (a := 13) (vs := [.ref 13, vI p4]) (r := [.ref b105]) (L2 := [some (.ref 13), some (vI p4)]) D142_160 (im_cal cn_142 cl_2_224) (Or.inl rfl) rfl sf_13 rfl rfl rfl rfl hd ⟨rfl, rfl, trivial⟩ ?_
                  refine hP.mono ?_
                  rintro _ e114 M108 ⟨x109, rfl, rfl, hP⟩
                  refine im_bkS ?_
                  obtain ⟨hg110, hP⟩ := hP
                  refine im_pfI (q := 166) D142_163 (im_fl cn_142 fl_2_183) hb107.1 rfl rfl ti_9_5 hg110 ?_
                  refine im_ld (q := 167) (i := 0) D142_166 rfl rfl rfl ?_
                  refine im_ld (q := 168) (i := 1) D142_167 rfl rfl rfl ?_
                  refine im_ld (q := 169) (i := 2) D142_168 rfl rfl rfl ?_
                  refine im_callV (q := 172) (kd := 1) (y := 145) (n := 2) (ci := 2) (a := 931) (vs := [.ref 931, .ref p1, vI p2]) (r := []) (L2 := [some (.ref 931), some (.ref p1), some (vI p2), none, none, none, none, none, none, none]) D142_169 (im_cal cn_142 cl_2_264) (Or.inl rfl) rfl sf_931 rfl rfl rfl rfl hd ⟨rfl, rfl, rfl, trivial⟩ ?_
                  refine hP.mono ?_
                  rintro _ e113 M111 ⟨x112, rfl, rfl, hP⟩
                  refine im_bkS ?_
                  exact im_iret (q := 173) D142_172 rfl hP
              refine im_ifc (q := 138) (t := 142) D142_135 rfl hg96 (fun hc97 => ?_) (fun hc97 => ?_)
              · refine im_iconst (q := 143) D142_142 ?_
                exact (kJ100 (0) (Or.inl ⟨hc97, rfl⟩)).wk ⟨rfl, rfl, rfl, rfl, rfl, trivial⟩
              · refine im_iconst (q := 139) D142_138 ?_
                refine im_goto (q := 142) (t := 143) D142_139 rfl ?_
                exact (kJ100 (1) (Or.inr ⟨(Decidable.not_not.mp hc97), rfl⟩)).wk ⟨rfl, rfl, rfl, rfl, rfl, trivial⟩
          · replace hP := hP.2 hc71
            refine im_bipush (q := 108) D142_106 rfl ?_
            exact im_iret (q := 109) D142_108 rfl hP
set_option maxRecDepth 20000 in
set_option maxHeartbeats 4000000 in
theorem k_Machine_isNamed_0 {g : im_g} {d : Nat} {e : im_E} {M : im_M} {K : im_K} {p1 p3 : Int} {p2 np2 : Nat} (hp2 : im_row e p2 np2) (hP : (0 ≤ p3 ∧ p3 < np2) ∧ (0 ≤ p1 ∧ p1 < 5000) ∧ (((((M 14 p1) = (M (p2 + 1) p3) → (((M 19 p1) = (M (p2 + 2) p3) → (((M 20 p1) = (M (p2 + 3) p3) → ((((¬ (M (p2 + 1) p3) = 30 → ((¬ (M (p2 + 1) p3) = 29 → ((¬ (M 21 p1) = (M (p2 + 4) p3) → K (.inl (some (vI 0))) e M))))))) ∧ (((((M (p2 + 1) p3) = 30)) ∨ ((¬ (M (p2 + 1) p3) = 30) ∧ ((M (p2 + 1) p3) = 29)) ∨ ((¬ (M (p2 + 1) p3) = 30) ∧ (¬ (M (p2 + 1) p3) = 29) ∧ ((M 21 p1) = (M (p2 + 4) p3)))) → K (.inl (some (vI 1))) e M))))))) ∧ (¬ (M 14 p1) = (M (p2 + 1) p3) → K (.inl (some (vI 0))) e M))) ∧ (((((M 14 p1) = (M (p2 + 1) p3)) ∧ (¬ (M 19 p1) = (M (p2 + 2) p3))) ∨ (((M 14 p1) = (M (p2 + 1) p3)) ∧ ((M 19 p1) = (M (p2 + 2) p3)) ∧ (¬ (M 20 p1) = (M (p2 + 3) p3)))) → (((M (p2 + 1) p3) = 30 → K (.inl (some (vI 1))) e M) ∧ (¬ (M (p2 + 1) p3) = 30 → K (.inl (some (vI 0))) e M))))) : im_T g d 143 0 [some (.ref 931), some (vI p1), some (.ref p2), some (vI p3), none, none] [] e M K := by
  refine im_ld (q := 1) (i := 2) D143_0 rfl rfl rfl ?_
  refine im_gfR (q := 4) (b := (p2 + 1)) D143_1 (im_fl cn_143 fl_2_259) hp2.1 rfl rfl tR_7_0 rfl ?_
  refine im_ld (q := 5) (i := 3) D143_4 rfl rfl rfl ?_
  obtain ⟨hg1, hP⟩ := hP
  refine im_rng (j := p3) hp2.2.1 hg1.1 hg1.2 (fun hr2 => ?_)
  refine im_iald (q := 6) D143_5 hp2.2.1 hg1.1 hg1.2 (Nat.le_trans hp2.2.2.2.2.2.2 (by decide)) rfl ?_
  refine im_st1 (q := 8) (i := 4) (L' := [some (.ref 931), some (vI p1), some (.ref p2), some (vI p3), some (vI (M (p2 + 1) p3)), none]) D143_6 (Or.inr rfl) (Nat.le_of_ble_eq_true rfl) rfl ?_
  refine im_ld (q := 9) (i := 0) D143_8 rfl rfl rfl ?_
  refine im_gfR (q := 12) (b := 13) D143_9 (im_fl cn_143 fl_2_55) sf_931 rfl rfl tR_2_0 rfl ?_
  refine im_gfR (q := 15) (b := 14) D143_12 (im_fl cn_143 fl_2_89) sf_13 rfl rfl tR_5_0 rfl ?_
  refine im_ld (q := 16) (i := 1) D143_15 rfl rfl rfl ?_
  obtain ⟨hg3, hP⟩ := hP
  refine im_rng (j := p1) sf_14 hg3.1 hg3.2 (fun hr4 => ?_)
  refine im_iald (q := 17) D143_16 sf_14 hg3.1 hg3.2 (by decide) rfl ?_
  refine im_ld (q := 19) (i := 4) D143_17 rfl rfl rfl ?_
  obtain ⟨hP, hJ12⟩ := hP
  have kJ13 : ((((M 14 p1) = (M (p2 + 1) p3)) ∧ (¬ (M 19 p1) = (M (p2 + 2) p3))) ∨ (((M 14 p1) = (M (p2 + 1) p3)) ∧ ((M 19 p1) = (M (p2 + 2) p3)) ∧ (¬ (M 20 p1) = (M (p2 + 3) p3)))) → im_T g d 143 66 [some (.ref 931), some (vI p1), some (.ref p2), some (vI p3), some (vI (M (p2 + 1) p3)), none] [] e M K := by
    intro  hx14
    have hP := hJ12  hx14
    refine im_iconst (q := 67) D143_66 ?_
    refine im_st1 (q := 69) (i := 5) (L' := [some (.ref 931), some (vI p1), some (.ref p2), some (vI p3), some (vI (M (p2 + 1) p3)), some (vI 0)]) D143_67 (Or.inr rfl) (Nat.le_of_ble_eq_true rfl) rfl ?_
    refine im_ld (q := 71) (i := 4) D143_69 rfl rfl rfl ?_
    refine im_bipush (q := 73) D143_71 rfl ?_
    refine im_icmp (q := 76) (t := 107) D143_73 rfl hr2 (by decide) (fun hc15 => ?_) (fun hc15 => ?_)
    · replace hP := hP.1 hc15
      refine im_iconst (q := 108) D143_107 ?_
      refine im_goto (q := 111) (t := 112) D143_108 rfl ?_
      exact im_zret (q := 113) D143_112 rfl (by decide) hP
    · replace hP := hP.2 hc15
      refine im_ld (q := 78) (i := 5) D143_76 rfl rfl rfl ?_
      refine im_ifc (q := 81) (t := 111) D143_78 rfl (by decide) (fun _ => ?_) (fun hc => absurd (show (0 : Int) = 0 by decide) hc)
      refine im_iconst (q := 112) D143_111 ?_
      exact im_zret (q := 113) D143_112 rfl (by decide) hP
  refine im_icmp (q := 22) (t := 24) D143_19 rfl hr4 hr2 (fun hc5 => ?_) (fun hc5 => ?_)
  · replace hP := hP.1 hc5
    refine im_ld (q := 25) (i := 0) D143_24 rfl rfl rfl ?_
    refine im_gfR (q := 28) (b := 13) D143_25 (im_fl cn_143 fl_2_55) sf_931 rfl rfl tR_2_0 rfl ?_
    refine im_gfR (q := 31) (b := 19) D143_28 (im_fl cn_143 fl_2_68) sf_13 rfl rfl tR_5_5 rfl ?_
    refine im_ld (q := 32) (i := 1) D143_31 rfl rfl rfl ?_
    refine im_rng (j := p1) sf_19 hg3.1 hg3.2 (fun hr6 => ?_)
    refine im_lald (q := 33) D143_32 sf_19 hg3.1 hg3.2 (by decide) rfl ?_
    refine im_ld (q := 34) (i := 2) D143_33 rfl rfl rfl ?_
    refine im_gfR (q := 37) (b := (p2 + 2)) D143_34 (im_fl cn_143 fl_2_267) hp2.1 rfl rfl tR_7_1 rfl ?_
    refine im_ld (q := 38) (i := 3) D143_37 rfl rfl rfl ?_
    refine im_rng (j := p3) hp2.2.2.1 hg1.1 hg1.2 (fun hr7 => ?_)
    refine im_lald (q := 39) D143_38 hp2.2.2.1 hg1.1 hg1.2 (Nat.le_trans hp2.2.2.2.2.2.2 (by decide)) rfl ?_
    refine im_lif (q := 40) (q2 := 43) (t := 66) D143_39 D143_40 rfl hr6 hr7 (fun hc8 => ?_) (fun hc8 => ?_)
    · exact (kJ13  (Or.inl ⟨hc5, hc8⟩)).wk ⟨rfl, rfl, rfl, rfl, rfl, trivial⟩
    · replace hP := hP (Decidable.not_not.mp hc8)
      refine im_ld (q := 44) (i := 0) D143_43 rfl rfl rfl ?_
      refine im_gfR (q := 47) (b := 13) D143_44 (im_fl cn_143 fl_2_55) sf_931 rfl rfl tR_2_0 rfl ?_
      refine im_gfR (q := 50) (b := 20) D143_47 (im_fl cn_143 fl_2_63) sf_13 rfl rfl tR_5_6 rfl ?_
      refine im_ld (q := 51) (i := 1) D143_50 rfl rfl rfl ?_
      refine im_rng (j := p1) sf_20 hg3.1 hg3.2 (fun hr9 => ?_)
      refine im_lald (q := 52) D143_51 sf_20 hg3.1 hg3.2 (by decide) rfl ?_
      refine im_ld (q := 53) (i := 2) D143_52 rfl rfl rfl ?_
      refine im_gfR (q := 56) (b := (p2 + 3)) D143_53 (im_fl cn_143 fl_2_268) hp2.1 rfl rfl tR_7_2 rfl ?_
      refine im_ld (q := 57) (i := 3) D143_56 rfl rfl rfl ?_
      refine im_rng (j := p3) hp2.2.2.2.1 hg1.1 hg1.2 (fun hr10 => ?_)
      refine im_lald (q := 58) D143_57 hp2.2.2.2.1 hg1.1 hg1.2 (Nat.le_trans hp2.2.2.2.2.2.2 (by decide)) rfl ?_
      refine im_lif (q := 59) (q2 := 62) (t := 66) D143_58 D143_59 rfl hr9 hr10 (fun hc11 => ?_) (fun hc11 => ?_)
      · exact (kJ13  (Or.inr ⟨hc5, (Decidable.not_not.mp hc8), hc11⟩)).wk ⟨rfl, rfl, rfl, rfl, rfl, trivial⟩
      · replace hP := hP (Decidable.not_not.mp hc11)
        refine im_iconst (q := 63) D143_62 ?_
        refine im_goto (q := 66) (t := 67) D143_63 rfl ?_
        refine im_st1 (q := 69) (i := 5) (L' := [some (.ref 931), some (vI p1), some (.ref p2), some (vI p3), some (vI (M (p2 + 1) p3)), some (vI 1)]) D143_67 (Or.inr rfl) (Nat.le_of_ble_eq_true rfl) rfl ?_
        refine im_ld (q := 71) (i := 4) D143_69 rfl rfl rfl ?_
        refine im_bipush (q := 73) D143_71 rfl ?_
        obtain ⟨hP, hJ23⟩ := hP
        have kJ24 : ((((M (p2 + 1) p3) = 30)) ∨ ((¬ (M (p2 + 1) p3) = 30) ∧ ((M (p2 + 1) p3) = 29)) ∨ ((¬ (M (p2 + 1) p3) = 30) ∧ (¬ (M (p2 + 1) p3) = 29) ∧ ((M 21 p1) = (M (p2 + 4) p3)))) → im_T g d 143 107 [none, none, none, none, none, none] [] e M K := by
          intro  hx25
          have hP := hJ23  hx25
          refine im_iconst (q := 108) D143_107 ?_
          refine im_goto (q := 111) (t := 112) D143_108 rfl ?_
          exact im_zret (q := 113) D143_112 rfl (by decide) hP
        refine im_icmp (q := 76) (t := 107) D143_73 rfl hr2 (by decide) (fun hc17 => ?_) (fun hc17 => ?_)
        · exact (kJ24  (Or.inl hc17)).wk trivial
        · replace hP := hP hc17
          refine im_ld (q := 78) (i := 5) D143_76 rfl rfl rfl ?_
          refine im_ifc (q := 81) (t := 111) D143_78 rfl (by decide) (fun hc => absurd hc (show ¬ ((1 : Int) = 0) by decide)) (fun _ => ?_)
          refine im_ld (q := 83) (i := 4) D143_81 rfl rfl rfl ?_
          refine im_bipush (q := 85) D143_83 rfl ?_
          refine im_icmp (q := 88) (t := 107) D143_85 rfl hr2 (by decide) (fun hc19 => ?_) (fun hc19 => ?_)
          · exact (kJ24  (Or.inr (Or.inl ⟨hc17, hc19⟩))).wk trivial
          · replace hP := hP hc19
            refine im_ld (q := 89) (i := 0) D143_88 rfl rfl rfl ?_
            refine im_gfR (q := 92) (b := 13) D143_89 (im_fl cn_143 fl_2_55) sf_931 rfl rfl tR_2_0 rfl ?_
            refine im_gfR (q := 95) (b := 21) D143_92 (im_fl cn_143 fl_2_218) sf_13 rfl rfl tR_5_7 rfl ?_
            refine im_ld (q := 96) (i := 1) D143_95 rfl rfl rfl ?_
            refine im_rng (j := p1) sf_21 hg3.1 hg3.2 (fun hr20 => ?_)
            refine im_lald (q := 97) D143_96 sf_21 hg3.1 hg3.2 (by decide) rfl ?_
            refine im_ld (q := 98) (i := 2) D143_97 rfl rfl rfl ?_
            refine im_gfR (q := 101) (b := (p2 + 4)) D143_98 (im_fl cn_143 fl_2_269) hp2.1 rfl rfl tR_7_3 rfl ?_
            refine im_ld (q := 102) (i := 3) D143_101 rfl rfl rfl ?_
            refine im_rng (j := p3) hp2.2.2.2.2.1 hg1.1 hg1.2 (fun hr21 => ?_)
            refine im_lald (q := 103) D143_102 hp2.2.2.2.2.1 hg1.1 hg1.2 (Nat.le_trans hp2.2.2.2.2.2.2 (by decide)) rfl ?_
            refine im_lif (q := 104) (q2 := 107) (t := 111) D143_103 D143_104 rfl hr20 hr21 (fun hc22 => ?_) (fun hc22 => ?_)
            · replace hP := hP hc22
              refine im_iconst (q := 112) D143_111 ?_
              exact im_zret (q := 113) D143_112 rfl (by decide) hP
            · exact (kJ24  (Or.inr (Or.inr ⟨hc17, hc19, (Decidable.not_not.mp hc22)⟩))).wk trivial
  · replace hP := hP.2 hc5
    refine im_iconst (q := 23) D143_22 ?_
    exact im_zret (q := 24) D143_23 rfl (by decide) hP
set_option maxRecDepth 20000 in
set_option maxHeartbeats 4000000 in
theorem k_Machine_isBounded_0 {g : im_g} {d : Nat} {e : im_E} {M : im_M} {K : im_K} {p1 : Int} {p2 : Nat} (hp2 : im_num e p2) (hP : (0 ≤ p1 ∧ p1 < 5000) ∧ im_T g d 144 13 [some (.ref 931), some (vI p1), some (.ref p2), some (vI (M 18 p1)), some (vI 0)] [] e M K) : im_T g d 144 0 [some (.ref 931), some (vI p1), some (.ref p2), none, none] [] e M K := by
  refine im_ld (q := 1) (i := 0) D144_0 rfl rfl rfl ?_
  refine im_gfR (q := 4) (b := 13) D144_1 (im_fl cn_144 fl_2_55) sf_931 rfl rfl tR_2_0 rfl ?_
  refine im_gfR (q := 7) (b := 18) D144_4 (im_fl cn_144 fl_2_134) sf_13 rfl rfl tR_5_4 rfl ?_
  refine im_ld (q := 8) (i := 1) D144_7 rfl rfl rfl ?_
  obtain ⟨hg1, hP⟩ := hP
  refine im_rng (j := p1) sf_18 hg1.1 hg1.2 (fun hr2 => ?_)
  refine im_iald (q := 9) D144_8 sf_18 hg1.1 hg1.2 (by decide) rfl ?_
  refine im_st1 (q := 10) (i := 3) (L' := [some (.ref 931), some (vI p1), some (.ref p2), some (vI (M 18 p1)), none]) D144_9 (Or.inl ⟨_, rfl, rfl⟩) (Nat.le_of_ble_eq_true rfl) rfl ?_
  refine im_iconst (q := 11) D144_10 ?_
  refine im_st1 (q := 13) (i := 4) (L' := [some (.ref 931), some (vI p1), some (.ref p2), some (vI (M 18 p1)), some (vI 0)]) D144_11 (Or.inr rfl) (Nat.le_of_ble_eq_true rfl) rfl ?_
  exact hP.wk ⟨rfl, rfl, rfl, rfl, rfl, trivial⟩
set_option maxRecDepth 20000 in
set_option maxHeartbeats 4000000 in
theorem k_Machine_isBounded_13 {g : im_g} {d : Nat} {e : im_E} {M : im_M} {K : im_K} {p1 p3 p4 : Int} {p2 : Nat} (hp2 : im_num e p2) (hd : 1 ≤ d) (hP : (im_i32 p4) ∧ (0 ≤ p1 ∧ p1 < 5000) ∧ (((M 21 p1) ≤ p4 → K (.inl (some (vI 0))) e M) ∧ (p4 < (M 21 p1) → ∃ b5 : Nat, ((M 932 0) = (b5 : Int)) ∧ (im_num e b5) ∧ im_T g (d - 1) 125 0 [some (.ref 13), some (vI p3), some (.ref b5), none] [] e M (im_ri (fun x9 e_ M8 => e = e_ ∧ ∃ b10 : Nat, ((M8 932 1) = (b10 : Int)) ∧ (im_num e b10) ∧ im_T g (d - 1) 125 0 [some (.ref 13), some (vI x9), some (.ref b10), none] [] e M8 (im_ri (fun x14 e_ M13 => e = e_ ∧ ∃ b15 : Nat, ((M13 932 0) = (b15 : Int)) ∧ (im_num e b15) ∧ im_T g (d - 1) 68 0 [some (.ref b15), some (.ref p2)] [] e M13 (im_ri (fun x19 e_ M18 => e = e_ ∧ (im_i32 x19) ∧ ((0 < x19 → im_T g d 144 13 [some (.ref 931), some (vI p1), some (.ref p2), some (vI x14), some (vI (p4 + 1))] [] e M18 K) ∧ (x19 ≤ 0 → ∃ b22 : Nat, ((M18 932 1) = (b22 : Int)) ∧ (im_num e b22) ∧ im_T g (d - 1) 68 0 [some (.ref b22), some (.ref p2)] [] e M18 (im_ri (fun x26 e_ M25 => e = e_ ∧ (im_i32 x26) ∧ ((x26 < 0 → im_T g d 144 13 [some (.ref 931), some (vI p1), some (.ref p2), some (vI x14), some (vI (p4 + 1))] [] e M25 K) ∧ (0 ≤ x26 → K (.inl (some (vI 1))) e M25))))))))))))))) : im_T g d 144 13 [some (.ref 931), some (vI p1), some (.ref p2), some (vI p3), some (vI p4)] [] e M K := by
  refine im_ld (q := 15) (i := 4) D144_13 rfl rfl rfl ?_
  obtain ⟨hg1, hP⟩ := hP
  refine im_i2l (q := 16) D144_15 hg1 ?_
  refine im_ld (q := 17) (i := 0) D144_16 rfl rfl rfl ?_
  refine im_gfR (q := 20) (b := 13) D144_17 (im_fl cn_144 fl_2_55) sf_931 rfl rfl tR_2_0 rfl ?_
  refine im_gfR (q := 23) (b := 21) D144_20 (im_fl cn_144 fl_2_218) sf_13 rfl rfl tR_5_7 rfl ?_
  refine im_ld (q := 24) (i := 1) D144_23 rfl rfl rfl ?_
  obtain ⟨hg2, hP⟩ := hP
  refine im_rng (j := p1) sf_21 hg2.1 hg2.2 (fun hr3 => ?_)
  refine im_lald (q := 25) D144_24 sf_21 hg2.1 hg2.2 (by decide) rfl ?_
  refine im_lif (q := 26) (q2 := 29) (t := 93) D144_25 D144_26 rfl (im_32_64 hg1) hr3 (fun hc4 => ?_) (fun hc4 => ?_)
  · replace hP := hP.1 hc4
    refine im_iconst (q := 94) D144_93 ?_
    exact im_zret (q := 95) D144_94 rfl (by decide) hP
  · replace hP := hP.2 (Int.not_le.mp hc4)
    refine im_ld (q := 30) (i := 0) D144_29 rfl rfl rfl ?_
    refine im_gfR (q := 33) (b := 13) D144_30 (im_fl cn_144 fl_2_55) sf_931 rfl rfl tR_2_0 rfl ?_
    refine im_ld (q := 34) (i := 3) D144_33 rfl rfl rfl ?_
    refine im_ld (q := 35) (i := 0) D144_34 rfl rfl rfl ?_
    refine im_gfR (q := 38) (b := 932) D144_35 (im_fl cn_144 fl_2_11) sf_931 rfl rfl tR_2_1 rfl ?_
    refine im_iconst (q := 39) D144_38 ?_
    obtain ⟨b5, hb6, hP⟩ := hP
    obtain ⟨hb7, hP⟩ := hP
    refine im_aald (q := 40) D144_39 sf_932 (Or.inl rfl) (by decide) (by decide) (by decide) hb6 ?_
    refine im_callV (q := 43) (kd := 1) (y := 125) (n := 2) (ci := 5) (a := 13) (vs := [.ref 13, vI p3, .ref b5]) (r := []) (L2 := [some (.ref 13), some (vI p3), some (.ref b5), none]) D144_40 (im_cal cn_144 cl_2_137) (Or.inl rfl) rfl sf_13 rfl rfl rfl rfl hd ⟨rfl, rfl, rfl, trivial⟩ ?_
    refine hP.mono ?_
    rintro _ e32 M8 ⟨x9, rfl, rfl, hP⟩
    refine im_bkS ?_
    refine im_st1 (q := 44) (i := 3) (L' := [some (.ref 931), some (vI p1), some (.ref p2), some (vI x9), some (vI p4)]) D144_43 (Or.inl ⟨_, rfl, rfl⟩) (Nat.le_of_ble_eq_true rfl) rfl ?_
    refine im_ld (q := 45) (i := 0) D144_44 rfl rfl rfl ?_
    refine im_gfR (q := 48) (b := 13) D144_45 (im_fl cn_144 fl_2_55) sf_931 rfl rfl tR_2_0 rfl ?_
    refine im_ld (q := 49) (i := 3) D144_48 rfl rfl rfl ?_
    refine im_ld (q := 50) (i := 0) D144_49 rfl rfl rfl ?_
    refine im_gfR (q := 53) (b := 932) D144_50 (im_fl cn_144 fl_2_11) sf_931 rfl rfl tR_2_1 rfl ?_
    refine im_iconst (q := 54) D144_53 ?_
    obtain ⟨b10, hb11, hP⟩ := hP
    obtain ⟨hb12, hP⟩ := hP
    refine im_aald (q := 55) D144_54 sf_932 (Or.inl rfl) (by decide) (by decide) (by decide) hb11 ?_
    refine im_callV (q := 58) (kd := 1) (y := 125) (n := 2) (ci := 5) (a := 13) (vs := [.ref 13, vI x9, .ref b10]) (r := []) (L2 := [some (.ref 13), some (vI x9), some (.ref b10), none]) D144_55 (im_cal cn_144 cl_2_137) (Or.inl rfl) rfl sf_13 rfl rfl rfl rfl hd ⟨rfl, rfl, rfl, trivial⟩ ?_
    refine hP.mono ?_
    rintro _ e31 M13 ⟨x14, rfl, rfl, hP⟩
    refine im_bkS ?_
    refine im_st1 (q := 59) (i := 3) (L' := [some (.ref 931), some (vI p1), some (.ref p2), some (vI x14), some (vI p4)]) D144_58 (Or.inl ⟨_, rfl, rfl⟩) (Nat.le_of_ble_eq_true rfl) rfl ?_
    refine im_ld (q := 60) (i := 0) D144_59 rfl rfl rfl ?_
    refine im_gfR (q := 63) (b := 932) D144_60 (im_fl cn_144 fl_2_11) sf_931 rfl rfl tR_2_1 rfl ?_
    refine im_iconst (q := 64) D144_63 ?_
    obtain ⟨b15, hb16, hP⟩ := hP
    obtain ⟨hb17, hP⟩ := hP
    refine im_aald (q := 65) D144_64 sf_932 (Or.inl rfl) (by decide) (by decide) (by decide) hb16 ?_
    refine im_ld (q := 66) (i := 2) D144_65 rfl rfl rfl ?_
    refine im_callV (q := 69) (kd := 1) (y := 68) (n := 1) (ci := 3) (a := b15) (vs := [.ref b15, .ref p2]) (r := []) (L2 := [some (.ref b15), some (.ref p2)]) D144_66 (im_cal cn_144 cl_2_127) (Or.inl rfl) rfl hb17.1 rfl rfl rfl rfl hd ⟨rfl, rfl, trivial⟩ ?_
    refine hP.mono ?_
    rintro _ e30 M18 ⟨x19, rfl, rfl, hP⟩
    refine im_bkS ?_
    obtain ⟨hg20, hP⟩ := hP
    refine im_ifc (q := 72) (t := 87) D144_69 rfl hg20 (fun hc21 => ?_) (fun hc21 => ?_)
    · replace hP := hP.1 hc21
      refine im_iinc (q := 90) (i := 4) (L' := [some (.ref 931), some (vI p1), some (.ref p2), some (vI x14), some (vI (p4 + 1))]) D144_87 rfl (Nat.le_of_ble_eq_true rfl) rfl ?_
      refine im_goto (q := 93) (t := 13) D144_90 rfl ?_
      exact hP.wk ⟨rfl, rfl, rfl, rfl, rfl, trivial⟩
    · replace hP := hP.2 (Int.not_lt.mp hc21)
      refine im_ld (q := 73) (i := 0) D144_72 rfl rfl rfl ?_
      refine im_gfR (q := 76) (b := 932) D144_73 (im_fl cn_144 fl_2_11) sf_931 rfl rfl tR_2_1 rfl ?_
      refine im_iconst (q := 77) D144_76 ?_
      obtain ⟨b22, hb23, hP⟩ := hP
      obtain ⟨hb24, hP⟩ := hP
      refine im_aald (q := 78) D144_77 sf_932 (Or.inl rfl) (by decide) (by decide) (by decide) hb23 ?_
      refine im_ld (q := 79) (i := 2) D144_78 rfl rfl rfl ?_
      refine im_callV (q := 82) (kd := 1) (y := 68) (n := 1) (ci := 3) (a := b22) (vs := [.ref b22, .ref p2]) (r := []) (L2 := [some (.ref b22), some (.ref p2)]) D144_79 (im_cal cn_144 cl_2_127) (Or.inl rfl) rfl hb24.1 rfl rfl rfl rfl hd ⟨rfl, rfl, trivial⟩ ?_
      refine hP.mono ?_
      rintro _ e29 M25 ⟨x26, rfl, rfl, hP⟩
      refine im_bkS ?_
      obtain ⟨hg27, hP⟩ := hP
      refine im_ifc (q := 85) (t := 87) D144_82 rfl hg27 (fun hc28 => ?_) (fun hc28 => ?_)
      · replace hP := hP.1 hc28
        refine im_iinc (q := 90) (i := 4) (L' := [some (.ref 931), some (vI p1), some (.ref p2), some (vI x14), some (vI (p4 + 1))]) D144_87 rfl (Nat.le_of_ble_eq_true rfl) rfl ?_
        refine im_goto (q := 93) (t := 13) D144_90 rfl ?_
        exact hP.wk ⟨rfl, rfl, rfl, rfl, rfl, trivial⟩
      · replace hP := hP.2 (Int.not_lt.mp hc28)
        refine im_iconst (q := 86) D144_85 ?_
        exact im_zret (q := 87) D144_86 rfl (by decide) hP
set_option maxRecDepth 20000 in
set_option maxHeartbeats 4000000 in
theorem k_Machine_take_0 {g : im_g} {d : Nat} {e : im_E} {M : im_M} {K : im_K} {p2 : Int} {p1 np1 : Nat} (hp1 : im_row e p1 np1) (hd : 1 ≤ d) (hP : (0 ≤ p2 ∧ p2 < np1) ∧ ∃ b5 : Nat, ((M (p1 + 5) p2) = (b5 : Int)) ∧ (im_num e b5) ∧ ((¬ (M (p1 + 1) p2) = 29 → ((¬ (M (p1 + 1) p2) = 30 → ((0 < (M b5 0) → ((¬ (M 931 6) = 0 → ∃ b16 : Nat, ((M 931 4) = (b16 : Int)) ∧ (im_state e b16) ∧ im_T g (d - 1) 99 0 [some (.ref (b16 + 1)), some (vL (M (p1 + 2) p2)), none, some (vL (M (p1 + 4) p2)), none, some (.ref b5), none] [] e M (im_ri (fun x20 e_ M19 => e = e_ ∧ K (.inl (some (vI x20))) e M19))) ∧ ((M 931 6) = 0 → im_T g (d - 1) 89 0 [some (.ref 1207), some (vL (M (p1 + 3) p2)), none, some (vL (M (p1 + 4) p2)), none, none] [] e M (im_rr (fun a23 e_ M22 => e = e_ ∧ im_num e a23 ∧ im_T g (d - 1) 68 0 [some (.ref a23), some (.ref b5)] [] e M22 (im_ri (fun x26 e_ M25 => e = e_ ∧ (im_i32 x26) ∧ ((0 ≤ x26 → im_T g (d - 1) 119 0 [some (.ref 1207), some (vL (M (p1 + 3) p2)), none, some (vL (M (p1 + 4) p2)), none, some (.ref b5), none] [] e M25 (im_r0 (fun  e_ M29 => e = e_ ∧ ∃ b30 : Nat, ((M29 931 4) = (b30 : Int)) ∧ (im_state e b30) ∧ im_T g (d - 1) 99 0 [some (.ref (b30 + 1)), some (vL (M (p1 + 2) p2)), none, some (vL (M (p1 + 4) p2)), none, some (.ref b5), none] [] e M29 (im_ri (fun x34 e_ M33 => e = e_ ∧ K (.inl (some (vI x34))) e M33))))) ∧ (x26 < 0 → K (.inl (some (vI (-7)))) e M25))))))))) ∧ ((M b5 0) ≤ 0 → im_T g (d - 1) 118 0 [some (.ref 1459), some (vI 1), some (vL (M (p1 + 2) p2)), none, some (vL (M (p1 + 3) p2)), none, some (vL (M (p1 + 4) p2)), none, some (.ref b5)] [] e M (im_ri (fun x40 e_ M39 => e = e_ ∧ (im_i32 x40) ∧ ((∀ x43 : Int, (((x40 = 0) ∧ x43 = (-9)) ∨ ((¬ x40 = 0) ∧ x43 = 0)) → K (.inl (some (vI x43))) e M39))))))) ∧ ((M (p1 + 1) p2) = 30 → K (.inl (some (vI 0))) e M))) ∧ ((M (p1 + 1) p2) = 29 → ∃ b48 : Nat, ((M 931 4) = (b48 : Int)) ∧ (im_state e b48) ∧ im_T g (d - 1) 141 0 [some (.ref (b48 + 87)), some (vL (M (p1 + 2) p2)), none, some (vL (M (p1 + 3) p2)), none, some (.ref b5), none] [] e M (im_ri (fun x52 e_ M51 => e = e_ ∧ (im_i32 x52) ∧ ((∀ x55 : Int, (((x52 = 0) ∧ x55 = (-9)) ∨ ((¬ x52 = 0) ∧ x55 = 0)) → K (.inl (some (vI x55))) e M51))))))) : im_T g d 145 0 [some (.ref 931), some (.ref p1), some (vI p2), none, none, none, none, none, none, none] [] e M K := by
  refine im_ld (q := 1) (i := 1) D145_0 rfl rfl rfl ?_
  refine im_gfR (q := 4) (b := (p1 + 2)) D145_1 (im_fl cn_145 fl_2_267) hp1.1 rfl rfl tR_7_1 rfl ?_
  refine im_ld (q := 5) (i := 2) D145_4 rfl rfl rfl ?_
  obtain ⟨hg1, hP⟩ := hP
  refine im_rng (j := p2) hp1.2.2.1 hg1.1 hg1.2 (fun hr2 => ?_)
  refine im_lald (q := 6) D145_5 hp1.2.2.1 hg1.1 hg1.2 (Nat.le_trans hp1.2.2.2.2.2.2 (by decide)) rfl ?_
  refine im_st2 (q := 7) (i := 3) (L' := [some (.ref 931), some (.ref p1), some (vI p2), some (vL (M (p1 + 2) p2)), none, none, none, none, none, none]) D145_6 (Or.inl ⟨_, rfl, rfl⟩) (Nat.le_of_ble_eq_true rfl) rfl ?_
  refine im_ld (q := 8) (i := 1) D145_7 rfl rfl rfl ?_
  refine im_gfR (q := 11) (b := (p1 + 3)) D145_8 (im_fl cn_145 fl_2_268) hp1.1 rfl rfl tR_7_2 rfl ?_
  refine im_ld (q := 12) (i := 2) D145_11 rfl rfl rfl ?_
  refine im_rng (j := p2) hp1.2.2.2.1 hg1.1 hg1.2 (fun hr3 => ?_)
  refine im_lald (q := 13) D145_12 hp1.2.2.2.1 hg1.1 hg1.2 (Nat.le_trans hp1.2.2.2.2.2.2 (by decide)) rfl ?_
  refine im_st2 (q := 15) (i := 5) (L' := [some (.ref 931), some (.ref p1), some (vI p2), some (vL (M (p1 + 2) p2)), none, some (vL (M (p1 + 3) p2)), none, none, none, none]) D145_13 (Or.inr rfl) (Nat.le_of_ble_eq_true rfl) rfl ?_
  refine im_ld (q := 16) (i := 1) D145_15 rfl rfl rfl ?_
  refine im_gfR (q := 19) (b := (p1 + 4)) D145_16 (im_fl cn_145 fl_2_269) hp1.1 rfl rfl tR_7_3 rfl ?_
  refine im_ld (q := 20) (i := 2) D145_19 rfl rfl rfl ?_
  refine im_rng (j := p2) hp1.2.2.2.2.1 hg1.1 hg1.2 (fun hr4 => ?_)
  refine im_lald (q := 21) D145_20 hp1.2.2.2.2.1 hg1.1 hg1.2 (Nat.le_trans hp1.2.2.2.2.2.2 (by decide)) rfl ?_
  refine im_st2 (q := 23) (i := 7) (L' := [some (.ref 931), some (.ref p1), some (vI p2), some (vL (M (p1 + 2) p2)), none, some (vL (M (p1 + 3) p2)), none, some (vL (M (p1 + 4) p2)), none, none]) D145_21 (Or.inr rfl) (Nat.le_of_ble_eq_true rfl) rfl ?_
  refine im_ld (q := 24) (i := 1) D145_23 rfl rfl rfl ?_
  refine im_gfR (q := 27) (b := (p1 + 5)) D145_24 (im_fl cn_145 fl_2_260) hp1.1 rfl rfl tR_7_4 rfl ?_
  refine im_ld (q := 28) (i := 2) D145_27 rfl rfl rfl ?_
  obtain ⟨b5, hb6, hP⟩ := hP
  obtain ⟨hb7, hP⟩ := hP
  refine im_aald (q := 29) D145_28 hp1.2.2.2.2.2.1 (Or.inl rfl) hg1.1 hg1.2 (Nat.le_trans hp1.2.2.2.2.2.2 (by decide)) hb6 ?_
  refine im_stR (q := 31) (i := 9) (L' := [some (.ref 931), some (.ref p1), some (vI p2), some (vL (M (p1 + 2) p2)), none, some (vL (M (p1 + 3) p2)), none, some (vL (M (p1 + 4) p2)), none, some (.ref b5)]) D145_29 (Or.inr rfl) (Nat.le_of_ble_eq_true rfl) rfl ?_
  refine im_ld (q := 32) (i := 1) D145_31 rfl rfl rfl ?_
  refine im_gfR (q := 35) (b := (p1 + 1)) D145_32 (im_fl cn_145 fl_2_259) hp1.1 rfl rfl tR_7_0 rfl ?_
  refine im_ld (q := 36) (i := 2) D145_35 rfl rfl rfl ?_
  refine im_rng (j := p2) hp1.2.1 hg1.1 hg1.2 (fun hr8 => ?_)
  refine im_iald (q := 37) D145_36 hp1.2.1 hg1.1 hg1.2 (Nat.le_trans hp1.2.2.2.2.2.2 (by decide)) rfl ?_
  refine im_bipush (q := 39) D145_37 rfl ?_
  refine im_icmp (q := 42) (t := 67) D145_39 rfl hr8 (by decide) (fun hc9 => ?_) (fun hc9 => ?_)
  · replace hP := hP.1 hc9
    refine im_ld (q := 68) (i := 1) D145_67 rfl rfl rfl ?_
    refine im_gfR (q := 71) (b := (p1 + 1)) D145_68 (im_fl cn_145 fl_2_259) hp1.1 rfl rfl tR_7_0 rfl ?_
    refine im_ld (q := 72) (i := 2) D145_71 rfl rfl rfl ?_
    refine im_iald (q := 73) D145_72 hp1.2.1 hg1.1 hg1.2 (Nat.le_trans hp1.2.2.2.2.2.2 (by decide)) rfl ?_
    refine im_bipush (q := 75) D145_73 rfl ?_
    refine im_icmp (q := 78) (t := 80) D145_75 rfl hr8 (by decide) (fun hc11 => ?_) (fun hc11 => ?_)
    · replace hP := hP.1 hc11
      refine im_ld (q := 82) (i := 9) D145_80 rfl rfl rfl ?_
      refine im_rng (j := 0) hb7.1 (by decide) (show (0 : Int) < ((3 : Nat) : Int) by decide) (fun hr12 => ?_)
      refine im_gfI (q := 85) D145_82 (im_fl cn_145 fl_2_108) hb7.1 rfl rfl tI_3_0 rfl ?_
      refine im_ifc (q := 88) (t := 113) D145_85 rfl hr12 (fun hc13 => ?_) (fun hc13 => ?_)
      · replace hP := hP.1 hc13
        refine im_ld (q := 114) (i := 0) D145_113 rfl rfl rfl ?_
        refine im_rng (j := 6) sf_931 (by decide) (by decide) (fun hr14 => ?_)
        refine im_gfI (q := 117) D145_114 (im_fl cn_145 fl_2_59) sf_931 rfl rfl tI_2_6 rfl ?_
        refine im_ifc (q := 120) (t := 155) D145_117 rfl (im_z32 hr14) (fun hc15 => ?_) (fun hc15 => ?_)
        · replace hP := hP.1 hc15
          refine im_ld (q := 156) (i := 0) D145_155 rfl rfl rfl ?_
          obtain ⟨b16, hb17, hP⟩ := hP
          obtain ⟨hb18, hP⟩ := hP
          refine im_gfD (q := 159) D145_156 (im_fl cn_145 fl_2_31) sf_931 rfl rfl tR_2_4 rfl hb17 ?_
          refine im_gfR (q := 162) (b := (b16 + 1)) D145_159 (im_fl cn_145 fl_2_145) hb18.1 rfl rfl tR_9_0 rfl ?_
          refine im_ld (q := 163) (i := 3) D145_162 rfl rfl rfl ?_
          refine im_ld (q := 165) (i := 7) D145_163 rfl rfl rfl ?_
          refine im_ld (q := 167) (i := 9) D145_165 rfl rfl rfl ?_
          refine im_callV (q := 170) (kd := 1) (y := 99) (n := 3) (ci := 0) (a := (b16 + 1)) (vs := [.ref (b16 + 1), vL (M (p1 + 2) p2), vL (M (p1 + 4) p2), .ref b5]) (r := []) (L2 := [some (.ref (b16 + 1)), some (vL (M (p1 + 2) p2)), none, some (vL (M (p1 + 4) p2)), none, some (.ref b5), none]) D145_167 (im_cal cn_145 cl_2_248) (Or.inl rfl) rfl hb18.2.1.1 rfl rfl rfl rfl hd ⟨rfl, rfl, rfl, rfl, trivial⟩ ?_
          refine hP.mono ?_
          rintro _ e21 M19 ⟨x20, rfl, rfl, hP⟩
          refine im_bkS ?_
          exact im_iret (q := 171) D145_170 rfl hP
        · replace hP := hP.2 (Decidable.not_not.mp hc15)
          refine im_ld (q := 121) (i := 0) D145_120 rfl rfl rfl ?_
          refine im_gfR (q := 124) (b := 1207) D145_121 (im_fl cn_145 fl_2_42) sf_931 rfl rfl tR_2_7 rfl ?_
          refine im_ld (q := 126) (i := 5) D145_124 rfl rfl rfl ?_
          refine im_ld (q := 128) (i := 7) D145_126 rfl rfl rfl ?_
          refine im_callV (q := 131) (kd := 1) (y := 89) (n := 2) (ci := 0) (a := 1207) (vs := [.ref 1207, vL (M (p1 + 3) p2), vL (M (p1 + 4) p2)]) (r := []) (L2 := [some (.ref 1207), some (vL (M (p1 + 3) p2)), none, some (vL (M (p1 + 4) p2)), none, none]) D145_128 (im_cal cn_145 cl_2_71) (Or.inl rfl) rfl sf_1207 rfl rfl rfl rfl hd ⟨rfl, rfl, rfl, trivial⟩ ?_
          refine hP.mono ?_
          rintro _ e38 M22 ⟨a23, rfl, rfl, hP⟩
          refine im_bkS ?_
          obtain ⟨hb24, hP⟩ := hP
          refine im_ld (q := 133) (i := 9) D145_131 rfl rfl rfl ?_
          refine im_callV (q := 136) (kd := 1) (y := 68) (n := 1) (ci := 3) (a := a23) (vs := [.ref a23, .ref b5]) (r := []) (L2 := [some (.ref a23), some (.ref b5)]) D145_133 (im_cal cn_145 cl_2_127) (Or.inl rfl) rfl hb24.1 rfl rfl rfl rfl hd ⟨rfl, rfl, trivial⟩ ?_
          refine hP.mono ?_
          rintro _ e37 M25 ⟨x26, rfl, rfl, hP⟩
          refine im_bkS ?_
          obtain ⟨hg27, hP⟩ := hP
          refine im_ifc (q := 139) (t := 142) D145_136 rfl hg27 (fun hc28 => ?_) (fun hc28 => ?_)
          · replace hP := hP.1 hc28
            refine im_ld (q := 143) (i := 0) D145_142 rfl rfl rfl ?_
            refine im_gfR (q := 146) (b := 1207) D145_143 (im_fl cn_145 fl_2_42) sf_931 rfl rfl tR_2_7 rfl ?_
            refine im_ld (q := 148) (i := 5) D145_146 rfl rfl rfl ?_
            refine im_ld (q := 150) (i := 7) D145_148 rfl rfl rfl ?_
            refine im_ld (q := 152) (i := 9) D145_150 rfl rfl rfl ?_
            refine im_callV (q := 155) (kd := 1) (y := 119) (n := 3) (ci := 0) (a := 1207) (vs := [.ref 1207, vL (M (p1 + 3) p2), vL (M (p1 + 4) p2), .ref b5]) (r := []) (L2 := [some (.ref 1207), some (vL (M (p1 + 3) p2)), none, some (vL (M (p1 + 4) p2)), none, some (.ref b5), none]) D145_152 (im_cal cn_145 cl_2_244) (Or.inl rfl) rfl sf_1207 rfl rfl rfl rfl hd ⟨rfl, rfl, rfl, rfl, trivial⟩ ?_
            refine hP.mono ?_
            rintro _ e36 M29 ⟨rfl, rfl, hP⟩
            refine im_bkN ?_
            refine im_ld (q := 156) (i := 0) D145_155 rfl rfl rfl ?_
            obtain ⟨b30, hb31, hP⟩ := hP
            obtain ⟨hb32, hP⟩ := hP
            refine im_gfD (q := 159) D145_156 (im_fl cn_145 fl_2_31) sf_931 rfl rfl tR_2_4 rfl hb31 ?_
            refine im_gfR (q := 162) (b := (b30 + 1)) D145_159 (im_fl cn_145 fl_2_145) hb32.1 rfl rfl tR_9_0 rfl ?_
            refine im_ld (q := 163) (i := 3) D145_162 rfl rfl rfl ?_
            refine im_ld (q := 165) (i := 7) D145_163 rfl rfl rfl ?_
            refine im_ld (q := 167) (i := 9) D145_165 rfl rfl rfl ?_
            refine im_callV (q := 170) (kd := 1) (y := 99) (n := 3) (ci := 0) (a := (b30 + 1)) (vs := [.ref (b30 + 1), vL (M (p1 + 2) p2), vL (M (p1 + 4) p2), .ref b5]) (r := []) (L2 := [some (.ref (b30 + 1)), some (vL (M (p1 + 2) p2)), none, some (vL (M (p1 + 4) p2)), none, some (.ref b5), none]) D145_167 (im_cal cn_145 cl_2_248) (Or.inl rfl) rfl hb32.2.1.1 rfl rfl rfl rfl hd ⟨rfl, rfl, rfl, rfl, trivial⟩ ?_
            refine hP.mono ?_
            rintro _ e35 M33 ⟨x34, rfl, rfl, hP⟩
            refine im_bkS ?_
            exact im_iret (q := 171) D145_170 rfl hP
          · replace hP := hP.2 (Int.not_le.mp hc28)
            refine im_bipush (q := 141) D145_139 rfl ?_
            exact im_iret (q := 142) D145_141 rfl hP
      · replace hP := hP.2 (Int.not_lt.mp hc13)
        refine im_ld (q := 89) (i := 0) D145_88 rfl rfl rfl ?_
        refine im_gfR (q := 92) (b := 1459) D145_89 (im_fl cn_145 fl_2_52) sf_931 rfl rfl tR_2_9 rfl ?_
        refine im_iconst (q := 93) D145_92 ?_
        refine im_ld (q := 94) (i := 3) D145_93 rfl rfl rfl ?_
        refine im_ld (q := 96) (i := 5) D145_94 rfl rfl rfl ?_
        refine im_ld (q := 98) (i := 7) D145_96 rfl rfl rfl ?_
        refine im_ld (q := 100) (i := 9) D145_98 rfl rfl rfl ?_
        refine im_callV (q := 103) (kd := 1) (y := 118) (n := 5) (ci := 7) (a := 1459) (vs := [.ref 1459, vI 1, vL (M (p1 + 2) p2), vL (M (p1 + 3) p2), vL (M (p1 + 4) p2), .ref b5]) (r := []) (L2 := [some (.ref 1459), some (vI 1), some (vL (M (p1 + 2) p2)), none, some (vL (M (p1 + 3) p2)), none, some (vL (M (p1 + 4) p2)), none, some (.ref b5)]) D145_100 (im_cal cn_145 cl_2_234) (Or.inl rfl) rfl sf_1459 rfl rfl rfl rfl hd ⟨rfl, rfl, rfl, rfl, rfl, rfl, trivial⟩ ?_
        refine hP.mono ?_
        rintro _ e47 M39 ⟨x40, rfl, rfl, hP⟩
        refine im_bkS ?_
        obtain ⟨hg41, hP⟩ := hP
        have hJ44 := hP
        have kJ45 : ∀ x43 : Int, (((x40 = 0) ∧ x43 = (-9)) ∨ ((¬ x40 = 0) ∧ x43 = 0)) → im_T g d 145 112 [none, none, none, none, none, none, none, none, none, none] [vI x43] e M39 K := by
          intro x43 hx46
          have hP := hJ44 x43 hx46
          exact im_iret (q := 113) D145_112 rfl hP
        refine im_ifc (q := 106) (t := 110) D145_103 rfl hg41 (fun hc42 => ?_) (fun hc42 => ?_)
        · refine im_bipush (q := 112) D145_110 rfl ?_
          exact (kJ45 ((-9)) (Or.inl ⟨hc42, rfl⟩)).wk trivial
        · refine im_iconst (q := 107) D145_106 ?_
          refine im_goto (q := 110) (t := 112) D145_107 rfl ?_
          exact (kJ45 (0) (Or.inr ⟨hc42, rfl⟩)).wk trivial
    · replace hP := hP.2 (Decidable.not_not.mp hc11)
      refine im_iconst (q := 79) D145_78 ?_
      exact im_iret (q := 80) D145_79 rfl hP
  · replace hP := hP.2 (Decidable.not_not.mp hc9)
    refine im_ld (q := 43) (i := 0) D145_42 rfl rfl rfl ?_
    obtain ⟨b48, hb49, hP⟩ := hP
    obtain ⟨hb50, hP⟩ := hP
    refine im_gfD (q := 46) D145_43 (im_fl cn_145 fl_2_31) sf_931 rfl rfl tR_2_4 rfl hb49 ?_
    refine im_gfR (q := 49) (b := (b48 + 87)) D145_46 (im_fl cn_145 fl_2_148) hb50.1 rfl rfl tR_9_1 rfl ?_
    refine im_ld (q := 50) (i := 3) D145_49 rfl rfl rfl ?_
    refine im_ld (q := 52) (i := 5) D145_50 rfl rfl rfl ?_
    refine im_ld (q := 54) (i := 9) D145_52 rfl rfl rfl ?_
    refine im_callV (q := 57) (kd := 1) (y := 141) (n := 3) (ci := 0) (a := (b48 + 87)) (vs := [.ref (b48 + 87), vL (M (p1 + 2) p2), vL (M (p1 + 3) p2), .ref b5]) (r := []) (L2 := [some (.ref (b48 + 87)), some (vL (M (p1 + 2) p2)), none, some (vL (M (p1 + 3) p2)), none, some (.ref b5), none]) D145_54 (im_cal cn_145 cl_2_237) (Or.inl rfl) rfl hb50.2.2.1.1 rfl rfl rfl rfl hd ⟨rfl, rfl, rfl, rfl, trivial⟩ ?_
    refine hP.mono ?_
    rintro _ e59 M51 ⟨x52, rfl, rfl, hP⟩
    refine im_bkS ?_
    obtain ⟨hg53, hP⟩ := hP
    have hJ56 := hP
    have kJ57 : ∀ x55 : Int, (((x52 = 0) ∧ x55 = (-9)) ∨ ((¬ x52 = 0) ∧ x55 = 0)) → im_T g d 145 66 [none, none, none, none, none, none, none, none, none, none] [vI x55] e M51 K := by
      intro x55 hx58
      have hP := hJ56 x55 hx58
      exact im_iret (q := 67) D145_66 rfl hP
    refine im_ifc (q := 60) (t := 64) D145_57 rfl hg53 (fun hc54 => ?_) (fun hc54 => ?_)
    · refine im_bipush (q := 66) D145_64 rfl ?_
      exact (kJ57 ((-9)) (Or.inl ⟨hc54, rfl⟩)).wk trivial
    · refine im_iconst (q := 61) D145_60 ?_
      refine im_goto (q := 64) (t := 66) D145_61 rfl ?_
      exact (kJ57 (0) (Or.inr ⟨hc54, rfl⟩)).wk trivial
set_option maxRecDepth 20000 in
set_option maxHeartbeats 4000000 in
theorem k_Row_copy_0 {g : im_g} {d : Nat} {e : im_E} {M : im_M} {K : im_K} {a0 na0 : Nat} (ha0 : im_row e a0 na0) {p1 np1 : Nat} (hp1 : im_row e p1 np1) (hP : im_T g d 146 7 [some (.ref a0), some (.ref p1), some (vI 0)] [] e (im_u M a0 5 0) K) : im_T g d 146 0 [some (.ref a0), some (.ref p1), none] [] e M K := by
  refine im_ld (q := 1) (i := 0) D146_0 rfl rfl rfl ?_
  refine im_iconst (q := 2) D146_1 ?_
  refine im_pfI (q := 5) D146_2 (im_fl cn_146 fl_7_30) ha0.1 rfl rfl ti_7_5 (by decide) ?_
  refine im_iconst (q := 6) D146_5 ?_
  refine im_st1 (q := 7) (i := 2) (L' := [some (.ref a0), some (.ref p1), some (vI 0)]) D146_6 (Or.inl ⟨_, rfl, rfl⟩) (Nat.le_of_ble_eq_true rfl) rfl ?_
  exact hP.wk ⟨rfl, rfl, rfl, trivial⟩
set_option maxRecDepth 20000 in
set_option maxHeartbeats 4000000 in
theorem k_Row_copy_7 {g : im_g} {d : Nat} {e : im_E} {M : im_M} {K : im_K} {p2 : Int} {a0 na0 : Nat} (ha0 : im_row e a0 na0) {p1 np1 : Nat} (hp1 : im_row e p1 np1) (hd : 1 ≤ d) (hP : (im_i32 p2) ∧ (((M p1 5) ≤ p2 → K (.inl none) e M) ∧ (p2 < (M p1 5) → (0 ≤ p2 ∧ p2 < np1) ∧ ∃ b9 : Nat, ((M (p1 + 5) p2) = (b9 : Int)) ∧ (im_num e b9) ∧ im_T g (d - 1) 118 0 [some (.ref a0), some (vI (M (p1 + 1) p2)), some (vL (M (p1 + 2) p2)), none, some (vL (M (p1 + 3) p2)), none, some (vL (M (p1 + 4) p2)), none, some (.ref b9)] [] e M (im_ri (fun x13 e_ M12 => e = e_ ∧ im_T g d 146 7 [some (.ref a0), some (.ref p1), some (vI (p2 + 1))] [] e M12 K))))) : im_T g d 146 7 [some (.ref a0), some (.ref p1), some (vI p2)] [] e M K := by
  refine im_ld (q := 8) (i := 2) D146_7 rfl rfl rfl ?_
  refine im_ld (q := 9) (i := 1) D146_8 rfl rfl rfl ?_
  refine im_rng (j := 5) hp1.1 (by decide) (show (5 : Int) < ((6 : Nat) : Int) by decide) (fun hr1 => ?_)
  refine im_gfI (q := 12) D146_9 (im_fl cn_146 fl_7_30) hp1.1 rfl rfl tI_7_5 rfl ?_
  obtain ⟨hg2, hP⟩ := hP
  refine im_icmp (q := 15) (t := 56) D146_12 rfl hg2 hr1 (fun hc3 => ?_) (fun hc3 => ?_)
  · replace hP := hP.1 hc3
    exact im_vret (q := 57) D146_56 rfl hP
  · replace hP := hP.2 (Int.not_le.mp hc3)
    refine im_ld (q := 16) (i := 0) D146_15 rfl rfl rfl ?_
    refine im_ld (q := 17) (i := 1) D146_16 rfl rfl rfl ?_
    refine im_gfR (q := 20) (b := (p1 + 1)) D146_17 (im_fl cn_146 fl_7_7) hp1.1 rfl rfl tR_7_0 rfl ?_
    refine im_ld (q := 21) (i := 2) D146_20 rfl rfl rfl ?_
    obtain ⟨hg4, hP⟩ := hP
    refine im_rng (j := p2) hp1.2.1 hg4.1 hg4.2 (fun hr5 => ?_)
    refine im_iald (q := 22) D146_21 hp1.2.1 hg4.1 hg4.2 (Nat.le_trans hp1.2.2.2.2.2.2 (by decide)) rfl ?_
    refine im_ld (q := 23) (i := 1) D146_22 rfl rfl rfl ?_
    refine im_gfR (q := 26) (b := (p1 + 2)) D146_23 (im_fl cn_146 fl_7_13) hp1.1 rfl rfl tR_7_1 rfl ?_
    refine im_ld (q := 27) (i := 2) D146_26 rfl rfl rfl ?_
    refine im_rng (j := p2) hp1.2.2.1 hg4.1 hg4.2 (fun hr6 => ?_)
    refine im_lald (q := 28) D146_27 hp1.2.2.1 hg4.1 hg4.2 (Nat.le_trans hp1.2.2.2.2.2.2 (by decide)) rfl ?_
    refine im_ld (q := 29) (i := 1) D146_28 rfl rfl rfl ?_
    refine im_gfR (q := 32) (b := (p1 + 3)) D146_29 (im_fl cn_146 fl_7_17) hp1.1 rfl rfl tR_7_2 rfl ?_
    refine im_ld (q := 33) (i := 2) D146_32 rfl rfl rfl ?_
    refine im_rng (j := p2) hp1.2.2.2.1 hg4.1 hg4.2 (fun hr7 => ?_)
    refine im_lald (q := 34) D146_33 hp1.2.2.2.1 hg4.1 hg4.2 (Nat.le_trans hp1.2.2.2.2.2.2 (by decide)) rfl ?_
    refine im_ld (q := 35) (i := 1) D146_34 rfl rfl rfl ?_
    refine im_gfR (q := 38) (b := (p1 + 4)) D146_35 (im_fl cn_146 fl_7_20) hp1.1 rfl rfl tR_7_3 rfl ?_
    refine im_ld (q := 39) (i := 2) D146_38 rfl rfl rfl ?_
    refine im_rng (j := p2) hp1.2.2.2.2.1 hg4.1 hg4.2 (fun hr8 => ?_)
    refine im_lald (q := 40) D146_39 hp1.2.2.2.2.1 hg4.1 hg4.2 (Nat.le_trans hp1.2.2.2.2.2.2 (by decide)) rfl ?_
    refine im_ld (q := 41) (i := 1) D146_40 rfl rfl rfl ?_
    refine im_gfR (q := 44) (b := (p1 + 5)) D146_41 (im_fl cn_146 fl_7_25) hp1.1 rfl rfl tR_7_4 rfl ?_
    refine im_ld (q := 45) (i := 2) D146_44 rfl rfl rfl ?_
    obtain ⟨b9, hb10, hP⟩ := hP
    obtain ⟨hb11, hP⟩ := hP
    refine im_aald (q := 46) D146_45 hp1.2.2.2.2.2.1 (Or.inl rfl) hg4.1 hg4.2 (Nat.le_trans hp1.2.2.2.2.2.2 (by decide)) hb10 ?_
    refine im_callV (q := 49) (kd := 1) (y := 118) (n := 5) (ci := 7) (a := a0) (vs := [.ref a0, vI (M (p1 + 1) p2), vL (M (p1 + 2) p2), vL (M (p1 + 3) p2), vL (M (p1 + 4) p2), .ref b9]) (r := []) (L2 := [some (.ref a0), some (vI (M (p1 + 1) p2)), some (vL (M (p1 + 2) p2)), none, some (vL (M (p1 + 3) p2)), none, some (vL (M (p1 + 4) p2)), none, some (.ref b9)]) D146_46 (im_cal cn_146 cl_7_42) (Or.inl rfl) rfl ha0.1 rfl rfl rfl rfl hd ⟨rfl, rfl, rfl, rfl, rfl, rfl, trivial⟩ ?_
    refine hP.mono ?_
    rintro _ e14 M12 ⟨x13, rfl, rfl, hP⟩
    refine im_bkS ?_
    refine im_pop (q := 50) D146_49 rfl ?_
    refine im_iinc (q := 53) (i := 2) (L' := [some (.ref a0), some (.ref p1), some (vI (p2 + 1))]) D146_50 rfl (Nat.le_of_ble_eq_true rfl) rfl ?_
    refine im_goto (q := 56) (t := 7) D146_53 rfl ?_
    exact hP.wk ⟨rfl, rfl, rfl, trivial⟩
set_option maxRecDepth 20000 in
set_option maxHeartbeats 4000000 in
theorem k_P_parameterText_0 {g : im_g} {d : Nat} {e : im_E} {M : im_M} {K : im_K} {p1 p3 : Int} (hd : 1 ≤ d) (hP : im_T g (d - 1) 95 0 [some (.ref 2), some (vL p1), none, none, none, none] [] e M (im_ri (fun x2 e_ M1 => e = e_ ∧ (im_i32 x2) ∧ ((¬ x2 = 0 → im_T g (d - 1) 96 0 [some (.ref 2), some (.ref 1), some (vI p3)] [] e M1 (im_ri (fun x6 e_ M5 => e = e_ ∧ im_T g (d - 1) 76 0 [some (.ref 2), some (vI x6)] [] e M5 (im_ri (fun x8 e_ M7 => e = e_ ∧ (im_i32 x8) ∧ ((x8 = 0 → im_T g (d - 1) 88 0 [some (.ref 30), some (vL p1), none, some (vL 0), none, none] [] e M7 (im_ri (fun x12 e_ M11 => e = e_ ∧ (im_i32 x12) ∧ ((((x12 < 0 → ((20 ≤ (M11 30 4) → K (.inl (some (vI (-9)))) e M11))))) ∧ ((((0 ≤ x12)) ∨ ((x12 < 0) ∧ ((M11 30 4) < 20))) → im_T g (d - 1) 77 0 [some (.ref 0), some (vI 7), some (vL p1), none, some (vL 0), none, some (vL 0), none, some (vI p3)] [] e M11 (im_ri (fun x21 e_ M20 => e = e_ ∧ (im_i32 x21) ∧ ((x21 = 0 → im_T g (d - 1) 141 0 [some (.ref 30), some (vL p1), none, some (vL 0), none, some (.ref 5), none] [] e M20 (im_ri (fun x25 e_ M24 => e = e_ ∧ K (.inl (some (vI (M24 30 4)))) e M24))) ∧ (¬ x21 = 0 → K (.inl (some (vI x21))) e M20))))))))) ∧ (¬ x8 = 0 → K (.inl (some (vI (-1)))) e M7))))))) ∧ (x2 = 0 → K (.inl (some (vI (-102)))) e M1))))) : im_T g d 147 0 [some (.ref 0), some (vL p1), none, some (vI p3), none] [] e M K := by
  refine im_ld (q := 1) (i := 0) D147_0 rfl rfl rfl ?_
  refine im_gfR (q := 4) (b := 2) D147_1 (im_fl cn_147 fl_11_16) sf_0 rfl rfl tR_11_2 rfl ?_
  refine im_ld (q := 5) (i := 1) D147_4 rfl rfl rfl ?_
  refine im_callV (q := 8) (kd := 1) (y := 95) (n := 1) (ci := 6) (a := 2) (vs := [.ref 2, vL p1]) (r := []) (L2 := [some (.ref 2), some (vL p1), none, none, none, none]) D147_5 (im_cal cn_147 cl_11_299) (Or.inl rfl) rfl sf_2 rfl rfl rfl rfl hd ⟨rfl, rfl, trivial⟩ ?_
  refine hP.mono ?_
  rintro _ e32 M1 ⟨x2, rfl, rfl, hP⟩
  refine im_bkS ?_
  obtain ⟨hg3, hP⟩ := hP
  refine im_ifc (q := 11) (t := 14) D147_8 rfl hg3 (fun hc4 => ?_) (fun hc4 => ?_)
  · replace hP := hP.1 hc4
    refine im_ld (q := 15) (i := 0) D147_14 rfl rfl rfl ?_
    refine im_gfR (q := 18) (b := 2) D147_15 (im_fl cn_147 fl_11_16) sf_0 rfl rfl tR_11_2 rfl ?_
    refine im_ld (q := 19) (i := 0) D147_18 rfl rfl rfl ?_
    refine im_gfR (q := 22) (b := 2) D147_19 (im_fl cn_147 fl_11_16) sf_0 rfl rfl tR_11_2 rfl ?_
    refine im_ld (q := 23) (i := 0) D147_22 rfl rfl rfl ?_
    refine im_gfR (q := 26) (b := 1) D147_23 (im_fl cn_147 fl_11_9) sf_0 rfl rfl tR_11_0 rfl ?_
    refine im_ld (q := 27) (i := 3) D147_26 rfl rfl rfl ?_
    refine im_callV (q := 30) (kd := 1) (y := 96) (n := 2) (ci := 6) (a := 2) (vs := [.ref 2, .ref 1, vI p3]) (r := [.ref 2]) (L2 := [some (.ref 2), some (.ref 1), some (vI p3)]) D147_27 (im_cal cn_147 cl_11_303) (Or.inl rfl) rfl sf_2 rfl rfl rfl rfl hd ⟨rfl, rfl, rfl, trivial⟩ ?_
    refine hP.mono ?_
    rintro _ e31 M5 ⟨x6, rfl, rfl, hP⟩
    refine im_bkS ?_
    refine im_callV (q := 33) (kd := 1) (y := 76) (n := 1) (ci := 6) (a := 2) (vs := [.ref 2, vI x6]) (r := []) (L2 := [some (.ref 2), some (vI x6)]) D147_30 (im_cal cn_147 cl_11_220) (Or.inl rfl) rfl sf_2 rfl rfl rfl rfl hd ⟨rfl, rfl, trivial⟩ ?_
    refine hP.mono ?_
    rintro _ e30 M7 ⟨x8, rfl, rfl, hP⟩
    refine im_bkS ?_
    obtain ⟨hg9, hP⟩ := hP
    refine im_ifc (q := 36) (t := 38) D147_33 rfl hg9 (fun hc10 => ?_) (fun hc10 => ?_)
    · replace hP := hP.1 hc10
      refine im_ld (q := 39) (i := 0) D147_38 rfl rfl rfl ?_
      refine im_gfR (q := 42) (b := 30) D147_39 (im_fl cn_147 fl_11_64) sf_0 rfl rfl tR_11_8 rfl ?_
      refine im_ld (q := 43) (i := 1) D147_42 rfl rfl rfl ?_
      refine im_lconst (q := 44) (z := 0) D147_43 rfl ?_
      refine im_callV (q := 47) (kd := 1) (y := 88) (n := 2) (ci := 0) (a := 30) (vs := [.ref 30, vL p1, vL 0]) (r := []) (L2 := [some (.ref 30), some (vL p1), none, some (vL 0), none, none]) D147_44 (im_cal cn_147 cl_11_306) (Or.inl rfl) rfl sf_30 rfl rfl rfl rfl hd ⟨rfl, rfl, rfl, trivial⟩ ?_
      refine hP.mono ?_
      rintro _ e29 M11 ⟨x12, rfl, rfl, hP⟩
      refine im_bkS ?_
      obtain ⟨hg13, hP⟩ := hP
      obtain ⟨hP, hJ17⟩ := hP
      have kJ18 : (((0 ≤ x12)) ∨ ((x12 < 0) ∧ ((M11 30 4) < 20))) → im_T g d 147 65 [some (.ref 0), some (vL p1), none, some (vI p3), none] [] e M11 K := by
        intro  hx19
        have hP := hJ17  hx19
        refine im_ld (q := 66) (i := 0) D147_65 rfl rfl rfl ?_
        refine im_bipush (q := 68) D147_66 rfl ?_
        refine im_ld (q := 69) (i := 1) D147_68 rfl rfl rfl ?_
        refine im_lconst (q := 70) (z := 0) D147_69 rfl ?_
        refine im_lconst (q := 71) (z := 0) D147_70 rfl ?_
        refine im_ld (q := 72) (i := 3) D147_71 rfl rfl rfl ?_
        refine im_callV (q := 75) (kd := 1) (y := 77) (n := 5) (ci := 11) (a := 0) (vs := [.ref 0, vI 7, vL p1, vL 0, vL 0, vI p3]) (r := []) (L2 := [some (.ref 0), some (vI 7), some (vL p1), none, some (vL 0), none, some (vL 0), none, some (vI p3)]) D147_72 (im_cal cn_147 cl_11_228) (Or.inl rfl) rfl sf_0 rfl rfl rfl rfl hd ⟨rfl, rfl, rfl, rfl, rfl, rfl, trivial⟩ ?_
        refine hP.mono ?_
        rintro _ e28 M20 ⟨x21, rfl, rfl, hP⟩
        refine im_bkS ?_
        refine im_st1 (q := 77) (i := 4) (L' := [some (.ref 0), some (vL p1), none, some (vI p3), some (vI x21)]) D147_75 (Or.inr rfl) (Nat.le_of_ble_eq_true rfl) rfl ?_
        refine im_ld (q := 79) (i := 4) D147_77 rfl rfl rfl ?_
        obtain ⟨hg22, hP⟩ := hP
        refine im_ifc (q := 82) (t := 85) D147_79 rfl hg22 (fun hc23 => ?_) (fun hc23 => ?_)
        · replace hP := hP.1 hc23
          refine im_ld (q := 86) (i := 0) D147_85 rfl rfl rfl ?_
          refine im_gfR (q := 89) (b := 30) D147_86 (im_fl cn_147 fl_11_64) sf_0 rfl rfl tR_11_8 rfl ?_
          refine im_ld (q := 90) (i := 1) D147_89 rfl rfl rfl ?_
          refine im_lconst (q := 91) (z := 0) D147_90 rfl ?_
          refine im_ld (q := 92) (i := 0) D147_91 rfl rfl rfl ?_
          refine im_gfR (q := 95) (b := 2) D147_92 (im_fl cn_147 fl_11_16) sf_0 rfl rfl tR_11_2 rfl ?_
          refine im_gfR (q := 98) (b := 5) D147_95 (im_fl cn_147 fl_11_310) sf_2 rfl rfl tR_6_7 rfl ?_
          refine im_callV (q := 101) (kd := 1) (y := 141) (n := 3) (ci := 0) (a := 30) (vs := [.ref 30, vL p1, vL 0, .ref 5]) (r := []) (L2 := [some (.ref 30), some (vL p1), none, some (vL 0), none, some (.ref 5), none]) D147_98 (im_cal cn_147 cl_11_313) (Or.inl rfl) rfl sf_30 rfl rfl rfl rfl hd ⟨rfl, rfl, rfl, rfl, trivial⟩ ?_
          refine hP.mono ?_
          rintro _ e27 M24 ⟨x25, rfl, rfl, hP⟩
          refine im_bkS ?_
          refine im_pop (q := 102) D147_101 rfl ?_
          refine im_ld (q := 103) (i := 0) D147_102 rfl rfl rfl ?_
          refine im_gfR (q := 106) (b := 30) D147_103 (im_fl cn_147 fl_11_64) sf_0 rfl rfl tR_11_8 rfl ?_
          refine im_rng (j := 4) sf_30 (by decide) (by decide) (fun hr26 => ?_)
          refine im_gfI (q := 109) D147_106 (im_fl cn_147 fl_11_271) sf_30 rfl rfl tI_0_4 rfl ?_
          exact im_iret (q := 110) D147_109 rfl hP
        · replace hP := hP.2 hc23
          refine im_ld (q := 84) (i := 4) D147_82 rfl rfl rfl ?_
          exact im_iret (q := 85) D147_84 rfl hP
      refine im_ifc (q := 50) (t := 65) D147_47 rfl hg13 (fun hc14 => ?_) (fun hc14 => ?_)
      · exact (kJ18  (Or.inl hc14)).wk ⟨rfl, rfl, rfl, trivial⟩
      · replace hP := hP (Int.not_le.mp hc14)
        refine im_ld (q := 51) (i := 0) D147_50 rfl rfl rfl ?_
        refine im_gfR (q := 54) (b := 30) D147_51 (im_fl cn_147 fl_11_64) sf_0 rfl rfl tR_11_8 rfl ?_
        refine im_rng (j := 4) sf_30 (by decide) (by decide) (fun hr15 => ?_)
        refine im_gfI (q := 57) D147_54 (im_fl cn_147 fl_11_271) sf_30 rfl rfl tI_0_4 rfl ?_
        refine im_bipush (q := 59) D147_57 rfl ?_
        refine im_icmp (q := 62) (t := 65) D147_59 rfl hr15 (by decide) (fun hc16 => ?_) (fun hc16 => ?_)
        · exact (kJ18  (Or.inr ⟨(Int.not_le.mp hc14), hc16⟩)).wk ⟨rfl, rfl, rfl, trivial⟩
        · replace hP := hP (Int.not_lt.mp hc16)
          refine im_bipush (q := 64) D147_62 rfl ?_
          exact im_iret (q := 65) D147_64 rfl hP
    · replace hP := hP.2 hc10
      refine im_iconst (q := 37) D147_36 ?_
      exact im_iret (q := 38) D147_37 rfl hP
  · replace hP := hP.2 (Decidable.not_not.mp hc4)
    refine im_bipush (q := 13) D147_11 rfl ?_
    exact im_iret (q := 14) D147_13 rfl hP
set_option maxRecDepth 20000 in
set_option maxHeartbeats 4000000 in
theorem k_P_forgetParameters_0 {g : im_g} {d : Nat} {e : im_E} {M : im_M} {K : im_K} (hd : 1 ≤ d) (hP : im_T g (d - 1) 77 0 [some (.ref 0), some (vI 8), some (vL 0), none, some (vL 0), none, some (vL 0), none, some (vI 0)] [] e M (im_ri (fun x2 e_ M1 => e = e_ ∧ (im_i32 x2) ∧ ((x2 = 0 → K (.inl (some (vI (M1 30 4)))) e (im_u M1 30 4 0)) ∧ (¬ x2 = 0 → K (.inl (some (vI x2))) e M1))))) : im_T g d 148 0 [some (.ref 0), none, none] [] e M K := by
  refine im_ld (q := 1) (i := 0) D148_0 rfl rfl rfl ?_
  refine im_bipush (q := 3) D148_1 rfl ?_
  refine im_lconst (q := 4) (z := 0) D148_3 rfl ?_
  refine im_lconst (q := 5) (z := 0) D148_4 rfl ?_
  refine im_lconst (q := 6) (z := 0) D148_5 rfl ?_
  refine im_iconst (q := 7) D148_6 ?_
  refine im_callV (q := 10) (kd := 1) (y := 77) (n := 5) (ci := 11) (a := 0) (vs := [.ref 0, vI 8, vL 0, vL 0, vL 0, vI 0]) (r := []) (L2 := [some (.ref 0), some (vI 8), some (vL 0), none, some (vL 0), none, some (vL 0), none, some (vI 0)]) D148_7 (im_cal cn_148 cl_11_228) (Or.inl rfl) rfl sf_0 rfl rfl rfl rfl hd ⟨rfl, rfl, rfl, rfl, rfl, rfl, trivial⟩ ?_
  refine hP.mono ?_
  rintro _ e6 M1 ⟨x2, rfl, rfl, hP⟩
  refine im_bkS ?_
  refine im_st1 (q := 11) (i := 1) (L' := [some (.ref 0), some (vI x2), none]) D148_10 (Or.inl ⟨_, rfl, rfl⟩) (Nat.le_of_ble_eq_true rfl) rfl ?_
  refine im_ld (q := 12) (i := 1) D148_11 rfl rfl rfl ?_
  obtain ⟨hg3, hP⟩ := hP
  refine im_ifc (q := 15) (t := 17) D148_12 rfl hg3 (fun hc4 => ?_) (fun hc4 => ?_)
  · replace hP := hP.1 hc4
    refine im_ld (q := 18) (i := 0) D148_17 rfl rfl rfl ?_
    refine im_gfR (q := 21) (b := 30) D148_18 (im_fl cn_148 fl_11_64) sf_0 rfl rfl tR_11_8 rfl ?_
    refine im_rng (j := 4) sf_30 (by decide) (by decide) (fun hr5 => ?_)
    refine im_gfI (q := 24) D148_21 (im_fl cn_148 fl_11_271) sf_30 rfl rfl tI_0_4 rfl ?_
    refine im_st1 (q := 25) (i := 2) (L' := [some (.ref 0), some (vI x2), some (vI (M1 30 4))]) D148_24 (Or.inl ⟨_, rfl, rfl⟩) (Nat.le_of_ble_eq_true rfl) rfl ?_
    refine im_ld (q := 26) (i := 0) D148_25 rfl rfl rfl ?_
    refine im_gfR (q := 29) (b := 30) D148_26 (im_fl cn_148 fl_11_64) sf_0 rfl rfl tR_11_8 rfl ?_
    refine im_iconst (q := 30) D148_29 ?_
    refine im_pfI (q := 33) D148_30 (im_fl cn_148 fl_11_271) sf_30 rfl rfl ti_0_4 (by decide) ?_
    refine im_ld (q := 34) (i := 2) D148_33 rfl rfl rfl ?_
    exact im_iret (q := 35) D148_34 rfl hP
  · replace hP := hP.2 hc4
    refine im_ld (q := 16) (i := 1) D148_15 rfl rfl rfl ?_
    exact im_iret (q := 17) D148_16 rfl hP
set_option maxRecDepth 20000 in
set_option maxHeartbeats 4000000 in
theorem k_Reader_forgetFault_0 {g : im_g} {d : Nat} {e : im_E} {M : im_M} {K : im_K} (hP : K (.inl none) e (im_u (im_u M 2 8 (-1)) 2 9 (-1))) : im_T g d 149 0 [some (.ref 2)] [] e M K := by
  refine im_ld (q := 1) (i := 0) D149_0 rfl rfl rfl ?_
  refine im_iconst (q := 2) D149_1 ?_
  refine im_pfI (q := 5) D149_2 (im_fl cn_149 fl_6_26) sf_2 rfl rfl ti_6_8 (by decide) ?_
  refine im_ld (q := 6) (i := 0) D149_5 rfl rfl rfl ?_
  refine im_iconst (q := 7) D149_6 ?_
  refine im_pfI (q := 10) D149_7 (im_fl cn_149 fl_6_30) sf_2 rfl rfl ti_6_9 (by decide) ?_
  exact im_vret (q := 11) D149_10 rfl hP
set_option maxRecDepth 20000 in
set_option maxHeartbeats 4000000 in
theorem k_P_feed_0 {g : im_g} {d : Nat} {e : im_E} {M : im_M} {K : im_K} {p1 p2 p3 p4 p5 : Int} (hd : 1 ≤ d) (hP : im_T g (d - 1) 152 0 [some (.ref 0)] [] e M (im_rx (im_r0 (fun  e_ M1 => e = e_ ∧ (im_i32 ((M1 0 1) + 20)) ∧ ((((M1 0 1) + 20) ≤ 16384 → im_T g (d - 1) 153 0 [some (.ref 0), some (vI p1), none] [] e M1 (im_r0 (fun  e_ M5 => e = e_ ∧ im_T g (d - 1) 153 0 [some (.ref 0), some (vI p2), none] [] e M5 (im_r0 (fun  e_ M6 => e = e_ ∧ im_T g (d - 1) 153 0 [some (.ref 0), some (vI p3), none] [] e M6 (im_r0 (fun  e_ M7 => e = e_ ∧ im_T g (d - 1) 153 0 [some (.ref 0), some (vI p4), none] [] e M7 (im_r0 (fun  e_ M8 => e = e_ ∧ im_T g (d - 1) 153 0 [some (.ref 0), some (vI p5), none] [] e M8 (im_r0 (fun  e_ M9 => e = e_ ∧ K (.inl (some (vI (M9 0 1)))) e M9))))))))))) ∧ (16384 < ((M1 0 1) + 20) → K (.inr "java/lang/IllegalArgumentException") (e ++ [im_ex]) M1)))) (fun E_ e_ M_ => K (.inr E_) e_ M_))) : im_T g d 151 0 [some (.ref 0), some (vI p1), some (vI p2), some (vI p3), some (vI p4), some (vI p5)] [] e M K := by
  refine im_ld (q := 1) (i := 0) D151_0 rfl rfl rfl ?_
  refine im_callV (q := 4) (kd := 1) (y := 152) (n := 0) (ci := 11) (a := 0) (vs := [.ref 0]) (r := []) (L2 := [some (.ref 0)]) D151_1 (im_cal cn_151 cl_11_124) (Or.inl rfl) rfl sf_0 rfl rfl rfl rfl hd ⟨rfl, trivial⟩ ?_
  refine hP.mono ?_
  rintro _ e16 M1 (⟨rfl, rfl, hP⟩ | ⟨E_, rfl, hX⟩)
  · refine im_bkN ?_
    refine im_ld (q := 5) (i := 0) D151_4 rfl rfl rfl ?_
    refine im_rng (j := 1) sf_0 (by decide) (by decide) (fun hr2 => ?_)
    refine im_gfI (q := 8) D151_5 (im_fl cn_151 fl_11_127) sf_0 rfl rfl tI_11_1 rfl ?_
    refine im_bipush (q := 10) D151_8 rfl ?_
    refine im_iadd (q := 11) D151_10 ?_
    refine im_sipush (q := 14) D151_11 rfl ?_
    obtain ⟨hg3, hP⟩ := hP
    refine im_icmp (q := 17) (t := 27) D151_14 rfl hg3 (by decide) (fun hc4 => ?_) (fun hc4 => ?_)
    · replace hP := hP.1 hc4
      refine im_ld (q := 28) (i := 0) D151_27 rfl rfl rfl ?_
      refine im_ld (q := 29) (i := 1) D151_28 rfl rfl rfl ?_
      refine im_callV (q := 32) (kd := 1) (y := 153) (n := 1) (ci := 11) (a := 0) (vs := [.ref 0, vI p1]) (r := []) (L2 := [some (.ref 0), some (vI p1), none]) D151_29 (im_cal cn_151 cl_11_138) (Or.inl rfl) rfl sf_0 rfl rfl rfl rfl hd ⟨rfl, rfl, trivial⟩ ?_
      refine hP.mono ?_
      rintro _ e15 M5 ⟨rfl, rfl, hP⟩
      refine im_bkN ?_
      refine im_ld (q := 33) (i := 0) D151_32 rfl rfl rfl ?_
      refine im_ld (q := 34) (i := 2) D151_33 rfl rfl rfl ?_
      refine im_callV (q := 37) (kd := 1) (y := 153) (n := 1) (ci := 11) (a := 0) (vs := [.ref 0, vI p2]) (r := []) (L2 := [some (.ref 0), some (vI p2), none]) D151_34 (im_cal cn_151 cl_11_138) (Or.inl rfl) rfl sf_0 rfl rfl rfl rfl hd ⟨rfl, rfl, trivial⟩ ?_
      refine hP.mono ?_
      rintro _ e14 M6 ⟨rfl, rfl, hP⟩
      refine im_bkN ?_
      refine im_ld (q := 38) (i := 0) D151_37 rfl rfl rfl ?_
      refine im_ld (q := 39) (i := 3) D151_38 rfl rfl rfl ?_
      refine im_callV (q := 42) (kd := 1) (y := 153) (n := 1) (ci := 11) (a := 0) (vs := [.ref 0, vI p3]) (r := []) (L2 := [some (.ref 0), some (vI p3), none]) D151_39 (im_cal cn_151 cl_11_138) (Or.inl rfl) rfl sf_0 rfl rfl rfl rfl hd ⟨rfl, rfl, trivial⟩ ?_
      refine hP.mono ?_
      rintro _ e13 M7 ⟨rfl, rfl, hP⟩
      refine im_bkN ?_
      refine im_ld (q := 43) (i := 0) D151_42 rfl rfl rfl ?_
      refine im_ld (q := 45) (i := 4) D151_43 rfl rfl rfl ?_
      refine im_callV (q := 48) (kd := 1) (y := 153) (n := 1) (ci := 11) (a := 0) (vs := [.ref 0, vI p4]) (r := []) (L2 := [some (.ref 0), some (vI p4), none]) D151_45 (im_cal cn_151 cl_11_138) (Or.inl rfl) rfl sf_0 rfl rfl rfl rfl hd ⟨rfl, rfl, trivial⟩ ?_
      refine hP.mono ?_
      rintro _ e12 M8 ⟨rfl, rfl, hP⟩
      refine im_bkN ?_
      refine im_ld (q := 49) (i := 0) D151_48 rfl rfl rfl ?_
      refine im_ld (q := 51) (i := 5) D151_49 rfl rfl rfl ?_
      refine im_callV (q := 54) (kd := 1) (y := 153) (n := 1) (ci := 11) (a := 0) (vs := [.ref 0, vI p5]) (r := []) (L2 := [some (.ref 0), some (vI p5), none]) D151_51 (im_cal cn_151 cl_11_138) (Or.inl rfl) rfl sf_0 rfl rfl rfl rfl hd ⟨rfl, rfl, trivial⟩ ?_
      refine hP.mono ?_
      rintro _ e11 M9 ⟨rfl, rfl, hP⟩
      refine im_bkN ?_
      refine im_ld (q := 55) (i := 0) D151_54 rfl rfl rfl ?_
      refine im_rng (j := 1) sf_0 (by decide) (by decide) (fun hr10 => ?_)
      refine im_gfI (q := 58) D151_55 (im_fl cn_151 fl_11_127) sf_0 rfl rfl tI_11_1 rfl ?_
      exact im_iret (q := 59) D151_58 rfl hP
    · replace hP := hP.2 (Int.not_le.mp hc4)
      exact im_thw rfl rfl rfl rfl hP
  · exact im_bkE rfl hX
set_option maxRecDepth 20000 in
set_option maxHeartbeats 4000000 in
theorem k_P_needPower_0 {g : im_g} {d : Nat} {e : im_E} {M : im_M} {K : im_K} (hP : (((M 2068 4) = 0 → K (.inl none) e M) ∧ (¬ (M 2068 4) = 0 → K (.inr "java/lang/IllegalStateException") (e ++ [im_ex]) M))) : im_T g d 152 0 [some (.ref 0)] [] e M K := by
  refine im_ld (q := 1) (i := 0) D152_0 rfl rfl rfl ?_
  refine im_gfR (q := 4) (b := 2068) D152_1 (im_fl cn_152 fl_11_113) sf_0 rfl rfl tR_11_17 rfl ?_
  refine im_rng (j := 4) sf_2068 (by decide) (by decide) (fun hr1 => ?_)
  refine im_gfI (q := 7) D152_4 (im_fl cn_152 fl_11_411) sf_2068 rfl rfl tI_1_4 rfl ?_
  refine im_ifc (q := 10) (t := 21) D152_7 rfl (im_z32 hr1) (fun hc2 => ?_) (fun hc2 => ?_)
  · replace hP := hP.1 hc2
    exact im_vret (q := 22) D152_21 rfl hP
  · replace hP := hP.2 hc2
    exact im_thw rfl rfl rfl rfl hP
set_option maxRecDepth 20000 in
set_option maxHeartbeats 4000000 in
theorem k_P_layWord_0 {g : im_g} {d : Nat} {e : im_E} {M : im_M} {K : im_K} {p1 : Int} (hP : im_T g d 153 3 [some (.ref 0), some (vI p1), some (vI 24)] [] e M K) : im_T g d 153 0 [some (.ref 0), some (vI p1), none] [] e M K := by
  refine im_bipush (q := 2) D153_0 rfl ?_
  refine im_st1 (q := 3) (i := 2) (L' := [some (.ref 0), some (vI p1), some (vI 24)]) D153_2 (Or.inl ⟨_, rfl, rfl⟩) (Nat.le_of_ble_eq_true rfl) rfl ?_
  exact hP.wk ⟨rfl, rfl, rfl, trivial⟩
set_option maxRecDepth 20000 in
set_option maxHeartbeats 4000000 in
theorem k_P_layWord_3 {g : im_g} {d : Nat} {e : im_E} {M : im_M} {K : im_K} {p1 p2 : Int} (hP : (im_i32 p2) ∧ ((((0 ≤ p2 → (((M 0 1) < 16384 → (0 ≤ (M 0 1) ∧ (M 0 1) < 16384) ∧ (im_i32 ((M 0 1) + 1)) ∧ im_T g d 153 3 [some (.ref 0), some (vI p1), some (vI (p2 + (-8)))] [] e (im_u (im_u M 1 (M 0 1) (((xiushr p1 p2).bmod 256).bmod 256)) 0 1 ((M 0 1) + 1)) K))))) ∧ ((((p2 < 0)) ∨ ((0 ≤ p2) ∧ (16384 ≤ (M 0 1)))) → K (.inl none) e M))) : im_T g d 153 3 [some (.ref 0), some (vI p1), some (vI p2)] [] e M K := by
  refine im_ld (q := 4) (i := 2) D153_3 rfl rfl rfl ?_
  obtain ⟨hg1, hP⟩ := hP
  obtain ⟨hP, hJ6⟩ := hP
  have kJ7 : (((p2 < 0)) ∨ ((0 ≤ p2) ∧ (16384 ≤ (M 0 1)))) → im_T g d 153 46 [none, none, none] [] e M K := by
    intro  hx8
    have hP := hJ6  hx8
    exact im_vret (q := 47) D153_46 rfl hP
  refine im_ifc (q := 7) (t := 46) D153_4 rfl hg1 (fun hc2 => ?_) (fun hc2 => ?_)
  · exact (kJ7  (Or.inl hc2)).wk trivial
  · replace hP := hP (Int.not_lt.mp hc2)
    refine im_ld (q := 8) (i := 0) D153_7 rfl rfl rfl ?_
    refine im_rng (j := 1) sf_0 (by decide) (by decide) (fun hr3 => ?_)
    refine im_gfI (q := 11) D153_8 (im_fl cn_153 fl_11_127) sf_0 rfl rfl tI_11_1 rfl ?_
    refine im_sipush (q := 14) D153_11 rfl ?_
    refine im_icmp (q := 17) (t := 46) D153_14 rfl hr3 (by decide) (fun hc4 => ?_) (fun hc4 => ?_)
    · exact (kJ7  (Or.inr ⟨(Int.not_lt.mp hc2), hc4⟩)).wk trivial
    · replace hP := hP (Int.not_le.mp hc4)
      refine im_ld (q := 18) (i := 0) D153_17 rfl rfl rfl ?_
      refine im_gfR (q := 21) (b := 1) D153_18 (im_fl cn_153 fl_11_9) sf_0 rfl rfl tR_11_0 rfl ?_
      refine im_ld (q := 22) (i := 0) D153_21 rfl rfl rfl ?_
      refine im_gfI (q := 25) D153_22 (im_fl cn_153 fl_11_127) sf_0 rfl rfl tI_11_1 rfl ?_
      refine im_ld (q := 26) (i := 1) D153_25 rfl rfl rfl ?_
      refine im_ld (q := 27) (i := 2) D153_26 rfl rfl rfl ?_
      refine im_iushr (q := 28) D153_27 ?_
      refine im_i2b (q := 29) D153_28 ?_
      obtain ⟨hg9, hP⟩ := hP
      refine im_bast (q := 30) D153_29 sf_1 hg9.1 hg9.2 (by decide) ?_
      refine im_ld (q := 31) (i := 0) D153_30 rfl rfl rfl ?_
      refine im_dup (q := 32) D153_31 rfl ?_
      refine im_gfI (q := 35) D153_32 (im_fl cn_153 fl_11_127) sf_0 rfl rfl tI_11_1 (im_rdn _ _ _ _ (by decide)) ?_
      refine im_iconst (q := 36) D153_35 ?_
      refine im_iadd (q := 37) D153_36 ?_
      obtain ⟨hg11, hP⟩ := hP
      refine im_pfI (q := 40) D153_37 (im_fl cn_153 fl_11_127) sf_0 rfl rfl ti_11_1 hg11 ?_
      refine im_iinc (q := 43) (i := 2) (L' := [some (.ref 0), some (vI p1), some (vI (p2 + (-8)))]) D153_40 rfl (Nat.le_of_ble_eq_true rfl) rfl ?_
      refine im_goto (q := 46) (t := 3) D153_43 rfl ?_
      exact hP.wk ⟨rfl, rfl, rfl, trivial⟩
set_option maxRecDepth 20000 in
set_option maxHeartbeats 4000000 in
theorem k_P_trim_0 {g : im_g} {d : Nat} {e : im_E} {M : im_M} {K : im_K} {p1 : Int} (hd : 1 ≤ d) (hP : im_T g (d - 1) 152 0 [some (.ref 0)] [] e M (im_rx (im_r0 (fun  e_ M1 => e = e_ ∧ (im_i32 p1) ∧ ((0 ≤ p1 → K (.inl (some (vI (min (M1 0 1) p1)))) e (im_u M1 0 1 (min (M1 0 1) p1))) ∧ (p1 < 0 → K (.inr "java/lang/IllegalArgumentException") (e ++ [im_ex]) M1)))) (fun E_ e_ M_ => K (.inr E_) e_ M_))) : im_T g d 155 0 [some (.ref 0), some (vI p1)] [] e M K := by
  refine im_ld (q := 1) (i := 0) D155_0 rfl rfl rfl ?_
  refine im_callV (q := 4) (kd := 1) (y := 152) (n := 0) (ci := 11) (a := 0) (vs := [.ref 0]) (r := []) (L2 := [some (.ref 0)]) D155_1 (im_cal cn_155 cl_11_124) (Or.inl rfl) rfl sf_0 rfl rfl rfl rfl hd ⟨rfl, trivial⟩ ?_
  refine hP.mono ?_
  rintro _ e6 M1 (⟨rfl, rfl, hP⟩ | ⟨E_, rfl, hX⟩)
  · refine im_bkN ?_
    refine im_ld (q := 5) (i := 1) D155_4 rfl rfl rfl ?_
    obtain ⟨hg2, hP⟩ := hP
    refine im_ifc (q := 8) (t := 18) D155_5 rfl hg2 (fun hc3 => ?_) (fun hc3 => ?_)
    · replace hP := hP.1 hc3
      refine im_ld (q := 19) (i := 0) D155_18 rfl rfl rfl ?_
      refine im_ld (q := 20) (i := 0) D155_19 rfl rfl rfl ?_
      refine im_rng (j := 1) sf_0 (by decide) (by decide) (fun hr4 => ?_)
      refine im_gfI (q := 23) D155_20 (im_fl cn_155 fl_11_127) sf_0 rfl rfl tI_11_1 rfl ?_
      refine im_ld (q := 24) (i := 1) D155_23 rfl rfl rfl ?_
      refine im_imin (q := 27) D155_24 rfl hr4 hg2 rfl ?_
      refine im_pfI (q := 30) D155_27 (im_fl cn_155 fl_11_127) sf_0 rfl rfl ti_11_1 (im_minr hr4 hg2) ?_
      refine im_ld (q := 31) (i := 0) D155_30 rfl rfl rfl ?_
      refine im_gfI (q := 34) D155_31 (im_fl cn_155 fl_11_127) sf_0 rfl rfl tI_11_1 (im_rds _ _ _ _) ?_
      exact im_iret (q := 35) D155_34 rfl hP
    · replace hP := hP.2 (Int.not_le.mp hc3)
      exact im_thw rfl rfl rfl rfl hP
  · exact im_bkE rfl hX
set_option maxRecDepth 20000 in
set_option maxHeartbeats 4000000 in
theorem k_P_size_0 {g : im_g} {d : Nat} {e : im_E} {M : im_M} {K : im_K} (hd : 1 ≤ d) (hP : im_T g (d - 1) 152 0 [some (.ref 0)] [] e M (im_rx (im_r0 (fun  e_ M1 => e = e_ ∧ K (.inl (some (vI (M1 7 1)))) e M1)) (fun E_ e_ M_ => K (.inr E_) e_ M_))) : im_T g d 157 0 [some (.ref 0)] [] e M K := by
  refine im_ld (q := 1) (i := 0) D157_0 rfl rfl rfl ?_
  refine im_callV (q := 4) (kd := 1) (y := 152) (n := 0) (ci := 11) (a := 0) (vs := [.ref 0]) (r := []) (L2 := [some (.ref 0)]) D157_1 (im_cal cn_157 cl_11_124) (Or.inl rfl) rfl sf_0 rfl rfl rfl rfl hd ⟨rfl, trivial⟩ ?_
  refine hP.mono ?_
  rintro _ e3 M1 (⟨rfl, rfl, hP⟩ | ⟨E_, rfl, hX⟩)
  · refine im_bkN ?_
    refine im_ld (q := 5) (i := 0) D157_4 rfl rfl rfl ?_
    refine im_gfR (q := 8) (b := 7) D157_5 (im_fl cn_157 fl_11_29) sf_0 rfl rfl tR_11_3 rfl ?_
    refine im_rng (j := 1) sf_7 (by decide) (by decide) (fun hr2 => ?_)
    refine im_gfI (q := 11) D157_8 (im_fl cn_157 fl_11_149) sf_7 rfl rfl tI_10_1 rfl ?_
    exact im_iret (q := 12) D157_11 rfl hP
  · exact im_bkE rfl hX
set_option maxRecDepth 20000 in
set_option maxHeartbeats 4000000 in
theorem k_P_word_0 {g : im_g} {d : Nat} {e : im_E} {M : im_M} {K : im_K} {p1 : Int} (hd : 1 ≤ d) (hP : im_T g (d - 1) 152 0 [some (.ref 0)] [] e M (im_rx (im_r0 (fun  e_ M1 => e = e_ ∧ (im_i32 p1) ∧ ((((0 ≤ p1 → ((p1 < 2048 → im_T g d 159 25 [some (.ref 0), some (vI p1), some (vL 0), none, some (vI (8 * p1))] [] e M1 K))))) ∧ ((((p1 < 0)) ∨ ((0 ≤ p1) ∧ (2048 ≤ p1))) → K (.inl (some (vL 0))) e M1)))) (fun E_ e_ M_ => K (.inr E_) e_ M_))) : im_T g d 159 0 [some (.ref 0), some (vI p1), none, none, none] [] e M K := by
  refine im_ld (q := 1) (i := 0) D159_0 rfl rfl rfl ?_
  refine im_callV (q := 4) (kd := 1) (y := 152) (n := 0) (ci := 11) (a := 0) (vs := [.ref 0]) (r := []) (L2 := [some (.ref 0)]) D159_1 (im_cal cn_159 cl_11_124) (Or.inl rfl) rfl sf_0 rfl rfl rfl rfl hd ⟨rfl, trivial⟩ ?_
  refine hP.mono ?_
  rintro _ e8 M1 (⟨rfl, rfl, hP⟩ | ⟨E_, rfl, hX⟩)
  · refine im_bkN ?_
    refine im_lconst (q := 5) (z := 0) D159_4 rfl ?_
    refine im_st2 (q := 6) (i := 2) (L' := [some (.ref 0), some (vI p1), some (vL 0), none, none]) D159_5 (Or.inl ⟨_, rfl, rfl⟩) (Nat.le_of_ble_eq_true rfl) rfl ?_
    refine im_ld (q := 7) (i := 1) D159_6 rfl rfl rfl ?_
    obtain ⟨hg2, hP⟩ := hP
    obtain ⟨hP, hJ5⟩ := hP
    have kJ6 : (((p1 < 0)) ∨ ((0 ≤ p1) ∧ (2048 ≤ p1))) → im_T g d 159 17 [none, none, some (vL 0), none, none] [] e M1 K := by
      intro  hx7
      have hP := hJ5  hx7
      refine im_ld (q := 18) (i := 2) D159_17 rfl rfl rfl ?_
      exact im_lret (q := 19) D159_18 rfl hP
    refine im_ifc (q := 10) (t := 17) D159_7 rfl hg2 (fun hc3 => ?_) (fun hc3 => ?_)
    · exact (kJ6  (Or.inl hc3)).wk ⟨rfl, trivial⟩
    · replace hP := hP (Int.not_lt.mp hc3)
      refine im_ld (q := 11) (i := 1) D159_10 rfl rfl rfl ?_
      refine im_sipush (q := 14) D159_11 rfl ?_
      refine im_icmp (q := 17) (t := 19) D159_14 rfl hg2 (by decide) (fun hc4 => ?_) (fun hc4 => ?_)
      · replace hP := hP hc4
        refine im_bipush (q := 21) D159_19 rfl ?_
        refine im_ld (q := 22) (i := 1) D159_21 rfl rfl rfl ?_
        refine im_imul (q := 23) D159_22 ?_
        refine im_st1 (q := 25) (i := 4) (L' := [some (.ref 0), some (vI p1), some (vL 0), none, some (vI (8 * p1))]) D159_23 (Or.inr rfl) (Nat.le_of_ble_eq_true rfl) rfl ?_
        exact hP.wk ⟨rfl, rfl, rfl, rfl, trivial⟩
      · exact (kJ6  (Or.inr ⟨(Int.not_lt.mp hc3), (Int.not_lt.mp hc4)⟩)).wk ⟨rfl, trivial⟩
  · exact im_bkE rfl hX
set_option maxRecDepth 20000 in
set_option maxHeartbeats 4000000 in
theorem k_P_word_25 {g : im_g} {d : Nat} {e : im_E} {M : im_M} {K : im_K} {p1 p2 p4 : Int} (hP : (im_i32 p4) ∧ (im_i32 ((8 * p1) + 8)) ∧ ((((((8 * p1) + 8) ≤ p4 → K (.inl (some (vL p2))) e M) ∧ (p4 < ((8 * p1) + 8) → ((p4 < (M 7 1) → (0 ≤ p4 ∧ p4 < 16384)))))) ∧ (∀ x8 : Int, (((p4 < ((8 * p1) + 8)) ∧ ((M 7 1) ≤ p4) ∧ x8 = 0) ∨ ((p4 < ((8 * p1) + 8)) ∧ (p4 < (M 7 1)) ∧ x8 = (xiand (M 8 p4) 255))) → (im_i32 x8) ∧ im_T g d 159 25 [some (.ref 0), some (vI p1), some (vL (xlor (xlshl p2 8) x8)), none, some (vI (p4 + 1))] [] e M K))) : im_T g d 159 25 [some (.ref 0), some (vI p1), some (vL p2), none, some (vI p4)] [] e M K := by
  refine im_ld (q := 27) (i := 4) D159_25 rfl rfl rfl ?_
  refine im_bipush (q := 29) D159_27 rfl ?_
  refine im_ld (q := 30) (i := 1) D159_29 rfl rfl rfl ?_
  refine im_imul (q := 31) D159_30 ?_
  refine im_bipush (q := 33) D159_31 rfl ?_
  refine im_iadd (q := 34) D159_33 ?_
  obtain ⟨hg1, hP⟩ := hP
  obtain ⟨hg2, hP⟩ := hP
  obtain ⟨hP, hJ9⟩ := hP
  have kJ10 : ∀ x8 : Int, (((p4 < ((8 * p1) + 8)) ∧ ((M 7 1) ≤ p4) ∧ x8 = 0) ∨ ((p4 < ((8 * p1) + 8)) ∧ (p4 < (M 7 1)) ∧ x8 = (xiand (M 8 p4) 255))) → im_T g d 159 71 [some (.ref 0), some (vI p1), none, none, some (vI p4)] [vI x8, vL (xlshl p2 8)] e M K := by
    intro x8 hx11
    have hP := hJ9 x8 hx11
    obtain ⟨hg12, hP⟩ := hP
    refine im_i2l (q := 72) D159_71 hg12 ?_
    refine im_lor (q := 73) D159_72 ?_
    refine im_st2 (q := 74) (i := 2) (L' := [some (.ref 0), some (vI p1), some (vL (xlor (xlshl p2 8) x8)), none, some (vI p4)]) D159_73 (Or.inl ⟨_, rfl, rfl⟩) (Nat.le_of_ble_eq_true rfl) rfl ?_
    refine im_iinc (q := 77) (i := 4) (L' := [some (.ref 0), some (vI p1), some (vL (xlor (xlshl p2 8) x8)), none, some (vI (p4 + 1))]) D159_74 rfl (Nat.le_of_ble_eq_true rfl) rfl ?_
    refine im_goto (q := 80) (t := 25) D159_77 rfl ?_
    exact hP.wk ⟨rfl, rfl, rfl, rfl, trivial⟩
  refine im_icmp (q := 37) (t := 80) D159_34 rfl hg1 hg2 (fun hc3 => ?_) (fun hc3 => ?_)
  · replace hP := hP.1 hc3
    refine im_ld (q := 81) (i := 2) D159_80 rfl rfl rfl ?_
    exact im_lret (q := 82) D159_81 rfl hP
  · replace hP := hP.2 (Int.not_le.mp hc3)
    refine im_ld (q := 38) (i := 2) D159_37 rfl rfl rfl ?_
    refine im_bipush (q := 40) D159_38 rfl ?_
    refine im_lshl (q := 41) D159_40 ?_
    refine im_ld (q := 43) (i := 4) D159_41 rfl rfl rfl ?_
    refine im_ld (q := 44) (i := 0) D159_43 rfl rfl rfl ?_
    refine im_gfR (q := 47) (b := 7) D159_44 (im_fl cn_159 fl_11_29) sf_0 rfl rfl tR_11_3 rfl ?_
    refine im_rng (j := 1) sf_7 (by decide) (by decide) (fun hr4 => ?_)
    refine im_gfI (q := 50) D159_47 (im_fl cn_159 fl_11_149) sf_7 rfl rfl tI_10_1 rfl ?_
    refine im_icmp (q := 53) (t := 70) D159_50 rfl hg1 hr4 (fun hc5 => ?_) (fun hc5 => ?_)
    · refine im_iconst (q := 71) D159_70 ?_
      exact (kJ10 (0) (Or.inl ⟨(Int.not_le.mp hc3), hc5, rfl⟩)).wk ⟨rfl, rfl, rfl, trivial⟩
    · replace hP := hP (Int.not_le.mp hc5)
      refine im_ld (q := 54) (i := 0) D159_53 rfl rfl rfl ?_
      refine im_gfR (q := 57) (b := 7) D159_54 (im_fl cn_159 fl_11_29) sf_0 rfl rfl tR_11_3 rfl ?_
      refine im_gfR (q := 60) (b := 8) D159_57 (im_fl cn_159 fl_11_152) sf_7 rfl rfl tR_10_0 rfl ?_
      refine im_ld (q := 62) (i := 4) D159_60 rfl rfl rfl ?_
      have hg6 := hP
      refine im_rng (j := p4) sf_8 hg6.1 hg6.2 (fun hr7 => ?_)
      refine im_bald (q := 63) D159_62 sf_8 (Or.inl rfl) hg6.1 hg6.2 (by decide) rfl ?_
      refine im_sipush (q := 66) D159_63 rfl ?_
      refine im_iand (q := 67) D159_66 ?_
      refine im_goto (q := 70) (t := 71) D159_67 rfl ?_
      exact (kJ10 ((xiand (M 8 p4) 255)) (Or.inr ⟨(Int.not_le.mp hc3), (Int.not_le.mp hc5), rfl⟩)).wk ⟨rfl, rfl, rfl, trivial⟩
set_option maxRecDepth 20000 in
set_option maxHeartbeats 4000000 in
theorem k_P_show_0 {g : im_g} {d : Nat} {e : im_E} {M : im_M} {K : im_K} (hd : 1 ≤ d) (hP : im_T g (d - 1) 152 0 [some (.ref 0)] [] e M (im_rx (im_r0 (fun  e_ M1 => e = e_ ∧ im_T g (d - 1) 22 0 [some (.ref 7)] [] e M1 (im_r0 (fun  e_ M2 => e = e_ ∧ im_T g d 161 13 [some (.ref 0), some (vI 0)] [] e M2 K)))) (fun E_ e_ M_ => K (.inr E_) e_ M_))) : im_T g d 161 0 [some (.ref 0), none] [] e M K := by
  refine im_ld (q := 1) (i := 0) D161_0 rfl rfl rfl ?_
  refine im_callV (q := 4) (kd := 1) (y := 152) (n := 0) (ci := 11) (a := 0) (vs := [.ref 0]) (r := []) (L2 := [some (.ref 0)]) D161_1 (im_cal cn_161 cl_11_124) (Or.inl rfl) rfl sf_0 rfl rfl rfl rfl hd ⟨rfl, trivial⟩ ?_
  refine hP.mono ?_
  rintro _ e4 M1 (⟨rfl, rfl, hP⟩ | ⟨E_, rfl, hX⟩)
  · refine im_bkN ?_
    refine im_ld (q := 5) (i := 0) D161_4 rfl rfl rfl ?_
    refine im_gfR (q := 8) (b := 7) D161_5 (im_fl cn_161 fl_11_29) sf_0 rfl rfl tR_11_3 rfl ?_
    refine im_callV (q := 11) (kd := 1) (y := 22) (n := 0) (ci := 10) (a := 7) (vs := [.ref 7]) (r := []) (L2 := [some (.ref 7)]) D161_8 (im_cal cn_161 cl_11_155) (Or.inl rfl) rfl sf_7 rfl rfl rfl rfl hd ⟨rfl, trivial⟩ ?_
    refine hP.mono ?_
    rintro _ e3 M2 ⟨rfl, rfl, hP⟩
    refine im_bkN ?_
    refine im_iconst (q := 12) D161_11 ?_
    refine im_st1 (q := 13) (i := 1) (L' := [some (.ref 0), some (vI 0)]) D161_12 (Or.inl ⟨_, rfl, rfl⟩) (Nat.le_of_ble_eq_true rfl) rfl ?_
    exact hP.wk ⟨rfl, rfl, trivial⟩
  · exact im_bkE rfl hX
set_option maxRecDepth 20000 in
set_option maxHeartbeats 4000000 in
theorem k_P_show_13 {g : im_g} {d : Nat} {e : im_E} {M : im_M} {K : im_K} {p1 : Int} (hd : 1 ≤ d) (hP : (im_i32 p1) ∧ (((M 0 1) ≤ p1 → K (.inl (some (vI (M 7 1)))) e M) ∧ (p1 < (M 0 1) → (0 ≤ p1 ∧ p1 < 16384) ∧ im_T g (d - 1) 162 0 [some (.ref 7), some (vI (M 1 p1))] [] e M (im_r0 (fun  e_ M7 => e = e_ ∧ im_T g d 161 13 [some (.ref 0), some (vI (p1 + 1))] [] e M7 K))))) : im_T g d 161 13 [some (.ref 0), some (vI p1)] [] e M K := by
  refine im_ld (q := 14) (i := 1) D161_13 rfl rfl rfl ?_
  refine im_ld (q := 15) (i := 0) D161_14 rfl rfl rfl ?_
  refine im_rng (j := 1) sf_0 (by decide) (by decide) (fun hr1 => ?_)
  refine im_gfI (q := 18) D161_15 (im_fl cn_161 fl_11_127) sf_0 rfl rfl tI_11_1 rfl ?_
  obtain ⟨hg2, hP⟩ := hP
  refine im_icmp (q := 21) (t := 40) D161_18 rfl hg2 hr1 (fun hc3 => ?_) (fun hc3 => ?_)
  · replace hP := hP.1 hc3
    refine im_ld (q := 41) (i := 0) D161_40 rfl rfl rfl ?_
    refine im_gfR (q := 44) (b := 7) D161_41 (im_fl cn_161 fl_11_29) sf_0 rfl rfl tR_11_3 rfl ?_
    refine im_rng (j := 1) sf_7 (by decide) (by decide) (fun hr4 => ?_)
    refine im_gfI (q := 47) D161_44 (im_fl cn_161 fl_11_149) sf_7 rfl rfl tI_10_1 rfl ?_
    exact im_iret (q := 48) D161_47 rfl hP
  · replace hP := hP.2 (Int.not_le.mp hc3)
    refine im_ld (q := 22) (i := 0) D161_21 rfl rfl rfl ?_
    refine im_gfR (q := 25) (b := 7) D161_22 (im_fl cn_161 fl_11_29) sf_0 rfl rfl tR_11_3 rfl ?_
    refine im_ld (q := 26) (i := 0) D161_25 rfl rfl rfl ?_
    refine im_gfR (q := 29) (b := 1) D161_26 (im_fl cn_161 fl_11_9) sf_0 rfl rfl tR_11_0 rfl ?_
    refine im_ld (q := 30) (i := 1) D161_29 rfl rfl rfl ?_
    obtain ⟨hg5, hP⟩ := hP
    refine im_rng (j := p1) sf_1 hg5.1 hg5.2 (fun hr6 => ?_)
    refine im_bald (q := 31) D161_30 sf_1 (Or.inl rfl) hg5.1 hg5.2 (by decide) rfl ?_
    refine im_callV (q := 34) (kd := 1) (y := 162) (n := 1) (ci := 10) (a := 7) (vs := [.ref 7, vI (M 1 p1)]) (r := []) (L2 := [some (.ref 7), some (vI (M 1 p1))]) D161_31 (im_cal cn_161 cl_11_158) (Or.inl rfl) rfl sf_7 rfl rfl rfl rfl hd ⟨rfl, rfl, trivial⟩ ?_
    refine hP.mono ?_
    rintro _ e8 M7 ⟨rfl, rfl, hP⟩
    refine im_bkN ?_
    refine im_iinc (q := 37) (i := 1) (L' := [some (.ref 0), some (vI (p1 + 1))]) D161_34 rfl (Nat.le_of_ble_eq_true rfl) rfl ?_
    refine im_goto (q := 40) (t := 13) D161_37 rfl ?_
    exact hP.wk ⟨rfl, rfl, trivial⟩
set_option maxRecDepth 20000 in
set_option maxHeartbeats 4000000 in
theorem k_Writer_put_0 {g : im_g} {d : Nat} {e : im_E} {M : im_M} {K : im_K} {p1 : Int} (hP : ((16384 ≤ (M 7 1) → K (.inl none) e M) ∧ ((M 7 1) < 16384 → (0 ≤ (M 7 1) ∧ (M 7 1) < 16384) ∧ (im_i32 ((M 7 1) + 1)) ∧ K (.inl none) e (im_u (im_u M 8 (M 7 1) ((p1.bmod 256).bmod 256)) 7 1 ((M 7 1) + 1))))) : im_T g d 162 0 [some (.ref 7), some (vI p1)] [] e M K := by
  refine im_ld (q := 1) (i := 0) D162_0 rfl rfl rfl ?_
  refine im_rng (j := 1) sf_7 (by decide) (by decide) (fun hr1 => ?_)
  refine im_gfI (q := 4) D162_1 (im_fl cn_162 fl_10_33) sf_7 rfl rfl tI_10_1 rfl ?_
  refine im_sipush (q := 7) D162_4 rfl ?_
  refine im_icmp (q := 10) (t := 31) D162_7 rfl hr1 (by decide) (fun hc2 => ?_) (fun hc2 => ?_)
  · replace hP := hP.1 hc2
    exact im_vret (q := 32) D162_31 rfl hP
  · replace hP := hP.2 (Int.not_le.mp hc2)
    refine im_ld (q := 11) (i := 0) D162_10 rfl rfl rfl ?_
    refine im_gfR (q := 14) (b := 8) D162_11 (im_fl cn_162 fl_10_9) sf_7 rfl rfl tR_10_0 rfl ?_
    refine im_ld (q := 15) (i := 0) D162_14 rfl rfl rfl ?_
    refine im_gfI (q := 18) D162_15 (im_fl cn_162 fl_10_33) sf_7 rfl rfl tI_10_1 rfl ?_
    refine im_ld (q := 19) (i := 1) D162_18 rfl rfl rfl ?_
    refine im_i2b (q := 20) D162_19 ?_
    obtain ⟨hg4, hP⟩ := hP
    refine im_bast (q := 21) D162_20 sf_8 hg4.1 hg4.2 (by decide) ?_
    refine im_ld (q := 22) (i := 0) D162_21 rfl rfl rfl ?_
    refine im_dup (q := 23) D162_22 rfl ?_
    refine im_gfI (q := 26) D162_23 (im_fl cn_162 fl_10_33) sf_7 rfl rfl tI_10_1 (im_rdn _ _ _ _ (by decide)) ?_
    refine im_iconst (q := 27) D162_26 ?_
    refine im_iadd (q := 28) D162_27 ?_
    obtain ⟨hg6, hP⟩ := hP
    refine im_pfI (q := 31) D162_28 (im_fl cn_162 fl_10_33) sf_7 rfl rfl ti_10_1 hg6 ?_
    exact im_vret (q := 32) D162_31 rfl hP
set_option maxRecDepth 20000 in
set_option maxHeartbeats 4000000 in
theorem k_P_keep_0 {g : im_g} {d : Nat} {e : im_E} {M : im_M} {K : im_K} {p1 : Int} (hd : 1 ≤ d) (hP : (im_i32 p1) ∧ im_T g (d - 1) 165 0 [some (.ref 0), none] [] e M (im_rx (im_ri (fun x3 e_ M2 => e = e_ ∧ im_T g (d - 1) 36 0 [some (.ref 0), some (vL p1), none, some (vI x3), none] [] e M2 (im_ri (fun x5 e_ M4 => e = e_ ∧ im_T g (d - 1) 166 0 [some (.ref 0), some (vI x5)] [] e M4 (im_rx (im_ri (fun x7 e_ M6 => e = e_ ∧ K (.inl (some (vI x7))) e M6)) (fun E_ e_ M_ => K (.inr E_) e_ M_)))))) (fun E_ e_ M_ => K (.inr E_) e_ M_))) : im_T g d 164 0 [some (.ref 0), some (vI p1)] [] e M K := by
  refine im_ld (q := 1) (i := 0) D164_0 rfl rfl rfl ?_
  refine im_ld (q := 2) (i := 0) D164_1 rfl rfl rfl ?_
  refine im_ld (q := 3) (i := 1) D164_2 rfl rfl rfl ?_
  obtain ⟨hg1, hP⟩ := hP
  refine im_i2l (q := 4) D164_3 hg1 ?_
  refine im_ld (q := 5) (i := 0) D164_4 rfl rfl rfl ?_
  refine im_callV (q := 8) (kd := 1) (y := 165) (n := 0) (ci := 11) (a := 0) (vs := [.ref 0]) (r := [vL p1, .ref 0, .ref 0]) (L2 := [some (.ref 0), none]) D164_5 (im_cal cn_164 cl_11_161) (Or.inl rfl) rfl sf_0 rfl rfl rfl rfl hd ⟨rfl, trivial⟩ ?_
  refine hP.mono ?_
  rintro _ e10 M2 (⟨x3, rfl, rfl, hP⟩ | ⟨E_, rfl, hX⟩)
  · refine im_bkS ?_
    refine im_callV (q := 11) (kd := 1) (y := 36) (n := 2) (ci := 11) (a := 0) (vs := [.ref 0, vL p1, vI x3]) (r := [.ref 0]) (L2 := [some (.ref 0), some (vL p1), none, some (vI x3), none]) D164_8 (im_cal cn_164 cl_11_165) (Or.inl rfl) rfl sf_0 rfl rfl rfl rfl hd ⟨rfl, rfl, rfl, trivial⟩ ?_
    refine hP.mono ?_
    rintro _ e9 M4 ⟨x5, rfl, rfl, hP⟩
    refine im_bkS ?_
    refine im_callV (q := 14) (kd := 1) (y := 166) (n := 1) (ci := 11) (a := 0) (vs := [.ref 0, vI x5]) (r := []) (L2 := [some (.ref 0), some (vI x5)]) D164_11 (im_cal cn_164 cl_11_169) (Or.inl rfl) rfl sf_0 rfl rfl rfl rfl hd ⟨rfl, rfl, trivial⟩ ?_
    refine hP.mono ?_
    rintro _ e8 M6 (⟨x7, rfl, rfl, hP⟩ | ⟨E_, rfl, hX⟩)
    · refine im_bkS ?_
      exact im_iret (q := 15) D164_14 rfl hP
    · exact im_bkE rfl hX
  · exact im_bkE rfl hX
set_option maxRecDepth 20000 in
set_option maxHeartbeats 4000000 in
theorem k_P_takeTape_0 {g : im_g} {d : Nat} {e : im_E} {M : im_M} {K : im_K} (hd : 1 ≤ d) (hP : im_T g (d - 1) 152 0 [some (.ref 0)] [] e M (im_rx (im_r0 (fun  e_ M1 => e = e_ ∧ K (.inl (some (vI (M1 0 1)))) e (im_u M1 0 1 0))) (fun E_ e_ M_ => K (.inr E_) e_ M_))) : im_T g d 165 0 [some (.ref 0), none] [] e M K := by
  refine im_ld (q := 1) (i := 0) D165_0 rfl rfl rfl ?_
  refine im_callV (q := 4) (kd := 1) (y := 152) (n := 0) (ci := 11) (a := 0) (vs := [.ref 0]) (r := []) (L2 := [some (.ref 0)]) D165_1 (im_cal cn_165 cl_11_124) (Or.inl rfl) rfl sf_0 rfl rfl rfl rfl hd ⟨rfl, trivial⟩ ?_
  refine hP.mono ?_
  rintro _ e3 M1 (⟨rfl, rfl, hP⟩ | ⟨E_, rfl, hX⟩)
  · refine im_bkN ?_
    refine im_ld (q := 5) (i := 0) D165_4 rfl rfl rfl ?_
    refine im_rng (j := 1) sf_0 (by decide) (by decide) (fun hr2 => ?_)
    refine im_gfI (q := 8) D165_5 (im_fl cn_165 fl_11_127) sf_0 rfl rfl tI_11_1 rfl ?_
    refine im_st1 (q := 9) (i := 1) (L' := [some (.ref 0), some (vI (M1 0 1))]) D165_8 (Or.inl ⟨_, rfl, rfl⟩) (Nat.le_of_ble_eq_true rfl) rfl ?_
    refine im_ld (q := 10) (i := 0) D165_9 rfl rfl rfl ?_
    refine im_iconst (q := 11) D165_10 ?_
    refine im_pfI (q := 14) D165_11 (im_fl cn_165 fl_11_127) sf_0 rfl rfl ti_11_1 (by decide) ?_
    refine im_ld (q := 15) (i := 1) D165_14 rfl rfl rfl ?_
    exact im_iret (q := 16) D165_15 rfl hP
  · exact im_bkE rfl hX
set_option maxRecDepth 20000 in
set_option maxHeartbeats 4000000 in
theorem k_P_answer_0 {g : im_g} {d : Nat} {e : im_E} {M : im_M} {K : im_K} {p1 : Int} (hd : 1 ≤ d) (hP : (im_i32 p1) ∧ ((∀ x3 : Int, (((p1 = (-103)) ∧ x3 = 0) ∨ ((¬ p1 = (-103)) ∧ x3 = 1)) → im_T g (d - 1) 167 0 [some (vI x3)] [] e M (im_rx (im_r0 (fun  e_ M7 => e = e_ ∧ ((∀ x9 : Int, (((p1 = (-102)) ∧ x9 = 0) ∨ ((¬ p1 = (-102)) ∧ x9 = 1)) → im_T g (d - 1) 168 0 [some (vI x9)] [] e M7 (im_rx (im_r0 (fun  e_ M13 => e = e_ ∧ ((∀ x15 : Int, (((¬ p1 = (-101)) ∧ x15 = 0) ∨ ((p1 = (-101)) ∧ x15 = (-1))) → im_T g (d - 1) 169 0 [some (vI x15), some (vI 1)] [] e M13 (im_rx (im_r0 (fun  e_ M19 => e = e_ ∧ K (.inl (some (vI p1))) e M19)) (fun E_ e_ M_ => K (.inr E_) e_ M_)))))) (fun E_ e_ M_ => K (.inr E_) e_ M_)))))) (fun E_ e_ M_ => K (.inr E_) e_ M_))))) : im_T g d 166 0 [some (.ref 0), some (vI p1)] [] e M K := by
  refine im_ld (q := 1) (i := 1) D166_0 rfl rfl rfl ?_
  refine im_bipush (q := 3) D166_1 rfl ?_
  obtain ⟨hg1, hP⟩ := hP
  have hJ4 := hP
  have kJ5 : ∀ x3 : Int, (((p1 = (-103)) ∧ x3 = 0) ∨ ((¬ p1 = (-103)) ∧ x3 = 1)) → im_T g d 166 11 [none, some (vI p1)] [vI x3] e M K := by
    intro x3 hx6
    have hP := hJ4 x3 hx6
    refine im_callS (q := 14) (kd := 0) (y := 167) (n := 1) (z := 11) (vs := [vI x3]) (r := []) (L2 := [some (vI x3)]) D166_11 rfl (im_cal cn_166 cl_11_187) (Or.inl rfl) rfl rfl rfl rfl rfl hd ⟨rfl, trivial⟩ ?_
    refine hP.mono ?_
    rintro _ e22 M7 (⟨rfl, rfl, hP⟩ | ⟨E_, rfl, hX⟩)
    · refine im_bkN ?_
      refine im_ld (q := 15) (i := 1) D166_14 rfl rfl rfl ?_
      refine im_bipush (q := 17) D166_15 rfl ?_
      have hJ10 := hP
      have kJ11 : ∀ x9 : Int, (((p1 = (-102)) ∧ x9 = 0) ∨ ((¬ p1 = (-102)) ∧ x9 = 1)) → im_T g d 166 25 [none, some (vI p1)] [vI x9] e M7 K := by
        intro x9 hx12
        have hP := hJ10 x9 hx12
        refine im_callS (q := 28) (kd := 0) (y := 168) (n := 1) (z := 11) (vs := [vI x9]) (r := []) (L2 := [some (vI x9)]) D166_25 rfl (im_cal cn_166 cl_11_195) (Or.inl rfl) rfl rfl rfl rfl rfl hd ⟨rfl, trivial⟩ ?_
        refine hP.mono ?_
        rintro _ e21 M13 (⟨rfl, rfl, hP⟩ | ⟨E_, rfl, hX⟩)
        · refine im_bkN ?_
          refine im_ld (q := 29) (i := 1) D166_28 rfl rfl rfl ?_
          refine im_bipush (q := 31) D166_29 rfl ?_
          have hJ16 := hP
          have kJ17 : ∀ x15 : Int, (((¬ p1 = (-101)) ∧ x15 = 0) ∨ ((p1 = (-101)) ∧ x15 = (-1))) → im_T g d 166 39 [none, some (vI p1)] [vI x15] e M13 K := by
            intro x15 hx18
            have hP := hJ16 x15 hx18
            refine im_iconst (q := 40) D166_39 ?_
            refine im_callS (q := 43) (kd := 0) (y := 169) (n := 2) (z := 11) (vs := [vI x15, vI 1]) (r := []) (L2 := [some (vI x15), some (vI 1)]) D166_40 rfl (im_cal cn_166 cl_11_183) (Or.inl rfl) rfl rfl rfl rfl rfl hd ⟨rfl, rfl, trivial⟩ ?_
            refine hP.mono ?_
            rintro _ e20 M19 (⟨rfl, rfl, hP⟩ | ⟨E_, rfl, hX⟩)
            · refine im_bkN ?_
              refine im_ld (q := 44) (i := 1) D166_43 rfl rfl rfl ?_
              exact im_iret (q := 45) D166_44 rfl hP
            · exact im_bkE rfl hX
          refine im_icmp (q := 34) (t := 38) D166_31 rfl hg1 (by decide) (fun hc14 => ?_) (fun hc14 => ?_)
          · refine im_iconst (q := 39) D166_38 ?_
            exact (kJ17 (0) (Or.inl ⟨hc14, rfl⟩)).wk ⟨rfl, trivial⟩
          · refine im_iconst (q := 35) D166_34 ?_
            refine im_goto (q := 38) (t := 39) D166_35 rfl ?_
            exact (kJ17 ((-1)) (Or.inr ⟨(Decidable.not_not.mp hc14), rfl⟩)).wk ⟨rfl, trivial⟩
        · exact im_bkE rfl hX
      refine im_icmp (q := 20) (t := 24) D166_17 rfl hg1 (by decide) (fun hc8 => ?_) (fun hc8 => ?_)
      · refine im_iconst (q := 25) D166_24 ?_
        exact (kJ11 (0) (Or.inl ⟨hc8, rfl⟩)).wk ⟨rfl, trivial⟩
      · refine im_iconst (q := 21) D166_20 ?_
        refine im_goto (q := 24) (t := 25) D166_21 rfl ?_
        exact (kJ11 (1) (Or.inr ⟨hc8, rfl⟩)).wk ⟨rfl, trivial⟩
    · exact im_bkE rfl hX
  refine im_icmp (q := 6) (t := 10) D166_3 rfl hg1 (by decide) (fun hc2 => ?_) (fun hc2 => ?_)
  · refine im_iconst (q := 11) D166_10 ?_
    exact (kJ5 (0) (Or.inl ⟨hc2, rfl⟩)).wk ⟨rfl, trivial⟩
  · refine im_iconst (q := 7) D166_6 ?_
    refine im_goto (q := 10) (t := 11) D166_7 rfl ?_
    exact (kJ5 (1) (Or.inr ⟨hc2, rfl⟩)).wk ⟨rfl, trivial⟩
set_option maxRecDepth 20000 in
set_option maxHeartbeats 4000000 in
theorem k_P_needState_0 {g : im_g} {d : Nat} {e : im_E} {M : im_M} {K : im_K} {p0 : Int} (hP : (im_i32 p0) ∧ ((¬ p0 = 0 → K (.inl none) e M) ∧ (p0 = 0 → K (.inr "java/lang/IllegalStateException") (e ++ [im_ex]) M))) : im_T g d 167 0 [some (vI p0)] [] e M K := by
  refine im_ld (q := 1) (i := 0) D167_0 rfl rfl rfl ?_
  obtain ⟨hg1, hP⟩ := hP
  refine im_ifc (q := 4) (t := 15) D167_1 rfl hg1 (fun hc2 => ?_) (fun hc2 => ?_)
  · replace hP := hP.1 hc2
    exact im_vret (q := 16) D167_15 rfl hP
  · replace hP := hP.2 (Decidable.not_not.mp hc2)
    exact im_thw rfl rfl rfl rfl hP
set_option maxRecDepth 20000 in
set_option maxHeartbeats 4000000 in
theorem k_P_needArgument_0 {g : im_g} {d : Nat} {e : im_E} {M : im_M} {K : im_K} {p0 : Int} (hP : (im_i32 p0) ∧ ((¬ p0 = 0 → K (.inl none) e M) ∧ (p0 = 0 → K (.inr "java/lang/IllegalArgumentException") (e ++ [im_ex]) M))) : im_T g d 168 0 [some (vI p0)] [] e M K := by
  refine im_ld (q := 1) (i := 0) D168_0 rfl rfl rfl ?_
  obtain ⟨hg1, hP⟩ := hP
  refine im_ifc (q := 4) (t := 15) D168_1 rfl hg1 (fun hc2 => ?_) (fun hc2 => ?_)
  · replace hP := hP.1 hc2
    exact im_vret (q := 16) D168_15 rfl hP
  · replace hP := hP.2 (Decidable.not_not.mp hc2)
    exact im_thw rfl rfl rfl rfl hP
set_option maxRecDepth 20000 in
set_option maxHeartbeats 4000000 in
theorem k_P_needPlace_0 {g : im_g} {d : Nat} {e : im_E} {M : im_M} {K : im_K} {p0 p1 : Int} (hP : (im_i32 p0) ∧ ((((0 ≤ p0 → (im_i32 p1) ∧ ((p0 < p1 → K (.inl none) e M))))) ∧ ((((p0 < 0)) ∨ ((0 ≤ p0) ∧ (p1 ≤ p0))) → K (.inr "java/lang/IndexOutOfBoundsException") (e ++ [im_ex]) M))) : im_T g d 169 0 [some (vI p0), some (vI p1)] [] e M K := by
  refine im_ld (q := 1) (i := 0) D169_0 rfl rfl rfl ?_
  obtain ⟨hg1, hP⟩ := hP
  obtain ⟨hP, hJ5⟩ := hP
  have kJ6 : (((p0 < 0)) ∨ ((0 ≤ p0) ∧ (p1 ≤ p0))) → im_T g d 169 9 [none, none] [] e M K := by
    intro  hx7
    have hP := hJ5  hx7
    exact im_thw rfl rfl rfl rfl hP
  refine im_ifc (q := 4) (t := 9) D169_1 rfl hg1 (fun hc2 => ?_) (fun hc2 => ?_)
  · exact (kJ6  (Or.inl hc2)).wk trivial
  · replace hP := hP (Int.not_lt.mp hc2)
    refine im_ld (q := 5) (i := 0) D169_4 rfl rfl rfl ?_
    refine im_ld (q := 6) (i := 1) D169_5 rfl rfl rfl ?_
    obtain ⟨hg3, hP⟩ := hP
    refine im_icmp (q := 9) (t := 20) D169_6 rfl hg1 hg3 (fun hc4 => ?_) (fun hc4 => ?_)
    · replace hP := hP hc4
      exact im_vret (q := 21) D169_20 rfl hP
    · exact (kJ6  (Or.inr ⟨(Int.not_lt.mp hc2), (Int.not_lt.mp hc4)⟩)).wk trivial
set_option maxRecDepth 20000 in
set_option maxHeartbeats 4000000 in
theorem k_P_drop_0 {g : im_g} {d : Nat} {e : im_E} {M : im_M} {K : im_K} {p1 : Int} (hd : 1 ≤ d) (hP : im_T g (d - 1) 152 0 [some (.ref 0)] [] e M (im_rx (im_r0 (fun  e_ M1 => e = e_ ∧ (im_i32 p1) ∧ im_T g (d - 1) 84 0 [some (.ref 0), some (vL p1), none, none] [] e M1 (im_ri (fun x4 e_ M3 => e = e_ ∧ im_T g (d - 1) 166 0 [some (.ref 0), some (vI x4)] [] e M3 (im_rx (im_ri (fun x6 e_ M5 => e = e_ ∧ K (.inl (some (vI x6))) e M5)) (fun E_ e_ M_ => K (.inr E_) e_ M_)))))) (fun E_ e_ M_ => K (.inr E_) e_ M_))) : im_T g d 171 0 [some (.ref 0), some (vI p1)] [] e M K := by
  refine im_ld (q := 1) (i := 0) D171_0 rfl rfl rfl ?_
  refine im_callV (q := 4) (kd := 1) (y := 152) (n := 0) (ci := 11) (a := 0) (vs := [.ref 0]) (r := []) (L2 := [some (.ref 0)]) D171_1 (im_cal cn_171 cl_11_124) (Or.inl rfl) rfl sf_0 rfl rfl rfl rfl hd ⟨rfl, trivial⟩ ?_
  refine hP.mono ?_
  rintro _ e9 M1 (⟨rfl, rfl, hP⟩ | ⟨E_, rfl, hX⟩)
  · refine im_bkN ?_
    refine im_ld (q := 5) (i := 0) D171_4 rfl rfl rfl ?_
    refine im_ld (q := 6) (i := 0) D171_5 rfl rfl rfl ?_
    refine im_ld (q := 7) (i := 1) D171_6 rfl rfl rfl ?_
    obtain ⟨hg2, hP⟩ := hP
    refine im_i2l (q := 8) D171_7 hg2 ?_
    refine im_callV (q := 11) (kd := 1) (y := 84) (n := 1) (ci := 11) (a := 0) (vs := [.ref 0, vL p1]) (r := [.ref 0]) (L2 := [some (.ref 0), some (vL p1), none, none]) D171_8 (im_cal cn_171 cl_11_179) (Or.inl rfl) rfl sf_0 rfl rfl rfl rfl hd ⟨rfl, rfl, trivial⟩ ?_
    refine hP.mono ?_
    rintro _ e8 M3 ⟨x4, rfl, rfl, hP⟩
    refine im_bkS ?_
    refine im_callV (q := 14) (kd := 1) (y := 166) (n := 1) (ci := 11) (a := 0) (vs := [.ref 0, vI x4]) (r := []) (L2 := [some (.ref 0), some (vI x4)]) D171_11 (im_cal cn_171 cl_11_169) (Or.inl rfl) rfl sf_0 rfl rfl rfl rfl hd ⟨rfl, rfl, trivial⟩ ?_
    refine hP.mono ?_
    rintro _ e7 M5 (⟨x6, rfl, rfl, hP⟩ | ⟨E_, rfl, hX⟩)
    · refine im_bkS ?_
      exact im_iret (q := 15) D171_14 rfl hP
    · exact im_bkE rfl hX
  · exact im_bkE rfl hX

/-! blocks of the class -/
theorem D238_0 {g : im_g} : im_D g 238 0 (.aload_n 0) 1 := im_D.of (by decide +kernel)
theorem D238_1 {g : im_g} : im_D g 238 1 (.aload_n 2) 2 := im_D.of (by decide +kernel)
theorem D238_2 {g : im_g} : im_D g 238 2 (.putfield 47) 5 := im_D.of (by decide +kernel)
theorem D238_5 {g : im_g} : im_D g 238 5 (.aload_n 0) 6 := im_D.of (by decide +kernel)
theorem D238_6 {g : im_g} : im_D g 238 6 (.iconst 0) 7 := im_D.of (by decide +kernel)
theorem D238_7 {g : im_g} : im_D g 238 7 (.putfield 59) 10 := im_D.of (by decide +kernel)
theorem D238_10 {g : im_g} : im_D g 238 10 (.iconst 0) 11 := im_D.of (by decide +kernel)
theorem D238_11 {g : im_g} : im_D g 238 11 (.istore 5) 13 := im_D.of (by decide +kernel)
theorem D238_13 {g : im_g} : im_D g 238 13 (.aload_n 0) 14 := im_D.of (by decide +kernel)
theorem D238_14 {g : im_g} : im_D g 238 14 (.iconst 0) 15 := im_D.of (by decide +kernel)
theorem D238_15 {g : im_g} : im_D g 238 15 (.invokevirtual 63) 18 := im_D.of (by decide +kernel)
theorem D238_18 {g : im_g} : im_D g 238 18 (.aload_n 1) 19 := im_D.of (by decide +kernel)
theorem D238_19 {g : im_g} : im_D g 238 19 (.invokevirtual 67) 22 := im_D.of (by decide +kernel)
theorem D238_22 {g : im_g} : im_D g 238 22 (.aload_n 0) 23 := im_D.of (by decide +kernel)
theorem D238_23 {g : im_g} : im_D g 238 23 (.getfield 30) 26 := im_D.of (by decide +kernel)
theorem D238_26 {g : im_g} : im_D g 238 26 (.iconst 0) 27 := im_D.of (by decide +kernel)
theorem D238_27 {g : im_g} : im_D g 238 27 (.iconst (-1)) 28 := im_D.of (by decide +kernel)
theorem D238_28 {g : im_g} : im_D g 238 28 (.iastore) 29 := im_D.of (by decide +kernel)
theorem D238_29 {g : im_g} : im_D g 238 29 (.iconst 0) 30 := im_D.of (by decide +kernel)
theorem D238_30 {g : im_g} : im_D g 238 30 (.istore 6) 32 := im_D.of (by decide +kernel)
theorem D238_32 {g : im_g} : im_D g 238 32 (.iload 6) 34 := im_D.of (by decide +kernel)
theorem D238_34 {g : im_g} : im_D g 238 34 (.sipush 1200) 37 := im_D.of (by decide +kernel)
theorem D238_37 {g : im_g} : im_D g 238 37 (.if_icmp .ge 183) 40 := im_D.of (by decide +kernel)
theorem D238_40 {g : im_g} : im_D g 238 40 (.iload 5) 42 := im_D.of (by decide +kernel)
theorem D238_42 {g : im_g} : im_D g 238 42 (.ifCond .lt 178) 45 := im_D.of (by decide +kernel)
theorem D238_45 {g : im_g} : im_D g 238 45 (.aload_n 0) 46 := im_D.of (by decide +kernel)
theorem D238_46 {g : im_g} : im_D g 238 46 (.iload 5) 48 := im_D.of (by decide +kernel)
theorem D238_48 {g : im_g} : im_D g 238 48 (.invokevirtual 71) 51 := im_D.of (by decide +kernel)
theorem D238_51 {g : im_g} : im_D g 238 51 (.ifCond .ne 9) 54 := im_D.of (by decide +kernel)
theorem D238_54 {g : im_g} : im_D g 238 54 (.iinc 5 (-1)) 57 := im_D.of (by decide +kernel)
theorem D238_57 {g : im_g} : im_D g 238 57 (.goto 157) 60 := im_D.of (by decide +kernel)
theorem D238_60 {g : im_g} : im_D g 238 60 (.aload_n 0) 61 := im_D.of (by decide +kernel)
theorem D238_61 {g : im_g} : im_D g 238 61 (.getfield 59) 64 := im_D.of (by decide +kernel)
theorem D238_64 {g : im_g} : im_D g 238 64 (.iload 4) 66 := im_D.of (by decide +kernel)
theorem D238_66 {g : im_g} : im_D g 238 66 (.if_icmp .lt 5) 69 := im_D.of (by decide +kernel)
theorem D238_69 {g : im_g} : im_D g 238 69 (.iconst 2) 70 := im_D.of (by decide +kernel)
theorem D238_70 {g : im_g} : im_D g 238 70 (.ireturn) 71 := im_D.of (by decide +kernel)
theorem D238_71 {g : im_g} : im_D g 238 71 (.aload_n 0) 72 := im_D.of (by decide +kernel)
theorem D238_72 {g : im_g} : im_D g 238 72 (.dup) 73 := im_D.of (by decide +kernel)
theorem D238_73 {g : im_g} : im_D g 238 73 (.getfield 59) 76 := im_D.of (by decide +kernel)
theorem D238_76 {g : im_g} : im_D g 238 76 (.iconst 1) 77 := im_D.of (by decide +kernel)
theorem D238_77 {g : im_g} : im_D g 238 77 (.iadd) 78 := im_D.of (by decide +kernel)
theorem D238_78 {g : im_g} : im_D g 238 78 (.putfield 59) 81 := im_D.of (by decide +kernel)
theorem D238_81 {g : im_g} : im_D g 238 81 (.iload 5) 83 := im_D.of (by decide +kernel)
theorem D238_83 {g : im_g} : im_D g 238 83 (.iconst 1) 84 := im_D.of (by decide +kernel)
theorem D238_84 {g : im_g} : im_D g 238 84 (.iadd) 85 := im_D.of (by decide +kernel)
theorem D238_85 {g : im_g} : im_D g 238 85 (.sipush 128) 88 := im_D.of (by decide +kernel)
theorem D238_88 {g : im_g} : im_D g 238 88 (.if_icmp .lt 6) 91 := im_D.of (by decide +kernel)
theorem D238_91 {g : im_g} : im_D g 238 91 (.goto 123) 94 := im_D.of (by decide +kernel)
theorem D238_94 {g : im_g} : im_D g 238 94 (.aload_n 0) 95 := im_D.of (by decide +kernel)
theorem D238_95 {g : im_g} : im_D g 238 95 (.iload 5) 97 := im_D.of (by decide +kernel)
theorem D238_97 {g : im_g} : im_D g 238 97 (.iconst 1) 98 := im_D.of (by decide +kernel)
theorem D238_98 {g : im_g} : im_D g 238 98 (.iadd) 99 := im_D.of (by decide +kernel)
theorem D238_99 {g : im_g} : im_D g 238 99 (.invokevirtual 63) 102 := im_D.of (by decide +kernel)
theorem D238_102 {g : im_g} : im_D g 238 102 (.astore 7) 104 := im_D.of (by decide +kernel)
theorem D238_104 {g : im_g} : im_D g 238 104 (.aload 7) 106 := im_D.of (by decide +kernel)
theorem D238_106 {g : im_g} : im_D g 238 106 (.aload_n 0) 107 := im_D.of (by decide +kernel)
theorem D238_107 {g : im_g} : im_D g 238 107 (.iload 5) 109 := im_D.of (by decide +kernel)
theorem D238_109 {g : im_g} : im_D g 238 109 (.invokevirtual 63) 112 := im_D.of (by decide +kernel)
theorem D238_112 {g : im_g} : im_D g 238 112 (.invokevirtual 67) 115 := im_D.of (by decide +kernel)
theorem D238_115 {g : im_g} : im_D g 238 115 (.aload_n 0) 116 := im_D.of (by decide +kernel)
theorem D238_116 {g : im_g} : im_D g 238 116 (.getfield 55) 119 := im_D.of (by decide +kernel)
theorem D238_119 {g : im_g} : im_D g 238 119 (.aload 7) 121 := im_D.of (by decide +kernel)
theorem D238_121 {g : im_g} : im_D g 238 121 (.aload_n 0) 122 := im_D.of (by decide +kernel)
theorem D238_122 {g : im_g} : im_D g 238 122 (.getfield 47) 125 := im_D.of (by decide +kernel)
theorem D238_125 {g : im_g} : im_D g 238 125 (.iconst 1) 126 := im_D.of (by decide +kernel)
theorem D238_126 {g : im_g} : im_D g 238 126 (.invokevirtual 75) 129 := im_D.of (by decide +kernel)
theorem D238_129 {g : im_g} : im_D g 238 129 (.aload_n 0) 130 := im_D.of (by decide +kernel)
theorem D238_130 {g : im_g} : im_D g 238 130 (.getfield 22) 133 := im_D.of (by decide +kernel)
theorem D238_133 {g : im_g} : im_D g 238 133 (.getfield 81) 136 := im_D.of (by decide +kernel)
theorem D238_136 {g : im_g} : im_D g 238 136 (.iload 5) 138 := im_D.of (by decide +kernel)
theorem D238_138 {g : im_g} : im_D g 238 138 (.iaload) 139 := im_D.of (by decide +kernel)
theorem D238_139 {g : im_g} : im_D g 238 139 (.iconst (-1)) 140 := im_D.of (by decide +kernel)
theorem D238_140 {g : im_g} : im_D g 238 140 (.if_icmp .ne 7) 143 := im_D.of (by decide +kernel)
theorem D238_143 {g : im_g} : im_D g 238 143 (.iconst 0) 144 := im_D.of (by decide +kernel)
theorem D238_144 {g : im_g} : im_D g 238 144 (.goto 4) 147 := im_D.of (by decide +kernel)
theorem D238_147 {g : im_g} : im_D g 238 147 (.iconst 1) 148 := im_D.of (by decide +kernel)
theorem D238_148 {g : im_g} : im_D g 238 148 (.istore 8) 150 := im_D.of (by decide +kernel)
theorem D238_150 {g : im_g} : im_D g 238 150 (.aload_n 0) 151 := im_D.of (by decide +kernel)
theorem D238_151 {g : im_g} : im_D g 238 151 (.getfield 55) 154 := im_D.of (by decide +kernel)
theorem D238_154 {g : im_g} : im_D g 238 154 (.aload_n 0) 155 := im_D.of (by decide +kernel)
theorem D238_155 {g : im_g} : im_D g 238 155 (.getfield 26) 158 := im_D.of (by decide +kernel)
theorem D238_158 {g : im_g} : im_D g 238 158 (.iload 5) 160 := im_D.of (by decide +kernel)
theorem D238_160 {g : im_g} : im_D g 238 160 (.laload) 161 := im_D.of (by decide +kernel)
theorem D238_161 {g : im_g} : im_D g 238 161 (.aload_n 0) 162 := im_D.of (by decide +kernel)
theorem D238_162 {g : im_g} : im_D g 238 162 (.getfield 26) 165 := im_D.of (by decide +kernel)
theorem D238_165 {g : im_g} : im_D g 238 165 (.iload 5) 167 := im_D.of (by decide +kernel)
theorem D238_167 {g : im_g} : im_D g 238 167 (.laload) 168 := im_D.of (by decide +kernel)
theorem D238_168 {g : im_g} : im_D g 238 168 (.aload_n 0) 169 := im_D.of (by decide +kernel)
theorem D238_169 {g : im_g} : im_D g 238 169 (.getfield 22) 172 := im_D.of (by decide +kernel)
theorem D238_172 {g : im_g} : im_D g 238 172 (.iload 5) 174 := im_D.of (by decide +kernel)
theorem D238_174 {g : im_g} : im_D g 238 174 (.iload 8) 176 := im_D.of (by decide +kernel)
theorem D238_176 {g : im_g} : im_D g 238 176 (.invokevirtual 84) 179 := im_D.of (by decide +kernel)
theorem D238_179 {g : im_g} : im_D g 238 179 (.ifCond .ne 35) 182 := im_D.of (by decide +kernel)
theorem D238_182 {g : im_g} : im_D g 238 182 (.aload_n 0) 183 := im_D.of (by decide +kernel)
theorem D238_183 {g : im_g} : im_D g 238 183 (.iload_n 3) 184 := im_D.of (by decide +kernel)
theorem D238_184 {g : im_g} : im_D g 238 184 (.invokevirtual 88) 187 := im_D.of (by decide +kernel)
theorem D238_187 {g : im_g} : im_D g 238 187 (.ifCond .eq 16) 190 := im_D.of (by decide +kernel)
theorem D238_190 {g : im_g} : im_D g 238 190 (.aload_n 0) 191 := im_D.of (by decide +kernel)
theorem D238_191 {g : im_g} : im_D g 238 191 (.getfield 22) 194 := im_D.of (by decide +kernel)
theorem D238_194 {g : im_g} : im_D g 238 194 (.iload 5) 196 := im_D.of (by decide +kernel)
theorem D238_196 {g : im_g} : im_D g 238 196 (.iconst 1) 197 := im_D.of (by decide +kernel)
theorem D238_197 {g : im_g} : im_D g 238 197 (.iadd) 198 := im_D.of (by decide +kernel)
theorem D238_198 {g : im_g} : im_D g 238 198 (.putfield 91) 201 := im_D.of (by decide +kernel)
theorem D238_201 {g : im_g} : im_D g 238 201 (.iconst 1) 202 := im_D.of (by decide +kernel)
theorem D238_202 {g : im_g} : im_D g 238 202 (.ireturn) 203 := im_D.of (by decide +kernel)
theorem D238_203 {g : im_g} : im_D g 238 203 (.iinc 5 1) 206 := im_D.of (by decide +kernel)
theorem D238_206 {g : im_g} : im_D g 238 206 (.aload_n 0) 207 := im_D.of (by decide +kernel)
theorem D238_207 {g : im_g} : im_D g 238 207 (.getfield 30) 210 := im_D.of (by decide +kernel)
theorem D238_210 {g : im_g} : im_D g 238 210 (.iload 5) 212 := im_D.of (by decide +kernel)
theorem D238_212 {g : im_g} : im_D g 238 212 (.iconst (-1)) 213 := im_D.of (by decide +kernel)
theorem D238_213 {g : im_g} : im_D g 238 213 (.iastore) 214 := im_D.of (by decide +kernel)
theorem D238_214 {g : im_g} : im_D g 238 214 (.iinc 6 1) 217 := im_D.of (by decide +kernel)
theorem D238_217 {g : im_g} : im_D g 238 217 (.goto (-185)) 220 := im_D.of (by decide +kernel)
theorem D238_220 {g : im_g} : im_D g 238 220 (.iconst 0) 221 := im_D.of (by decide +kernel)
theorem D238_221 {g : im_g} : im_D g 238 221 (.ireturn) 222 := im_D.of (by decide +kernel)
theorem D240_0 {g : im_g} : im_D g 240 0 (.aload_n 0) 1 := im_D.of (by decide +kernel)
theorem D240_1 {g : im_g} : im_D g 240 1 (.iload_n 1) 2 := im_D.of (by decide +kernel)
theorem D240_2 {g : im_g} : im_D g 240 2 (.invokevirtual 63) 5 := im_D.of (by decide +kernel)
theorem D240_5 {g : im_g} : im_D g 240 5 (.astore_n 2) 6 := im_D.of (by decide +kernel)
theorem D240_6 {g : im_g} : im_D g 240 6 (.aload_n 0) 7 := im_D.of (by decide +kernel)
theorem D240_7 {g : im_g} : im_D g 240 7 (.getfield 55) 10 := im_D.of (by decide +kernel)
theorem D240_10 {g : im_g} : im_D g 240 10 (.aload_n 2) 11 := im_D.of (by decide +kernel)
theorem D240_11 {g : im_g} : im_D g 240 11 (.aload_n 0) 12 := im_D.of (by decide +kernel)
theorem D240_12 {g : im_g} : im_D g 240 12 (.getfield 47) 15 := im_D.of (by decide +kernel)
theorem D240_15 {g : im_g} : im_D g 240 15 (.iconst 1) 16 := im_D.of (by decide +kernel)
theorem D240_16 {g : im_g} : im_D g 240 16 (.invokevirtual 75) 19 := im_D.of (by decide +kernel)
theorem D240_19 {g : im_g} : im_D g 240 19 (.aload_n 0) 20 := im_D.of (by decide +kernel)
theorem D240_20 {g : im_g} : im_D g 240 20 (.getfield 30) 23 := im_D.of (by decide +kernel)
theorem D240_23 {g : im_g} : im_D g 240 23 (.iload_n 1) 24 := im_D.of (by decide +kernel)
theorem D240_24 {g : im_g} : im_D g 240 24 (.iaload) 25 := im_D.of (by decide +kernel)
theorem D240_25 {g : im_g} : im_D g 240 25 (.iconst (-1)) 26 := im_D.of (by decide +kernel)
theorem D240_26 {g : im_g} : im_D g 240 26 (.if_icmp .ne 70) 29 := im_D.of (by decide +kernel)
theorem D240_29 {g : im_g} : im_D g 240 29 (.aload_n 0) 30 := im_D.of (by decide +kernel)
theorem D240_30 {g : im_g} : im_D g 240 30 (.getfield 30) 33 := im_D.of (by decide +kernel)
theorem D240_33 {g : im_g} : im_D g 240 33 (.iload_n 1) 34 := im_D.of (by decide +kernel)
theorem D240_34 {g : im_g} : im_D g 240 34 (.bipush (-2)) 36 := im_D.of (by decide +kernel)
theorem D240_36 {g : im_g} : im_D g 240 36 (.iastore) 37 := im_D.of (by decide +kernel)
theorem D240_37 {g : im_g} : im_D g 240 37 (.aload_n 0) 38 := im_D.of (by decide +kernel)
theorem D240_38 {g : im_g} : im_D g 240 38 (.getfield 55) 41 := im_D.of (by decide +kernel)
theorem D240_41 {g : im_g} : im_D g 240 41 (.aload_n 2) 42 := im_D.of (by decide +kernel)
theorem D240_42 {g : im_g} : im_D g 240 42 (.getfield 98) 45 := im_D.of (by decide +kernel)
theorem D240_45 {g : im_g} : im_D g 240 45 (.invokevirtual 102) 48 := im_D.of (by decide +kernel)
theorem D240_48 {g : im_g} : im_D g 240 48 (.ifCond .ne 13) 51 := im_D.of (by decide +kernel)
theorem D240_51 {g : im_g} : im_D g 240 51 (.aload_n 0) 52 := im_D.of (by decide +kernel)
theorem D240_52 {g : im_g} : im_D g 240 52 (.iload_n 1) 53 := im_D.of (by decide +kernel)
theorem D240_53 {g : im_g} : im_D g 240 53 (.aload_n 2) 54 := im_D.of (by decide +kernel)
theorem D240_54 {g : im_g} : im_D g 240 54 (.getfield 98) 57 := im_D.of (by decide +kernel)
theorem D240_57 {g : im_g} : im_D g 240 57 (.invokevirtual 106) 60 := im_D.of (by decide +kernel)
theorem D240_60 {g : im_g} : im_D g 240 60 (.ireturn) 61 := im_D.of (by decide +kernel)
theorem D240_61 {g : im_g} : im_D g 240 61 (.aload_n 0) 62 := im_D.of (by decide +kernel)
theorem D240_62 {g : im_g} : im_D g 240 62 (.getfield 51) 65 := im_D.of (by decide +kernel)
theorem D240_65 {g : im_g} : im_D g 240 65 (.getfield 110) 68 := im_D.of (by decide +kernel)
theorem D240_68 {g : im_g} : im_D g 240 68 (.aload_n 2) 69 := im_D.of (by decide +kernel)
theorem D240_69 {g : im_g} : im_D g 240 69 (.getfield 113) 72 := im_D.of (by decide +kernel)
theorem D240_72 {g : im_g} : im_D g 240 72 (.iaload) 73 := im_D.of (by decide +kernel)
theorem D240_73 {g : im_g} : im_D g 240 73 (.iconst 3) 74 := im_D.of (by decide +kernel)
theorem D240_74 {g : im_g} : im_D g 240 74 (.if_icmp .ne 22) 77 := im_D.of (by decide +kernel)
theorem D240_77 {g : im_g} : im_D g 240 77 (.aload_n 0) 78 := im_D.of (by decide +kernel)
theorem D240_78 {g : im_g} : im_D g 240 78 (.getfield 30) 81 := im_D.of (by decide +kernel)
theorem D240_81 {g : im_g} : im_D g 240 81 (.iload_n 1) 82 := im_D.of (by decide +kernel)
theorem D240_82 {g : im_g} : im_D g 240 82 (.aload_n 2) 83 := im_D.of (by decide +kernel)
theorem D240_83 {g : im_g} : im_D g 240 83 (.getfield 113) 86 := im_D.of (by decide +kernel)
theorem D240_86 {g : im_g} : im_D g 240 86 (.iconst 1) 87 := im_D.of (by decide +kernel)
theorem D240_87 {g : im_g} : im_D g 240 87 (.iadd) 88 := im_D.of (by decide +kernel)
theorem D240_88 {g : im_g} : im_D g 240 88 (.iastore) 89 := im_D.of (by decide +kernel)
theorem D240_89 {g : im_g} : im_D g 240 89 (.aload_n 0) 90 := im_D.of (by decide +kernel)
theorem D240_90 {g : im_g} : im_D g 240 90 (.getfield 34) 93 := im_D.of (by decide +kernel)
theorem D240_93 {g : im_g} : im_D g 240 93 (.iload_n 1) 94 := im_D.of (by decide +kernel)
theorem D240_94 {g : im_g} : im_D g 240 94 (.iconst 0) 95 := im_D.of (by decide +kernel)
theorem D240_95 {g : im_g} : im_D g 240 95 (.iastore) 96 := im_D.of (by decide +kernel)
theorem D240_96 {g : im_g} : im_D g 240 96 (.iconst 0) 97 := im_D.of (by decide +kernel)
theorem D240_97 {g : im_g} : im_D g 240 97 (.istore_n 3) 98 := im_D.of (by decide +kernel)
theorem D240_98 {g : im_g} : im_D g 240 98 (.iload_n 3) 99 := im_D.of (by decide +kernel)
theorem D240_99 {g : im_g} : im_D g 240 99 (.bipush 100) 101 := im_D.of (by decide +kernel)
theorem D240_101 {g : im_g} : im_D g 240 101 (.if_icmp .ge 116) 104 := im_D.of (by decide +kernel)
theorem D240_104 {g : im_g} : im_D g 240 104 (.aload_n 0) 105 := im_D.of (by decide +kernel)
theorem D240_105 {g : im_g} : im_D g 240 105 (.getfield 30) 108 := im_D.of (by decide +kernel)
theorem D240_108 {g : im_g} : im_D g 240 108 (.iload_n 1) 109 := im_D.of (by decide +kernel)
theorem D240_109 {g : im_g} : im_D g 240 109 (.iaload) 110 := im_D.of (by decide +kernel)
theorem D240_110 {g : im_g} : im_D g 240 110 (.bipush (-2)) 112 := im_D.of (by decide +kernel)
theorem D240_112 {g : im_g} : im_D g 240 112 (.if_icmp .eq 105) 115 := im_D.of (by decide +kernel)
theorem D240_115 {g : im_g} : im_D g 240 115 (.aload_n 0) 116 := im_D.of (by decide +kernel)
theorem D240_116 {g : im_g} : im_D g 240 116 (.getfield 30) 119 := im_D.of (by decide +kernel)
theorem D240_119 {g : im_g} : im_D g 240 119 (.iload_n 1) 120 := im_D.of (by decide +kernel)
theorem D240_120 {g : im_g} : im_D g 240 120 (.iaload) 121 := im_D.of (by decide +kernel)
theorem D240_121 {g : im_g} : im_D g 240 121 (.istore 4) 123 := im_D.of (by decide +kernel)
theorem D240_123 {g : im_g} : im_D g 240 123 (.aload_n 0) 124 := im_D.of (by decide +kernel)
theorem D240_124 {g : im_g} : im_D g 240 124 (.getfield 51) 127 := im_D.of (by decide +kernel)
theorem D240_127 {g : im_g} : im_D g 240 127 (.iload 4) 129 := im_D.of (by decide +kernel)
theorem D240_129 {g : im_g} : im_D g 240 129 (.invokevirtual 116) 132 := im_D.of (by decide +kernel)
theorem D240_132 {g : im_g} : im_D g 240 132 (.ifCond .ne 28) 135 := im_D.of (by decide +kernel)
theorem D240_135 {g : im_g} : im_D g 240 135 (.aload_n 0) 136 := im_D.of (by decide +kernel)
theorem D240_136 {g : im_g} : im_D g 240 136 (.getfield 30) 139 := im_D.of (by decide +kernel)
theorem D240_139 {g : im_g} : im_D g 240 139 (.iload_n 1) 140 := im_D.of (by decide +kernel)
theorem D240_140 {g : im_g} : im_D g 240 140 (.bipush (-2)) 142 := im_D.of (by decide +kernel)
theorem D240_142 {g : im_g} : im_D g 240 142 (.iastore) 143 := im_D.of (by decide +kernel)
theorem D240_143 {g : im_g} : im_D g 240 143 (.aload_n 0) 144 := im_D.of (by decide +kernel)
theorem D240_144 {g : im_g} : im_D g 240 144 (.iload_n 1) 145 := im_D.of (by decide +kernel)
theorem D240_145 {g : im_g} : im_D g 240 145 (.aload_n 0) 146 := im_D.of (by decide +kernel)
theorem D240_146 {g : im_g} : im_D g 240 146 (.getfield 55) 149 := im_D.of (by decide +kernel)
theorem D240_149 {g : im_g} : im_D g 240 149 (.aload_n 2) 150 := im_D.of (by decide +kernel)
theorem D240_150 {g : im_g} : im_D g 240 150 (.getfield 113) 153 := im_D.of (by decide +kernel)
theorem D240_153 {g : im_g} : im_D g 240 153 (.invokevirtual 119) 156 := im_D.of (by decide +kernel)
theorem D240_156 {g : im_g} : im_D g 240 156 (.invokevirtual 106) 159 := im_D.of (by decide +kernel)
theorem D240_159 {g : im_g} : im_D g 240 159 (.ireturn) 160 := im_D.of (by decide +kernel)
theorem D240_160 {g : im_g} : im_D g 240 160 (.aload_n 0) 161 := im_D.of (by decide +kernel)
theorem D240_161 {g : im_g} : im_D g 240 161 (.getfield 26) 164 := im_D.of (by decide +kernel)
theorem D240_164 {g : im_g} : im_D g 240 164 (.iload_n 1) 165 := im_D.of (by decide +kernel)
theorem D240_165 {g : im_g} : im_D g 240 165 (.aload_n 2) 166 := im_D.of (by decide +kernel)
theorem D240_166 {g : im_g} : im_D g 240 166 (.getfield 98) 169 := im_D.of (by decide +kernel)
theorem D240_169 {g : im_g} : im_D g 240 169 (.lastore) 170 := im_D.of (by decide +kernel)
theorem D240_170 {g : im_g} : im_D g 240 170 (.aload_n 0) 171 := im_D.of (by decide +kernel)
theorem D240_171 {g : im_g} : im_D g 240 171 (.getfield 51) 174 := im_D.of (by decide +kernel)
theorem D240_174 {g : im_g} : im_D g 240 174 (.getfield 110) 177 := im_D.of (by decide +kernel)
theorem D240_177 {g : im_g} : im_D g 240 177 (.iload 4) 179 := im_D.of (by decide +kernel)
theorem D240_179 {g : im_g} : im_D g 240 179 (.iaload) 180 := im_D.of (by decide +kernel)
theorem D240_180 {g : im_g} : im_D g 240 180 (.bipush 29) 182 := im_D.of (by decide +kernel)
theorem D240_182 {g : im_g} : im_D g 240 182 (.if_icmp .ne 13) 185 := im_D.of (by decide +kernel)
theorem D240_185 {g : im_g} : im_D g 240 185 (.aload_n 0) 186 := im_D.of (by decide +kernel)
theorem D240_186 {g : im_g} : im_D g 240 186 (.iload_n 1) 187 := im_D.of (by decide +kernel)
theorem D240_187 {g : im_g} : im_D g 240 187 (.iload 4) 189 := im_D.of (by decide +kernel)
theorem D240_189 {g : im_g} : im_D g 240 189 (.invokevirtual 123) 192 := im_D.of (by decide +kernel)
theorem D240_192 {g : im_g} : im_D g 240 192 (.goto 10) 195 := im_D.of (by decide +kernel)
theorem D240_195 {g : im_g} : im_D g 240 195 (.aload_n 0) 196 := im_D.of (by decide +kernel)
theorem D240_196 {g : im_g} : im_D g 240 196 (.iload_n 1) 197 := im_D.of (by decide +kernel)
theorem D240_197 {g : im_g} : im_D g 240 197 (.iload 4) 199 := im_D.of (by decide +kernel)
theorem D240_199 {g : im_g} : im_D g 240 199 (.invokevirtual 127) 202 := im_D.of (by decide +kernel)
theorem D240_202 {g : im_g} : im_D g 240 202 (.istore 5) 204 := im_D.of (by decide +kernel)
theorem D240_204 {g : im_g} : im_D g 240 204 (.iload 5) 206 := im_D.of (by decide +kernel)
theorem D240_206 {g : im_g} : im_D g 240 206 (.ifCond .eq 5) 209 := im_D.of (by decide +kernel)
theorem D240_209 {g : im_g} : im_D g 240 209 (.iconst 1) 210 := im_D.of (by decide +kernel)
theorem D240_210 {g : im_g} : im_D g 240 210 (.ireturn) 211 := im_D.of (by decide +kernel)
theorem D240_211 {g : im_g} : im_D g 240 211 (.iinc 3 1) 214 := im_D.of (by decide +kernel)
theorem D240_214 {g : im_g} : im_D g 240 214 (.goto (-116)) 217 := im_D.of (by decide +kernel)
theorem D240_217 {g : im_g} : im_D g 240 217 (.iconst 0) 218 := im_D.of (by decide +kernel)
theorem D240_218 {g : im_g} : im_D g 240 218 (.ireturn) 219 := im_D.of (by decide +kernel)
theorem D241_0 {g : im_g} : im_D g 241 0 (.aload_n 0) 1 := im_D.of (by decide +kernel)
theorem D241_1 {g : im_g} : im_D g 241 1 (.getfield 26) 4 := im_D.of (by decide +kernel)
theorem D241_4 {g : im_g} : im_D g 241 4 (.iload_n 1) 5 := im_D.of (by decide +kernel)
theorem D241_5 {g : im_g} : im_D g 241 5 (.lload_n 2) 6 := im_D.of (by decide +kernel)
theorem D241_6 {g : im_g} : im_D g 241 6 (.lastore) 7 := im_D.of (by decide +kernel)
theorem D241_7 {g : im_g} : im_D g 241 7 (.aload_n 0) 8 := im_D.of (by decide +kernel)
theorem D241_8 {g : im_g} : im_D g 241 8 (.getfield 22) 11 := im_D.of (by decide +kernel)
theorem D241_11 {g : im_g} : im_D g 241 11 (.iload_n 1) 12 := im_D.of (by decide +kernel)
theorem D241_12 {g : im_g} : im_D g 241 12 (.iconst (-1)) 13 := im_D.of (by decide +kernel)
theorem D241_13 {g : im_g} : im_D g 241 13 (.lconst 0) 14 := im_D.of (by decide +kernel)
theorem D241_14 {g : im_g} : im_D g 241 14 (.lconst 0) 15 := im_D.of (by decide +kernel)
theorem D241_15 {g : im_g} : im_D g 241 15 (.lconst 0) 16 := im_D.of (by decide +kernel)
theorem D241_16 {g : im_g} : im_D g 241 16 (.invokevirtual 130) 19 := im_D.of (by decide +kernel)
theorem D241_19 {g : im_g} : im_D g 241 19 (.iconst 1) 20 := im_D.of (by decide +kernel)
theorem D241_20 {g : im_g} : im_D g 241 20 (.ireturn) 21 := im_D.of (by decide +kernel)
theorem D242_0 {g : im_g} : im_D g 242 0 (.aload_n 0) 1 := im_D.of (by decide +kernel)
theorem D242_1 {g : im_g} : im_D g 242 1 (.getfield 34) 4 := im_D.of (by decide +kernel)
theorem D242_4 {g : im_g} : im_D g 242 4 (.iload_n 1) 5 := im_D.of (by decide +kernel)
theorem D242_5 {g : im_g} : im_D g 242 5 (.iaload) 6 := im_D.of (by decide +kernel)
theorem D242_6 {g : im_g} : im_D g 242 6 (.istore_n 3) 7 := im_D.of (by decide +kernel)
theorem D242_7 {g : im_g} : im_D g 242 7 (.iload_n 3) 8 := im_D.of (by decide +kernel)
theorem D242_8 {g : im_g} : im_D g 242 8 (.i2l) 9 := im_D.of (by decide +kernel)
theorem D242_9 {g : im_g} : im_D g 242 9 (.ldc2_w 134) 12 := im_D.of (by decide +kernel)
theorem D242_12 {g : im_g} : im_D g 242 12 (.aload_n 0) 13 := im_D.of (by decide +kernel)
theorem D242_13 {g : im_g} : im_D g 242 13 (.getfield 51) 16 := im_D.of (by decide +kernel)
theorem D242_16 {g : im_g} : im_D g 242 16 (.getfield 136) 19 := im_D.of (by decide +kernel)
theorem D242_19 {g : im_g} : im_D g 242 19 (.iload_n 2) 20 := im_D.of (by decide +kernel)
theorem D242_20 {g : im_g} : im_D g 242 20 (.laload) 21 := im_D.of (by decide +kernel)
theorem D242_21 {g : im_g} : im_D g 242 21 (.lmul) 22 := im_D.of (by decide +kernel)
theorem D242_22 {g : im_g} : im_D g 242 22 (.lcmp) 23 := im_D.of (by decide +kernel)
theorem D242_23 {g : im_g} : im_D g 242 23 (.ifCond .lt 27) 26 := im_D.of (by decide +kernel)
theorem D242_26 {g : im_g} : im_D g 242 26 (.aload_n 0) 27 := im_D.of (by decide +kernel)
theorem D242_27 {g : im_g} : im_D g 242 27 (.getfield 30) 30 := im_D.of (by decide +kernel)
theorem D242_30 {g : im_g} : im_D g 242 30 (.iload_n 1) 31 := im_D.of (by decide +kernel)
theorem D242_31 {g : im_g} : im_D g 242 31 (.aload_n 0) 32 := im_D.of (by decide +kernel)
theorem D242_32 {g : im_g} : im_D g 242 32 (.getfield 51) 35 := im_D.of (by decide +kernel)
theorem D242_35 {g : im_g} : im_D g 242 35 (.getfield 139) 38 := im_D.of (by decide +kernel)
theorem D242_38 {g : im_g} : im_D g 242 38 (.iload_n 2) 39 := im_D.of (by decide +kernel)
theorem D242_39 {g : im_g} : im_D g 242 39 (.iaload) 40 := im_D.of (by decide +kernel)
theorem D242_40 {g : im_g} : im_D g 242 40 (.iastore) 41 := im_D.of (by decide +kernel)
theorem D242_41 {g : im_g} : im_D g 242 41 (.aload_n 0) 42 := im_D.of (by decide +kernel)
theorem D242_42 {g : im_g} : im_D g 242 42 (.getfield 34) 45 := im_D.of (by decide +kernel)
theorem D242_45 {g : im_g} : im_D g 242 45 (.iload_n 1) 46 := im_D.of (by decide +kernel)
theorem D242_46 {g : im_g} : im_D g 242 46 (.iconst 0) 47 := im_D.of (by decide +kernel)
theorem D242_47 {g : im_g} : im_D g 242 47 (.iastore) 48 := im_D.of (by decide +kernel)
theorem D242_48 {g : im_g} : im_D g 242 48 (.iconst 0) 49 := im_D.of (by decide +kernel)
theorem D242_49 {g : im_g} : im_D g 242 49 (.ireturn) 50 := im_D.of (by decide +kernel)
theorem D242_50 {g : im_g} : im_D g 242 50 (.aload_n 0) 51 := im_D.of (by decide +kernel)
theorem D242_51 {g : im_g} : im_D g 242 51 (.getfield 34) 54 := im_D.of (by decide +kernel)
theorem D242_54 {g : im_g} : im_D g 242 54 (.iload_n 1) 55 := im_D.of (by decide +kernel)
theorem D242_55 {g : im_g} : im_D g 242 55 (.iload_n 3) 56 := im_D.of (by decide +kernel)
theorem D242_56 {g : im_g} : im_D g 242 56 (.iconst 1) 57 := im_D.of (by decide +kernel)
theorem D242_57 {g : im_g} : im_D g 242 57 (.iadd) 58 := im_D.of (by decide +kernel)
theorem D242_58 {g : im_g} : im_D g 242 58 (.iastore) 59 := im_D.of (by decide +kernel)
theorem D242_59 {g : im_g} : im_D g 242 59 (.aload_n 0) 60 := im_D.of (by decide +kernel)
theorem D242_60 {g : im_g} : im_D g 242 60 (.getfield 22) 63 := im_D.of (by decide +kernel)
theorem D242_63 {g : im_g} : im_D g 242 63 (.iload_n 1) 64 := im_D.of (by decide +kernel)
theorem D242_64 {g : im_g} : im_D g 242 64 (.bipush 29) 66 := im_D.of (by decide +kernel)
theorem D242_66 {g : im_g} : im_D g 242 66 (.aload_n 0) 67 := im_D.of (by decide +kernel)
theorem D242_67 {g : im_g} : im_D g 242 67 (.getfield 51) 70 := im_D.of (by decide +kernel)
theorem D242_70 {g : im_g} : im_D g 242 70 (.getfield 142) 73 := im_D.of (by decide +kernel)
theorem D242_73 {g : im_g} : im_D g 242 73 (.iload_n 2) 74 := im_D.of (by decide +kernel)
theorem D242_74 {g : im_g} : im_D g 242 74 (.laload) 75 := im_D.of (by decide +kernel)
theorem D242_75 {g : im_g} : im_D g 242 75 (.aload_n 0) 76 := im_D.of (by decide +kernel)
theorem D242_76 {g : im_g} : im_D g 242 76 (.getfield 51) 79 := im_D.of (by decide +kernel)
theorem D242_79 {g : im_g} : im_D g 242 79 (.getfield 145) 82 := im_D.of (by decide +kernel)
theorem D242_82 {g : im_g} : im_D g 242 82 (.iload_n 2) 83 := im_D.of (by decide +kernel)
theorem D242_83 {g : im_g} : im_D g 242 83 (.laload) 84 := im_D.of (by decide +kernel)
theorem D242_84 {g : im_g} : im_D g 242 84 (.lconst 0) 85 := im_D.of (by decide +kernel)
theorem D242_85 {g : im_g} : im_D g 242 85 (.invokevirtual 130) 88 := im_D.of (by decide +kernel)
theorem D242_88 {g : im_g} : im_D g 242 88 (.aload_n 0) 89 := im_D.of (by decide +kernel)
theorem D242_89 {g : im_g} : im_D g 242 89 (.getfield 51) 92 := im_D.of (by decide +kernel)
theorem D242_92 {g : im_g} : im_D g 242 92 (.iload_n 2) 93 := im_D.of (by decide +kernel)
theorem D242_93 {g : im_g} : im_D g 242 93 (.iload_n 3) 94 := im_D.of (by decide +kernel)
theorem D242_94 {g : im_g} : im_D g 242 94 (.aload_n 0) 95 := im_D.of (by decide +kernel)
theorem D242_95 {g : im_g} : im_D g 242 95 (.getfield 22) 98 := im_D.of (by decide +kernel)
theorem D242_98 {g : im_g} : im_D g 242 98 (.getfield 148) 101 := im_D.of (by decide +kernel)
theorem D242_101 {g : im_g} : im_D g 242 101 (.iload_n 1) 102 := im_D.of (by decide +kernel)
theorem D242_102 {g : im_g} : im_D g 242 102 (.aaload) 103 := im_D.of (by decide +kernel)
theorem D242_103 {g : im_g} : im_D g 242 103 (.invokevirtual 152) 106 := im_D.of (by decide +kernel)
theorem D242_106 {g : im_g} : im_D g 242 106 (.iload_n 3) 107 := im_D.of (by decide +kernel)
theorem D242_107 {g : im_g} : im_D g 242 107 (.iconst 2) 108 := im_D.of (by decide +kernel)
theorem D242_108 {g : im_g} : im_D g 242 108 (.irem) 109 := im_D.of (by decide +kernel)
theorem D242_109 {g : im_g} : im_D g 242 109 (.ifCond .ne 5) 112 := im_D.of (by decide +kernel)
theorem D242_112 {g : im_g} : im_D g 242 112 (.iconst 1) 113 := im_D.of (by decide +kernel)
theorem D242_113 {g : im_g} : im_D g 242 113 (.ireturn) 114 := im_D.of (by decide +kernel)
theorem D242_114 {g : im_g} : im_D g 242 114 (.aload_n 0) 115 := im_D.of (by decide +kernel)
theorem D242_115 {g : im_g} : im_D g 242 115 (.getfield 51) 118 := im_D.of (by decide +kernel)
theorem D242_118 {g : im_g} : im_D g 242 118 (.iload_n 2) 119 := im_D.of (by decide +kernel)
theorem D242_119 {g : im_g} : im_D g 242 119 (.iload_n 3) 120 := im_D.of (by decide +kernel)
theorem D242_120 {g : im_g} : im_D g 242 120 (.iconst 1) 121 := im_D.of (by decide +kernel)
theorem D242_121 {g : im_g} : im_D g 242 121 (.isub) 122 := im_D.of (by decide +kernel)
theorem D242_122 {g : im_g} : im_D g 242 122 (.aload_n 0) 123 := im_D.of (by decide +kernel)
theorem D242_123 {g : im_g} : im_D g 242 123 (.getfield 40) 126 := im_D.of (by decide +kernel)
theorem D242_126 {g : im_g} : im_D g 242 126 (.invokevirtual 152) 129 := im_D.of (by decide +kernel)
theorem D242_129 {g : im_g} : im_D g 242 129 (.aload_n 0) 130 := im_D.of (by decide +kernel)
theorem D242_130 {g : im_g} : im_D g 242 130 (.getfield 40) 133 := im_D.of (by decide +kernel)
theorem D242_133 {g : im_g} : im_D g 242 133 (.aload_n 0) 134 := im_D.of (by decide +kernel)
theorem D242_134 {g : im_g} : im_D g 242 134 (.getfield 22) 137 := im_D.of (by decide +kernel)
theorem D242_137 {g : im_g} : im_D g 242 137 (.getfield 148) 140 := im_D.of (by decide +kernel)
theorem D242_140 {g : im_g} : im_D g 242 140 (.iload_n 1) 141 := im_D.of (by decide +kernel)
theorem D242_141 {g : im_g} : im_D g 242 141 (.aaload) 142 := im_D.of (by decide +kernel)
theorem D242_142 {g : im_g} : im_D g 242 142 (.invokevirtual 156) 145 := im_D.of (by decide +kernel)
theorem D242_145 {g : im_g} : im_D g 242 145 (.ifCond .eq 7) 148 := im_D.of (by decide +kernel)
theorem D242_148 {g : im_g} : im_D g 242 148 (.iconst 1) 149 := im_D.of (by decide +kernel)
theorem D242_149 {g : im_g} : im_D g 242 149 (.goto 4) 152 := im_D.of (by decide +kernel)
theorem D242_152 {g : im_g} : im_D g 242 152 (.iconst 0) 153 := im_D.of (by decide +kernel)
theorem D242_153 {g : im_g} : im_D g 242 153 (.ireturn) 154 := im_D.of (by decide +kernel)
theorem D243_0 {g : im_g} : im_D g 243 0 (.aload_n 0) 1 := im_D.of (by decide +kernel)
theorem D243_1 {g : im_g} : im_D g 243 1 (.getfield 24) 4 := im_D.of (by decide +kernel)
theorem D243_4 {g : im_g} : im_D g 243 4 (.iload_n 1) 5 := im_D.of (by decide +kernel)
theorem D243_5 {g : im_g} : im_D g 243 5 (.iaload) 6 := im_D.of (by decide +kernel)
theorem D243_6 {g : im_g} : im_D g 243 6 (.istore 4) 8 := im_D.of (by decide +kernel)
theorem D243_8 {g : im_g} : im_D g 243 8 (.iconst 0) 9 := im_D.of (by decide +kernel)
theorem D243_9 {g : im_g} : im_D g 243 9 (.istore 5) 11 := im_D.of (by decide +kernel)
theorem D243_11 {g : im_g} : im_D g 243 11 (.iload 5) 13 := im_D.of (by decide +kernel)
theorem D243_13 {g : im_g} : im_D g 243 13 (.iload_n 2) 14 := im_D.of (by decide +kernel)
theorem D243_14 {g : im_g} : im_D g 243 14 (.if_icmp .gt 18) 17 := im_D.of (by decide +kernel)
theorem D243_17 {g : im_g} : im_D g 243 17 (.aload_n 0) 18 := im_D.of (by decide +kernel)
theorem D243_18 {g : im_g} : im_D g 243 18 (.iload 4) 20 := im_D.of (by decide +kernel)
theorem D243_20 {g : im_g} : im_D g 243 20 (.aload_n 3) 21 := im_D.of (by decide +kernel)
theorem D243_21 {g : im_g} : im_D g 243 21 (.invokevirtual 77) 24 := im_D.of (by decide +kernel)
theorem D243_24 {g : im_g} : im_D g 243 24 (.istore 4) 26 := im_D.of (by decide +kernel)
theorem D243_26 {g : im_g} : im_D g 243 26 (.iinc 5 1) 29 := im_D.of (by decide +kernel)
theorem D243_29 {g : im_g} : im_D g 243 29 (.goto (-18)) 32 := im_D.of (by decide +kernel)
theorem D243_32 {g : im_g} : im_D g 243 32 (.return_) 33 := im_D.of (by decide +kernel)
theorem D244_0 {g : im_g} : im_D g 244 0 (.aload_n 0) 1 := im_D.of (by decide +kernel)
theorem D244_1 {g : im_g} : im_D g 244 1 (.getfield 30) 4 := im_D.of (by decide +kernel)
theorem D244_4 {g : im_g} : im_D g 244 4 (.iload_n 1) 5 := im_D.of (by decide +kernel)
theorem D244_5 {g : im_g} : im_D g 244 5 (.aload_n 0) 6 := im_D.of (by decide +kernel)
theorem D244_6 {g : im_g} : im_D g 244 6 (.getfield 51) 9 := im_D.of (by decide +kernel)
theorem D244_9 {g : im_g} : im_D g 244 9 (.getfield 139) 12 := im_D.of (by decide +kernel)
theorem D244_12 {g : im_g} : im_D g 244 12 (.iload_n 2) 13 := im_D.of (by decide +kernel)
theorem D244_13 {g : im_g} : im_D g 244 13 (.iaload) 14 := im_D.of (by decide +kernel)
theorem D244_14 {g : im_g} : im_D g 244 14 (.iastore) 15 := im_D.of (by decide +kernel)
theorem D244_15 {g : im_g} : im_D g 244 15 (.aload_n 0) 16 := im_D.of (by decide +kernel)
theorem D244_16 {g : im_g} : im_D g 244 16 (.getfield 55) 19 := im_D.of (by decide +kernel)
theorem D244_19 {g : im_g} : im_D g 244 19 (.aload_n 0) 20 := im_D.of (by decide +kernel)
theorem D244_20 {g : im_g} : im_D g 244 20 (.getfield 26) 23 := im_D.of (by decide +kernel)
theorem D244_23 {g : im_g} : im_D g 244 23 (.iload_n 1) 24 := im_D.of (by decide +kernel)
theorem D244_24 {g : im_g} : im_D g 244 24 (.laload) 25 := im_D.of (by decide +kernel)
theorem D244_25 {g : im_g} : im_D g 244 25 (.aload_n 0) 26 := im_D.of (by decide +kernel)
theorem D244_26 {g : im_g} : im_D g 244 26 (.getfield 26) 29 := im_D.of (by decide +kernel)
theorem D244_29 {g : im_g} : im_D g 244 29 (.iload_n 1) 30 := im_D.of (by decide +kernel)
theorem D244_30 {g : im_g} : im_D g 244 30 (.laload) 31 := im_D.of (by decide +kernel)
theorem D244_31 {g : im_g} : im_D g 244 31 (.invokevirtual 160) 34 := im_D.of (by decide +kernel)
theorem D244_34 {g : im_g} : im_D g 244 34 (.aload_n 0) 35 := im_D.of (by decide +kernel)
theorem D244_35 {g : im_g} : im_D g 244 35 (.getfield 55) 38 := im_D.of (by decide +kernel)
theorem D244_38 {g : im_g} : im_D g 244 38 (.iload_n 2) 39 := im_D.of (by decide +kernel)
theorem D244_39 {g : im_g} : im_D g 244 39 (.iconst 1) 40 := im_D.of (by decide +kernel)
theorem D244_40 {g : im_g} : im_D g 244 40 (.iadd) 41 := im_D.of (by decide +kernel)
theorem D244_41 {g : im_g} : im_D g 244 41 (.iconst 0) 42 := im_D.of (by decide +kernel)
theorem D244_42 {g : im_g} : im_D g 244 42 (.invokevirtual 164) 45 := im_D.of (by decide +kernel)
theorem D244_45 {g : im_g} : im_D g 244 45 (.istore_n 3) 46 := im_D.of (by decide +kernel)
theorem D244_46 {g : im_g} : im_D g 244 46 (.aload_n 0) 47 := im_D.of (by decide +kernel)
theorem D244_47 {g : im_g} : im_D g 244 47 (.getfield 55) 50 := im_D.of (by decide +kernel)
theorem D244_50 {g : im_g} : im_D g 244 50 (.getfield 167) 53 := im_D.of (by decide +kernel)
theorem D244_53 {g : im_g} : im_D g 244 53 (.ifCond .eq 5) 56 := im_D.of (by decide +kernel)
theorem D244_56 {g : im_g} : im_D g 244 56 (.iconst 0) 57 := im_D.of (by decide +kernel)
theorem D244_57 {g : im_g} : im_D g 244 57 (.ireturn) 58 := im_D.of (by decide +kernel)
theorem D244_58 {g : im_g} : im_D g 244 58 (.aload_n 0) 59 := im_D.of (by decide +kernel)
theorem D244_59 {g : im_g} : im_D g 244 59 (.getfield 51) 62 := im_D.of (by decide +kernel)
theorem D244_62 {g : im_g} : im_D g 244 62 (.getfield 110) 65 := im_D.of (by decide +kernel)
theorem D244_65 {g : im_g} : im_D g 244 65 (.iload_n 2) 66 := im_D.of (by decide +kernel)
theorem D244_66 {g : im_g} : im_D g 244 66 (.iaload) 67 := im_D.of (by decide +kernel)
theorem D244_67 {g : im_g} : im_D g 244 67 (.bipush 30) 69 := im_D.of (by decide +kernel)
theorem D244_69 {g : im_g} : im_D g 244 69 (.if_icmp .ne 18) 72 := im_D.of (by decide +kernel)
theorem D244_72 {g : im_g} : im_D g 244 72 (.aload_n 0) 73 := im_D.of (by decide +kernel)
theorem D244_73 {g : im_g} : im_D g 244 73 (.getfield 22) 76 := im_D.of (by decide +kernel)
theorem D244_76 {g : im_g} : im_D g 244 76 (.iload_n 1) 77 := im_D.of (by decide +kernel)
theorem D244_77 {g : im_g} : im_D g 244 77 (.bipush 30) 79 := im_D.of (by decide +kernel)
theorem D244_79 {g : im_g} : im_D g 244 79 (.lconst 0) 80 := im_D.of (by decide +kernel)
theorem D244_80 {g : im_g} : im_D g 244 80 (.lconst 0) 81 := im_D.of (by decide +kernel)
theorem D244_81 {g : im_g} : im_D g 244 81 (.lconst 0) 82 := im_D.of (by decide +kernel)
theorem D244_82 {g : im_g} : im_D g 244 82 (.invokevirtual 130) 85 := im_D.of (by decide +kernel)
theorem D244_85 {g : im_g} : im_D g 244 85 (.iload_n 3) 86 := im_D.of (by decide +kernel)
theorem D244_86 {g : im_g} : im_D g 244 86 (.ireturn) 87 := im_D.of (by decide +kernel)
theorem D244_87 {g : im_g} : im_D g 244 87 (.aload_n 0) 88 := im_D.of (by decide +kernel)
theorem D244_88 {g : im_g} : im_D g 244 88 (.getfield 22) 91 := im_D.of (by decide +kernel)
theorem D244_91 {g : im_g} : im_D g 244 91 (.iload_n 1) 92 := im_D.of (by decide +kernel)
theorem D244_92 {g : im_g} : im_D g 244 92 (.bipush 28) 94 := im_D.of (by decide +kernel)
theorem D244_94 {g : im_g} : im_D g 244 94 (.aload_n 0) 95 := im_D.of (by decide +kernel)
theorem D244_95 {g : im_g} : im_D g 244 95 (.getfield 51) 98 := im_D.of (by decide +kernel)
theorem D244_98 {g : im_g} : im_D g 244 98 (.getfield 142) 101 := im_D.of (by decide +kernel)
theorem D244_101 {g : im_g} : im_D g 244 101 (.iload_n 2) 102 := im_D.of (by decide +kernel)
theorem D244_102 {g : im_g} : im_D g 244 102 (.laload) 103 := im_D.of (by decide +kernel)
theorem D244_103 {g : im_g} : im_D g 244 103 (.aload_n 0) 104 := im_D.of (by decide +kernel)
theorem D244_104 {g : im_g} : im_D g 244 104 (.getfield 51) 107 := im_D.of (by decide +kernel)
theorem D244_107 {g : im_g} : im_D g 244 107 (.getfield 145) 110 := im_D.of (by decide +kernel)
theorem D244_110 {g : im_g} : im_D g 244 110 (.iload_n 2) 111 := im_D.of (by decide +kernel)
theorem D244_111 {g : im_g} : im_D g 244 111 (.laload) 112 := im_D.of (by decide +kernel)
theorem D244_112 {g : im_g} : im_D g 244 112 (.aload_n 0) 113 := im_D.of (by decide +kernel)
theorem D244_113 {g : im_g} : im_D g 244 113 (.getfield 51) 116 := im_D.of (by decide +kernel)
theorem D244_116 {g : im_g} : im_D g 244 116 (.getfield 136) 119 := im_D.of (by decide +kernel)
theorem D244_119 {g : im_g} : im_D g 244 119 (.iload_n 2) 120 := im_D.of (by decide +kernel)
theorem D244_120 {g : im_g} : im_D g 244 120 (.laload) 121 := im_D.of (by decide +kernel)
theorem D244_121 {g : im_g} : im_D g 244 121 (.invokevirtual 130) 124 := im_D.of (by decide +kernel)
theorem D244_124 {g : im_g} : im_D g 244 124 (.aload_n 0) 125 := im_D.of (by decide +kernel)
theorem D244_125 {g : im_g} : im_D g 244 125 (.getfield 22) 128 := im_D.of (by decide +kernel)
theorem D244_128 {g : im_g} : im_D g 244 128 (.getfield 148) 131 := im_D.of (by decide +kernel)
theorem D244_131 {g : im_g} : im_D g 244 131 (.iload_n 1) 132 := im_D.of (by decide +kernel)
theorem D244_132 {g : im_g} : im_D g 244 132 (.aaload) 133 := im_D.of (by decide +kernel)
theorem D244_133 {g : im_g} : im_D g 244 133 (.aload_n 0) 134 := im_D.of (by decide +kernel)
theorem D244_134 {g : im_g} : im_D g 244 134 (.getfield 55) 137 := im_D.of (by decide +kernel)
theorem D244_137 {g : im_g} : im_D g 244 137 (.getfield 171) 140 := im_D.of (by decide +kernel)
theorem D244_140 {g : im_g} : im_D g 244 140 (.iconst 0) 141 := im_D.of (by decide +kernel)
theorem D244_141 {g : im_g} : im_D g 244 141 (.aaload) 142 := im_D.of (by decide +kernel)
theorem D244_142 {g : im_g} : im_D g 244 142 (.invokevirtual 172) 145 := im_D.of (by decide +kernel)
theorem D244_145 {g : im_g} : im_D g 244 145 (.iconst 1) 146 := im_D.of (by decide +kernel)
theorem D244_146 {g : im_g} : im_D g 244 146 (.ireturn) 147 := im_D.of (by decide +kernel)
theorem D245_0 {g : im_g} : im_D g 245 0 (.iconst 0) 1 := im_D.of (by decide +kernel)
theorem D245_1 {g : im_g} : im_D g 245 1 (.istore_n 2) 2 := im_D.of (by decide +kernel)
theorem D245_2 {g : im_g} : im_D g 245 2 (.iload_n 2) 3 := im_D.of (by decide +kernel)
theorem D245_3 {g : im_g} : im_D g 245 3 (.aload_n 0) 4 := im_D.of (by decide +kernel)
theorem D245_4 {g : im_g} : im_D g 245 4 (.getfield 55) 7 := im_D.of (by decide +kernel)
theorem D245_7 {g : im_g} : im_D g 245 7 (.getfield 95) 10 := im_D.of (by decide +kernel)
theorem D245_10 {g : im_g} : im_D g 245 10 (.getfield 91) 13 := im_D.of (by decide +kernel)
theorem D245_13 {g : im_g} : im_D g 245 13 (.if_icmp .ge 32) 16 := im_D.of (by decide +kernel)
theorem D245_16 {g : im_g} : im_D g 245 16 (.iload_n 1) 17 := im_D.of (by decide +kernel)
theorem D245_17 {g : im_g} : im_D g 245 17 (.aload_n 0) 18 := im_D.of (by decide +kernel)
theorem D245_18 {g : im_g} : im_D g 245 18 (.getfield 55) 21 := im_D.of (by decide +kernel)
theorem D245_21 {g : im_g} : im_D g 245 21 (.getfield 95) 24 := im_D.of (by decide +kernel)
theorem D245_24 {g : im_g} : im_D g 245 24 (.getfield 81) 27 := im_D.of (by decide +kernel)
theorem D245_27 {g : im_g} : im_D g 245 27 (.iload_n 2) 28 := im_D.of (by decide +kernel)
theorem D245_28 {g : im_g} : im_D g 245 28 (.iaload) 29 := im_D.of (by decide +kernel)
theorem D245_29 {g : im_g} : im_D g 245 29 (.iconst 1) 30 := im_D.of (by decide +kernel)
theorem D245_30 {g : im_g} : im_D g 245 30 (.isub) 31 := im_D.of (by decide +kernel)
theorem D245_31 {g : im_g} : im_D g 245 31 (.ishr) 32 := im_D.of (by decide +kernel)
theorem D245_32 {g : im_g} : im_D g 245 32 (.iconst 1) 33 := im_D.of (by decide +kernel)
theorem D245_33 {g : im_g} : im_D g 245 33 (.iand) 34 := im_D.of (by decide +kernel)
theorem D245_34 {g : im_g} : im_D g 245 34 (.ifCond .eq 5) 37 := im_D.of (by decide +kernel)
theorem D245_37 {g : im_g} : im_D g 245 37 (.iconst 1) 38 := im_D.of (by decide +kernel)
theorem D245_38 {g : im_g} : im_D g 245 38 (.ireturn) 39 := im_D.of (by decide +kernel)
theorem D245_39 {g : im_g} : im_D g 245 39 (.iinc 2 1) 42 := im_D.of (by decide +kernel)
theorem D245_42 {g : im_g} : im_D g 245 42 (.goto (-40)) 45 := im_D.of (by decide +kernel)
theorem D245_45 {g : im_g} : im_D g 245 45 (.iconst 0) 46 := im_D.of (by decide +kernel)
theorem D245_46 {g : im_g} : im_D g 245 46 (.ireturn) 47 := im_D.of (by decide +kernel)
set_option maxRecDepth 20000 in
set_option maxHeartbeats 4000000 in
theorem k_Search_run_0 {g : im_g} {d : Nat} {e : im_E} {M : im_M} {K : im_K} {p3 p4 : Int} {p1 : Nat} (hp1 : im_state e p1) {p2 np2 : Nat} (hp2 : im_book e p2 np2) (hd : 1 ≤ d) (hP : im_T g (d - 1) 239 0 [some (.ref 1793), some (vI 0), none] [] e (im_u (im_u M 1793 8 (p2 : Nat)) 1793 9 0) (im_rr (fun a4 e2 M1 => ∃ ex3 : im_E, e2 = e ++ ex3 ∧ im_state (e ++ ex3) a4 ∧ im_T g (d - 1) 107 0 [some (.ref a4), some (.ref p1)] [] (e ++ ex3) M1 (im_r0 (fun  e_ M6 => (e ++ ex3) = e_ ∧ im_T g d 238 32 [some (.ref 1793), none, none, some (vI p3), some (vI p4), some (vI 0), some (vI 0), none, none] [] (e ++ ex3) (im_u M6 2058 0 (-1)) K))))) : im_T g d 238 0 [some (.ref 1793), some (.ref p1), some (.ref p2), some (vI p3), some (vI p4), none, none, none, none] [] e M K := by
  refine im_ld (q := 1) (i := 0) D238_0 rfl rfl rfl ?_
  refine im_ld (q := 2) (i := 2) D238_1 rfl rfl rfl ?_
  refine im_pfR (q := 5) D238_2 (im_fl cn_238 fl_8_47) sf_1793 rfl rfl tR_8_8 rfl ?_
  refine im_ld (q := 6) (i := 0) D238_5 rfl rfl rfl ?_
  refine im_iconst (q := 7) D238_6 ?_
  refine im_pfI (q := 10) D238_7 (im_fl cn_238 fl_8_59) sf_1793 rfl rfl ti_8_9 (by decide) ?_
  refine im_iconst (q := 11) D238_10 ?_
  refine im_st1 (q := 13) (i := 5) (L' := [some (.ref 1793), some (.ref p1), some (.ref p2), some (vI p3), some (vI p4), some (vI 0), none, none, none]) D238_11 (Or.inr rfl) (Nat.le_of_ble_eq_true rfl) rfl ?_
  refine im_ld (q := 14) (i := 0) D238_13 rfl rfl rfl ?_
  refine im_iconst (q := 15) D238_14 ?_
  refine im_callV (q := 18) (kd := 1) (y := 239) (n := 1) (ci := 8) (a := 1793) (vs := [.ref 1793, vI 0]) (r := []) (L2 := [some (.ref 1793), some (vI 0), none]) D238_15 (im_cal cn_238 cl_8_63) (Or.inl rfl) rfl sf_1793 rfl rfl rfl rfl hd ⟨rfl, rfl, trivial⟩ ?_
  refine hP.mono ?_
  rintro _ e2 M1 ⟨a4, rfl, ex3, rfl, hP⟩
  refine im_bkS ?_
  obtain ⟨hb5, hP⟩ := hP
  refine im_ld (q := 19) (i := 1) D238_18 rfl rfl rfl ?_
  refine im_callV (q := 22) (kd := 1) (y := 107) (n := 1) (ci := 9) (a := a4) (vs := [.ref a4, .ref p1]) (r := []) (L2 := [some (.ref a4), some (.ref p1)]) D238_19 (im_cal cn_238 cl_8_67) (Or.inl rfl) rfl hb5.1 rfl rfl rfl rfl hd ⟨rfl, rfl, trivial⟩ ?_
  refine hP.mono ?_
  rintro _ e7 M6 ⟨rfl, rfl, hP⟩
  refine im_bkN ?_
  refine im_ld (q := 23) (i := 0) D238_22 rfl rfl rfl ?_
  refine im_gfR (q := 26) (b := 2058) D238_23 (im_fl cn_238 fl_8_30) sf_1793 rfl rfl tR_8_5 rfl ?_
  refine im_iconst (q := 27) D238_26 ?_
  refine im_iconst (q := 28) D238_27 ?_
  refine im_iast (q := 29) D238_28 sf_2058 (by decide) (by decide) (by decide) (by decide) ?_
  refine im_iconst (q := 30) D238_29 ?_
  refine im_st1 (q := 32) (i := 6) (L' := [some (.ref 1793), some (.ref p1), some (.ref p2), some (vI p3), some (vI p4), some (vI 0), some (vI 0), none, none]) D238_30 (Or.inr rfl) (Nat.le_of_ble_eq_true rfl) rfl ?_
  exact hP.wk ⟨rfl, rfl, rfl, rfl, rfl, trivial⟩
set_option maxRecDepth 20000 in
set_option maxHeartbeats 4000000 in
theorem k_Search_run_32 {g : im_g} {d : Nat} {e : im_E} {M : im_M} {K : im_K} {p3 p4 p5 p6 : Int} (hd : 1 ≤ d) (hP : (im_i32 p6) ∧ ((((p6 < 1200 → (im_i32 p5) ∧ ((0 ≤ p5 → im_T g (d - 1) 240 0 [some (.ref 1793), some (vI p5), none, none, none, none] [] e M (im_ri (fun x11 e9 M8 => ∃ ex10 : im_E, e9 = e ++ ex10 ∧ (im_i32 x11) ∧ ((¬ x11 = 0 → (im_i32 p4) ∧ (((M8 1793 9) < p4 → (im_i32 ((M8 1793 9) + 1)) ∧ (im_i32 (p5 + 1)) ∧ (((p5 + 1) < 128 → im_T g (d - 1) 239 0 [some (.ref 1793), some (vI (p5 + 1)), none] [] (e ++ ex10) (im_u M8 1793 9 ((M8 1793 9) + 1)) (im_rr (fun a24 e22 M21 => ∃ ex23 : im_E, e22 = (e ++ ex10) ++ ex23 ∧ im_state ((e ++ ex10) ++ ex23) a24 ∧ im_T g (d - 1) 239 0 [some (.ref 1793), some (vI p5), none] [] ((e ++ ex10) ++ ex23) M21 (im_rr (fun a29 e27 M26 => ∃ ex28 : im_E, e27 = ((e ++ ex10) ++ ex23) ++ ex28 ∧ im_state (((e ++ ex10) ++ ex23) ++ ex28) a29 ∧ im_T g (d - 1) 107 0 [some (.ref a24), some (.ref a29)] [] (((e ++ ex10) ++ ex23) ++ ex28) M26 (im_r0 (fun  e_ M31 => (((e ++ ex10) ++ ex23) ++ ex28) = e_ ∧ ∃ b34 : Nat, ((M31 1793 8) = (b34 : Int)) ∧ ∃ n37 : Nat, (im_book (((e ++ ex10) ++ ex23) ++ ex28) b34 n37) ∧ im_T g (d - 1) 108 0 [some (.ref 931), some (.ref a24), some (.ref b34), some (vI 1)] [] (((e ++ ex10) ++ ex23) ++ ex28) M31 (im_r0 (fun  e_ M38 => (((e ++ ex10) ++ ex23) ++ ex28) = e_ ∧ (0 ≤ p5 ∧ p5 < 128) ∧ ((∀ x44 : Int, (((¬ (M38 1796 p5) = (-1)) ∧ x44 = 1) ∨ (((M38 1796 p5) = (-1)) ∧ x44 = 0)) → im_T g (d - 1) 109 0 [some (.ref 931), some (vL (M38 2057 p5)), none, some (vL (M38 2057 p5)), none, some (.ref 1795), some (vI p5), some (vI x44), none, none, none] [] (((e ++ ex10) ++ ex23) ++ ex28) M38 (im_ri (fun x53 e_ M50 => (((e ++ ex10) ++ ex23) ++ ex28) = e_ ∧ (im_i32 x53) ∧ ((¬ x53 = 0 → im_T g d 238 32 [some (.ref 1793), none, none, some (vI p3), some (vI p4), some (vI p5), some (vI (p6 + 1)), none, none] [] (((e ++ ex10) ++ ex23) ++ ex28) M50 K) ∧ (x53 = 0 → im_T g (d - 1) 245 0 [some (.ref 1793), some (vI p3), none] [] (((e ++ ex10) ++ ex23) ++ ex28) M50 (im_ri (fun x59 e_ M56 => (((e ++ ex10) ++ ex23) ++ ex28) = e_ ∧ (im_i32 x59) ∧ ((x59 = 0 → (0 ≤ (p5 + 1) ∧ (p5 + 1) < 128) ∧ im_T g d 238 32 [some (.ref 1793), none, none, some (vI p3), some (vI p4), some (vI (p5 + 1)), some (vI (p6 + 1)), none, none] [] (((e ++ ex10) ++ ex23) ++ ex28) (im_u M56 2058 (p5 + 1) (-1)) K) ∧ (¬ x59 = 0 → K (.inl (some (vI 1))) (((e ++ ex10) ++ ex23) ++ ex28) (im_u M56 1795 5 (p5 + 1))))))))))))))))))))) ∧ (128 ≤ (p5 + 1) → im_T g d 238 32 [some (.ref 1793), none, none, some (vI p3), some (vI p4), some (vI p5), some (vI (p6 + 1)), none, none] [] (e ++ ex10) (im_u M8 1793 9 ((M8 1793 9) + 1)) K))) ∧ (p4 ≤ (M8 1793 9) → K (.inl (some (vI 2))) (e ++ ex10) M8))) ∧ (x11 = 0 → im_T g d 238 32 [some (.ref 1793), none, none, some (vI p3), some (vI p4), some (vI (p5 + (-1))), some (vI (p6 + 1)), none, none] [] (e ++ ex10) M8 K))))))))) ∧ ((((1200 ≤ p6)) ∨ ((p6 < 1200) ∧ (p5 < 0))) → K (.inl (some (vI 0))) e M))) : im_T g d 238 32 [some (.ref 1793), none, none, some (vI p3), some (vI p4), some (vI p5), some (vI p6), none, none] [] e M K := by
  refine im_ld (q := 34) (i := 6) D238_32 rfl rfl rfl ?_
  refine im_sipush (q := 37) D238_34 rfl ?_
  obtain ⟨hg1, hP⟩ := hP
  obtain ⟨hP, hJ5⟩ := hP
  have kJ6 : (((1200 ≤ p6)) ∨ ((p6 < 1200) ∧ (p5 < 0))) → im_T g d 238 220 [none, none, none, none, none, none, none, none, none] [] e M K := by
    intro  hx7
    have hP := hJ5  hx7
    refine im_iconst (q := 221) D238_220 ?_
    exact im_iret (q := 222) D238_221 rfl hP
  refine im_icmp (q := 40) (t := 220) D238_37 rfl hg1 (by decide) (fun hc2 => ?_) (fun hc2 => ?_)
  · exact (kJ6  (Or.inl hc2)).wk trivial
  · replace hP := hP (Int.not_le.mp hc2)
    refine im_ld (q := 42) (i := 5) D238_40 rfl rfl rfl ?_
    obtain ⟨hg3, hP⟩ := hP
    refine im_ifc (q := 45) (t := 220) D238_42 rfl hg3 (fun hc4 => ?_) (fun hc4 => ?_)
    · exact (kJ6  (Or.inr ⟨(Int.not_le.mp hc2), hc4⟩)).wk trivial
    · replace hP := hP (Int.not_lt.mp hc4)
      refine im_ld (q := 46) (i := 0) D238_45 rfl rfl rfl ?_
      refine im_ld (q := 48) (i := 5) D238_46 rfl rfl rfl ?_
      refine im_callV (q := 51) (kd := 1) (y := 240) (n := 1) (ci := 8) (a := 1793) (vs := [.ref 1793, vI p5]) (r := []) (L2 := [some (.ref 1793), some (vI p5), none, none, none, none]) D238_48 (im_cal cn_238 cl_8_71) (Or.inl rfl) rfl sf_1793 rfl rfl rfl rfl hd ⟨rfl, rfl, trivial⟩ ?_
      refine hP.mono ?_
      rintro _ e9 M8 ⟨x11, rfl, ex10, rfl, hP⟩
      refine im_bkS ?_
      obtain ⟨hg12, hP⟩ := hP
      refine im_ifc (q := 54) (t := 60) D238_51 rfl hg12 (fun hc13 => ?_) (fun hc13 => ?_)
      · replace hP := hP.1 hc13
        refine im_ld (q := 61) (i := 0) D238_60 rfl rfl rfl ?_
        refine im_rng (j := 9) sf_1793 (by decide) (by decide) (fun hr14 => ?_)
        refine im_gfI (q := 64) D238_61 (im_fl cn_238 fl_8_59) sf_1793 rfl rfl tI_8_9 rfl ?_
        refine im_ld (q := 66) (i := 4) D238_64 rfl rfl rfl ?_
        obtain ⟨hg15, hP⟩ := hP
        refine im_icmp (q := 69) (t := 71) D238_66 rfl hr14 hg15 (fun hc16 => ?_) (fun hc16 => ?_)
        · replace hP := hP.1 hc16
          refine im_ld (q := 72) (i := 0) D238_71 rfl rfl rfl ?_
          refine im_dup (q := 73) D238_72 rfl ?_
          refine im_gfI (q := 76) D238_73 (im_fl cn_238 fl_8_59) sf_1793 rfl rfl tI_8_9 rfl ?_
          refine im_iconst (q := 77) D238_76 ?_
          refine im_iadd (q := 78) D238_77 ?_
          obtain ⟨hg18, hP⟩ := hP
          refine im_pfI (q := 81) D238_78 (im_fl cn_238 fl_8_59) sf_1793 rfl rfl ti_8_9 hg18 ?_
          refine im_ld (q := 83) (i := 5) D238_81 rfl rfl rfl ?_
          refine im_iconst (q := 84) D238_83 ?_
          refine im_iadd (q := 85) D238_84 ?_
          refine im_sipush (q := 88) D238_85 rfl ?_
          obtain ⟨hg19, hP⟩ := hP
          refine im_icmp (q := 91) (t := 94) D238_88 rfl hg19 (by decide) (fun hc20 => ?_) (fun hc20 => ?_)
          · replace hP := hP.1 hc20
            refine im_ld (q := 95) (i := 0) D238_94 rfl rfl rfl ?_
            refine im_ld (q := 97) (i := 5) D238_95 rfl rfl rfl ?_
            refine im_iconst (q := 98) D238_97 ?_
            refine im_iadd (q := 99) D238_98 ?_
            refine im_callV (q := 102) (kd := 1) (y := 239) (n := 1) (ci := 8) (a := 1793) (vs := [.ref 1793, vI (p5 + 1)]) (r := []) (L2 := [some (.ref 1793), some (vI (p5 + 1)), none]) D238_99 (im_cal cn_238 cl_8_63) (Or.inl rfl) rfl sf_1793 rfl rfl rfl rfl hd ⟨rfl, rfl, trivial⟩ ?_
            refine hP.mono ?_
            rintro _ e22 M21 ⟨a24, rfl, ex23, rfl, hP⟩
            refine im_bkS ?_
            obtain ⟨hb25, hP⟩ := hP
            refine im_stR (q := 104) (i := 7) (L' := [some (.ref 1793), none, none, some (vI p3), some (vI p4), some (vI p5), some (vI p6), some (.ref a24), none]) D238_102 (Or.inr rfl) (Nat.le_of_ble_eq_true rfl) rfl ?_
            refine im_ld (q := 106) (i := 7) D238_104 rfl rfl rfl ?_
            refine im_ld (q := 107) (i := 0) D238_106 rfl rfl rfl ?_
            refine im_ld (q := 109) (i := 5) D238_107 rfl rfl rfl ?_
            refine im_callV (q := 112) (kd := 1) (y := 239) (n := 1) (ci := 8) (a := 1793) (vs := [.ref 1793, vI p5]) (r := [.ref a24]) (L2 := [some (.ref 1793), some (vI p5), none]) D238_109 (im_cal cn_238 cl_8_63) (Or.inl rfl) rfl sf_1793 rfl rfl rfl rfl hd ⟨rfl, rfl, trivial⟩ ?_
            refine hP.mono ?_
            rintro _ e27 M26 ⟨a29, rfl, ex28, rfl, hP⟩
            refine im_bkS ?_
            obtain ⟨hb30, hP⟩ := hP
            refine im_callV (q := 115) (kd := 1) (y := 107) (n := 1) (ci := 9) (a := a24) (vs := [.ref a24, .ref a29]) (r := []) (L2 := [some (.ref a24), some (.ref a29)]) D238_112 (im_cal cn_238 cl_8_67) (Or.inl rfl) rfl (im_state_x hb25).1 rfl rfl rfl rfl hd ⟨rfl, rfl, trivial⟩ ?_
            refine hP.mono ?_
            rintro _ e32 M31 ⟨rfl, rfl, hP⟩
            refine im_bkN ?_
            refine im_ld (q := 116) (i := 0) D238_115 rfl rfl rfl ?_
            refine im_gfR (q := 119) (b := 931) D238_116 (im_fl cn_238 fl_8_55) sf_1793 rfl rfl tR_8_1 rfl ?_
            refine im_ld (q := 121) (i := 7) D238_119 rfl rfl rfl ?_
            refine im_ld (q := 122) (i := 0) D238_121 rfl rfl rfl ?_
            obtain ⟨b34, hb35, hP⟩ := hP
            obtain ⟨n37, hb36, hP⟩ := hP
            refine im_gfD (q := 125) D238_122 (im_fl cn_238 fl_8_47) sf_1793 rfl rfl tR_8_8 rfl hb35 ?_
            refine im_iconst (q := 126) D238_125 ?_
            refine im_callV (q := 129) (kd := 1) (y := 108) (n := 3) (ci := 2) (a := 931) (vs := [.ref 931, .ref a24, .ref b34, vI 1]) (r := []) (L2 := [some (.ref 931), some (.ref a24), some (.ref b34), some (vI 1)]) D238_126 (im_cal cn_238 cl_8_75) (Or.inl rfl) rfl sf_931 rfl rfl rfl rfl hd ⟨rfl, rfl, rfl, rfl, trivial⟩ ?_
            refine hP.mono ?_
            rintro _ e39 M38 ⟨rfl, rfl, hP⟩
            refine im_bkN ?_
            refine im_ld (q := 130) (i := 0) D238_129 rfl rfl rfl ?_
            refine im_gfR (q := 133) (b := 1795) D238_130 (im_fl cn_238 fl_8_22) sf_1793 rfl rfl tR_8_3 rfl ?_
            refine im_gfR (q := 136) (b := 1796) D238_133 (im_fl cn_238 fl_8_81) sf_1795 rfl rfl tR_7_0 rfl ?_
            refine im_ld (q := 138) (i := 5) D238_136 rfl rfl rfl ?_
            obtain ⟨hg41, hP⟩ := hP
            refine im_rng (j := p5) sf_1796 hg41.1 hg41.2 (fun hr42 => ?_)
            refine im_iald (q := 139) D238_138 sf_1796 hg41.1 hg41.2 (by decide) rfl ?_
            refine im_iconst (q := 140) D238_139 ?_
            have hJ45 := hP
            have kJ46 : ∀ x44 : Int, (((¬ (M38 1796 p5) = (-1)) ∧ x44 = 1) ∨ (((M38 1796 p5) = (-1)) ∧ x44 = 0)) → im_T g d 238 148 [some (.ref 1793), none, none, some (vI p3), some (vI p4), some (vI p5), some (vI p6), none, none] [vI x44] (((e ++ ex10) ++ ex23) ++ ex28) M38 K := by
              intro x44 hx47
              have hP := hJ45 x44 hx47
              refine im_st1 (q := 150) (i := 8) (L' := [some (.ref 1793), none, none, some (vI p3), some (vI p4), some (vI p5), some (vI p6), none, some (vI x44)]) D238_148 (Or.inr rfl) (Nat.le_of_ble_eq_true rfl) rfl ?_
              refine im_ld (q := 151) (i := 0) D238_150 rfl rfl rfl ?_
              refine im_gfR (q := 154) (b := 931) D238_151 (im_fl cn_238 fl_8_55) sf_1793 rfl rfl tR_8_1 rfl ?_
              refine im_ld (q := 155) (i := 0) D238_154 rfl rfl rfl ?_
              refine im_gfR (q := 158) (b := 2057) D238_155 (im_fl cn_238 fl_8_26) sf_1793 rfl rfl tR_8_4 rfl ?_
              refine im_ld (q := 160) (i := 5) D238_158 rfl rfl rfl ?_
              refine im_rng (j := p5) sf_2057 hg41.1 hg41.2 (fun hr48 => ?_)
              refine im_lald (q := 161) D238_160 sf_2057 hg41.1 hg41.2 (by decide) rfl ?_
              refine im_ld (q := 162) (i := 0) D238_161 rfl rfl rfl ?_
              refine im_gfR (q := 165) (b := 2057) D238_162 (im_fl cn_238 fl_8_26) sf_1793 rfl rfl tR_8_4 rfl ?_
              refine im_ld (q := 167) (i := 5) D238_165 rfl rfl rfl ?_
              refine im_lald (q := 168) D238_167 sf_2057 hg41.1 hg41.2 (by decide) rfl ?_
              refine im_ld (q := 169) (i := 0) D238_168 rfl rfl rfl ?_
              refine im_gfR (q := 172) (b := 1795) D238_169 (im_fl cn_238 fl_8_22) sf_1793 rfl rfl tR_8_3 rfl ?_
              refine im_ld (q := 174) (i := 5) D238_172 rfl rfl rfl ?_
              refine im_ld (q := 176) (i := 8) D238_174 rfl rfl rfl ?_
              refine im_callV (q := 179) (kd := 1) (y := 109) (n := 5) (ci := 2) (a := 931) (vs := [.ref 931, vL (M38 2057 p5), vL (M38 2057 p5), .ref 1795, vI p5, vI x44]) (r := []) (L2 := [some (.ref 931), some (vL (M38 2057 p5)), none, some (vL (M38 2057 p5)), none, some (.ref 1795), some (vI p5), some (vI x44), none, none, none]) D238_176 (im_cal cn_238 cl_8_84) (Or.inl rfl) rfl sf_931 rfl rfl rfl rfl hd ⟨rfl, rfl, rfl, rfl, rfl, rfl, trivial⟩ ?_
              refine hP.mono ?_
              rintro _ e51 M50 ⟨x53, rfl, rfl, hP⟩
              refine im_bkS ?_
              obtain ⟨hg54, hP⟩ := hP
              refine im_ifc (q := 182) (t := 214) D238_179 rfl hg54 (fun hc55 => ?_) (fun hc55 => ?_)
              · replace hP := hP.1 hc55
                refine im_iinc (q := 217) (i := 6) (L' := [some (.ref 1793), none, none, some (vI p3), some (vI p4), some (vI p5), some (vI (p6 + 1)), none, some (vI x44)]) D238_214 rfl (Nat.le_of_ble_eq_true rfl) rfl ?_
                refine im_goto (q := 220) (t := 32) D238_217 rfl ?_
                exact hP.wk ⟨rfl, rfl, rfl, rfl, rfl, trivial⟩
              · replace hP := hP.2 (Decidable.not_not.mp hc55)
                refine im_ld (q := 183) (i := 0) D238_182 rfl rfl rfl ?_
                refine im_ld (q := 184) (i := 3) D238_183 rfl rfl rfl ?_
                refine im_callV (q := 187) (kd := 1) (y := 245) (n := 1) (ci := 8) (a := 1793) (vs := [.ref 1793, vI p3]) (r := []) (L2 := [some (.ref 1793), some (vI p3), none]) D238_184 (im_cal cn_238 cl_8_88) (Or.inl rfl) rfl sf_1793 rfl rfl rfl rfl hd ⟨rfl, rfl, trivial⟩ ?_
                refine hP.mono ?_
                rintro _ e57 M56 ⟨x59, rfl, rfl, hP⟩
                refine im_bkS ?_
                obtain ⟨hg60, hP⟩ := hP
                refine im_ifc (q := 190) (t := 203) D238_187 rfl hg60 (fun hc61 => ?_) (fun hc61 => ?_)
                · replace hP := hP.1 hc61
                  refine im_iinc (q := 206) (i := 5) (L' := [some (.ref 1793), none, none, some (vI p3), some (vI p4), some (vI (p5 + 1)), some (vI p6), none, some (vI x44)]) D238_203 rfl (Nat.le_of_ble_eq_true rfl) rfl ?_
                  refine im_ld (q := 207) (i := 0) D238_206 rfl rfl rfl ?_
                  refine im_gfR (q := 210) (b := 2058) D238_207 (im_fl cn_238 fl_8_30) sf_1793 rfl rfl tR_8_5 rfl ?_
                  refine im_ld (q := 212) (i := 5) D238_210 rfl rfl rfl ?_
                  refine im_iconst (q := 213) D238_212 ?_
                  obtain ⟨hg62, hP⟩ := hP
                  refine im_iast (q := 214) D238_213 sf_2058 hg62.1 hg62.2 (by decide) (by decide) ?_
                  refine im_iinc (q := 217) (i := 6) (L' := [some (.ref 1793), none, none, some (vI p3), some (vI p4), some (vI (p5 + 1)), some (vI (p6 + 1)), none, some (vI x44)]) D238_214 rfl (Nat.le_of_ble_eq_true rfl) rfl ?_
                  refine im_goto (q := 220) (t := 32) D238_217 rfl ?_
                  exact hP.wk ⟨rfl, rfl, rfl, rfl, rfl, trivial⟩
                · replace hP := hP.2 hc61
                  refine im_ld (q := 191) (i := 0) D238_190 rfl rfl rfl ?_
                  refine im_gfR (q := 194) (b := 1795) D238_191 (im_fl cn_238 fl_8_22) sf_1793 rfl rfl tR_8_3 rfl ?_
                  refine im_ld (q := 196) (i := 5) D238_194 rfl rfl rfl ?_
                  refine im_iconst (q := 197) D238_196 ?_
                  refine im_iadd (q := 198) D238_197 ?_
                  refine im_pfI (q := 201) D238_198 (im_fl cn_238 fl_8_91) sf_1795 rfl rfl ti_7_5 hg19 ?_
                  refine im_iconst (q := 202) D238_201 ?_
                  exact im_iret (q := 203) D238_202 rfl hP
            refine im_icmp (q := 143) (t := 147) D238_140 rfl hr42 (by decide) (fun hc43 => ?_) (fun hc43 => ?_)
            · refine im_iconst (q := 148) D238_147 ?_
              exact (kJ46 (1) (Or.inl ⟨hc43, rfl⟩)).wk ⟨rfl, rfl, rfl, rfl, rfl, trivial⟩
            · refine im_iconst (q := 144) D238_143 ?_
              refine im_goto (q := 147) (t := 148) D238_144 rfl ?_
              exact (kJ46 (0) (Or.inr ⟨(Decidable.not_not.mp hc43), rfl⟩)).wk ⟨rfl, rfl, rfl, rfl, rfl, trivial⟩
          · replace hP := hP.2 (Int.not_lt.mp hc20)
            refine im_goto (q := 94) (t := 214) D238_91 rfl ?_
            refine im_iinc (q := 217) (i := 6) (L' := [some (.ref 1793), none, none, some (vI p3), some (vI p4), some (vI p5), some (vI (p6 + 1)), none, none]) D238_214 rfl (Nat.le_of_ble_eq_true rfl) rfl ?_
            refine im_goto (q := 220) (t := 32) D238_217 rfl ?_
            exact hP.wk ⟨rfl, rfl, rfl, rfl, rfl, trivial⟩
        · replace hP := hP.2 (Int.not_lt.mp hc16)
          refine im_iconst (q := 70) D238_69 ?_
          exact im_iret (q := 71) D238_70 rfl hP
      · replace hP := hP.2 (Decidable.not_not.mp hc13)
        refine im_iinc (q := 57) (i := 5) (L' := [some (.ref 1793), none, none, some (vI p3), some (vI p4), some (vI (p5 + (-1))), some (vI p6), none, none]) D238_54 rfl (Nat.le_of_ble_eq_true rfl) rfl ?_
        refine im_goto (q := 60) (t := 214) D238_57 rfl ?_
        refine im_iinc (q := 217) (i := 6) (L' := [some (.ref 1793), none, none, some (vI p3), some (vI p4), some (vI (p5 + (-1))), some (vI (p6 + 1)), none, none]) D238_214 rfl (Nat.le_of_ble_eq_true rfl) rfl ?_
        refine im_goto (q := 220) (t := 32) D238_217 rfl ?_
        exact hP.wk ⟨rfl, rfl, rfl, rfl, rfl, trivial⟩
set_option maxRecDepth 20000 in
set_option maxHeartbeats 4000000 in
theorem k_Search_propose_0 {g : im_g} {d : Nat} {e : im_E} {M : im_M} {K : im_K} {p1 : Int} (hd : 1 ≤ d) (hP : im_T g (d - 1) 239 0 [some (.ref 1793), some (vI p1), none] [] e M (im_rr (fun a4 e2 M1 => ∃ ex3 : im_E, e2 = e ++ ex3 ∧ im_state (e ++ ex3) a4 ∧ ∃ b6 : Nat, ((M1 1793 8) = (b6 : Int)) ∧ ∃ n9 : Nat, (im_book (e ++ ex3) b6 n9) ∧ im_T g (d - 1) 108 0 [some (.ref 931), some (.ref a4), some (.ref b6), some (vI 1)] [] (e ++ ex3) M1 (im_r0 (fun  e_ M10 => (e ++ ex3) = e_ ∧ (0 ≤ p1 ∧ p1 < 128) ∧ ((¬ (M10 2058 p1) = (-1) → im_T g d 240 98 [some (.ref 1793), some (vI p1), some (.ref a4), some (vI 0), none, none] [] (e ++ ex3) M10 K) ∧ ((M10 2058 p1) = (-1) → im_T g (d - 1) 112 0 [some (.ref 931), some (vL ((im_u M10 2058 p1 (-2)) a4 4)), none, none] [] (e ++ ex3) (im_u M10 2058 p1 (-2)) (im_ri (fun x20 e_ M17 => (e ++ ex3) = e_ ∧ (im_i32 x20) ∧ ((¬ x20 = 0 → (0 ≤ (M17 a4 5) ∧ (M17 a4 5) < 5000) ∧ ((¬ (M17 14 (M17 a4 5)) = 3 → im_T g d 240 98 [some (.ref 1793), some (vI p1), some (.ref a4), some (vI 0), none, none] [] (e ++ ex3) M17 K) ∧ ((M17 14 (M17 a4 5)) = 3 → (im_i32 ((M17 a4 5) + 1)) ∧ im_T g d 240 98 [some (.ref 1793), some (vI p1), some (.ref a4), some (vI 0), none, none] [] (e ++ ex3) (im_u (im_u M17 2058 p1 ((M17 a4 5) + 1)) 2059 p1 0) K))) ∧ (x20 = 0 → im_T g (d - 1) 241 0 [some (.ref 1793), some (vI p1), some (vL (M17 a4 4)), none] [] (e ++ ex3) M17 (im_ri (fun x33 e_ M30 => (e ++ ex3) = e_ ∧ (0 ≤ x33 ∧ x33 ≤ 1) ∧ K (.inl (some (vI x33))) (e ++ ex3) M30))))))))))))) : im_T g d 240 0 [some (.ref 1793), some (vI p1), none, none, none, none] [] e M K := by
  refine im_ld (q := 1) (i := 0) D240_0 rfl rfl rfl ?_
  refine im_ld (q := 2) (i := 1) D240_1 rfl rfl rfl ?_
  refine im_callV (q := 5) (kd := 1) (y := 239) (n := 1) (ci := 8) (a := 1793) (vs := [.ref 1793, vI p1]) (r := []) (L2 := [some (.ref 1793), some (vI p1), none]) D240_2 (im_cal cn_240 cl_8_63) (Or.inl rfl) rfl sf_1793 rfl rfl rfl rfl hd ⟨rfl, rfl, trivial⟩ ?_
  refine hP.mono ?_
  rintro _ e2 M1 ⟨a4, rfl, ex3, rfl, hP⟩
  refine im_bkS ?_
  obtain ⟨hb5, hP⟩ := hP
  refine im_stR (q := 6) (i := 2) (L' := [some (.ref 1793), some (vI p1), some (.ref a4), none, none, none]) D240_5 (Or.inl ⟨_, rfl, rfl⟩) (Nat.le_of_ble_eq_true rfl) rfl ?_
  refine im_ld (q := 7) (i := 0) D240_6 rfl rfl rfl ?_
  refine im_gfR (q := 10) (b := 931) D240_7 (im_fl cn_240 fl_8_55) sf_1793 rfl rfl tR_8_1 rfl ?_
  refine im_ld (q := 11) (i := 2) D240_10 rfl rfl rfl ?_
  refine im_ld (q := 12) (i := 0) D240_11 rfl rfl rfl ?_
  obtain ⟨b6, hb7, hP⟩ := hP
  obtain ⟨n9, hb8, hP⟩ := hP
  refine im_gfD (q := 15) D240_12 (im_fl cn_240 fl_8_47) sf_1793 rfl rfl tR_8_8 rfl hb7 ?_
  refine im_iconst (q := 16) D240_15 ?_
  refine im_callV (q := 19) (kd := 1) (y := 108) (n := 3) (ci := 2) (a := 931) (vs := [.ref 931, .ref a4, .ref b6, vI 1]) (r := []) (L2 := [some (.ref 931), some (.ref a4), some (.ref b6), some (vI 1)]) D240_16 (im_cal cn_240 cl_8_75) (Or.inl rfl) rfl sf_931 rfl rfl rfl rfl hd ⟨rfl, rfl, rfl, rfl, trivial⟩ ?_
  refine hP.mono ?_
  rintro _ e11 M10 ⟨rfl, rfl, hP⟩
  refine im_bkN ?_
  refine im_ld (q := 20) (i := 0) D240_19 rfl rfl rfl ?_
  refine im_gfR (q := 23) (b := 2058) D240_20 (im_fl cn_240 fl_8_30) sf_1793 rfl rfl tR_8_5 rfl ?_
  refine im_ld (q := 24) (i := 1) D240_23 rfl rfl rfl ?_
  obtain ⟨hg13, hP⟩ := hP
  refine im_rng (j := p1) sf_2058 hg13.1 hg13.2 (fun hr14 => ?_)
  refine im_iald (q := 25) D240_24 sf_2058 hg13.1 hg13.2 (by decide) rfl ?_
  refine im_iconst (q := 26) D240_25 ?_
  refine im_icmp (q := 29) (t := 96) D240_26 rfl hr14 (by decide) (fun hc15 => ?_) (fun hc15 => ?_)
  · replace hP := hP.1 hc15
    refine im_iconst (q := 97) D240_96 ?_
    refine im_st1 (q := 98) (i := 3) (L' := [some (.ref 1793), some (vI p1), some (.ref a4), some (vI 0), none, none]) D240_97 (Or.inl ⟨_, rfl, rfl⟩) (Nat.le_of_ble_eq_true rfl) rfl ?_
    exact hP.wk ⟨rfl, rfl, rfl, rfl, trivial⟩
  · replace hP := hP.2 (Decidable.not_not.mp hc15)
    refine im_ld (q := 30) (i := 0) D240_29 rfl rfl rfl ?_
    refine im_gfR (q := 33) (b := 2058) D240_30 (im_fl cn_240 fl_8_30) sf_1793 rfl rfl tR_8_5 rfl ?_
    refine im_ld (q := 34) (i := 1) D240_33 rfl rfl rfl ?_
    refine im_bipush (q := 36) D240_34 rfl ?_
    refine im_iast (q := 37) D240_36 sf_2058 hg13.1 hg13.2 (by decide) (by decide) ?_
    refine im_ld (q := 38) (i := 0) D240_37 rfl rfl rfl ?_
    refine im_gfR (q := 41) (b := 931) D240_38 (im_fl cn_240 fl_8_55) sf_1793 rfl rfl tR_8_1 rfl ?_
    refine im_ld (q := 42) (i := 2) D240_41 rfl rfl rfl ?_
    refine im_rng (j := 4) hb5.1 (by decide) (show (4 : Int) < ((7 : Nat) : Int) by decide) (fun hr16 => ?_)
    refine im_gfL (q := 45) D240_42 (im_fl cn_240 fl_8_98) hb5.1 rfl rfl tL_9_4 rfl ?_
    refine im_callV (q := 48) (kd := 1) (y := 112) (n := 1) (ci := 2) (a := 931) (vs := [.ref 931, vL ((im_u M10 2058 p1 (-2)) a4 4)]) (r := []) (L2 := [some (.ref 931), some (vL ((im_u M10 2058 p1 (-2)) a4 4)), none, none]) D240_45 (im_cal cn_240 cl_8_102) (Or.inl rfl) rfl sf_931 rfl rfl rfl rfl hd ⟨rfl, rfl, trivial⟩ ?_
    refine hP.mono ?_
    rintro _ e18 M17 ⟨x20, rfl, rfl, hP⟩
    refine im_bkS ?_
    obtain ⟨hg21, hP⟩ := hP
    refine im_ifc (q := 51) (t := 61) D240_48 rfl hg21 (fun hc22 => ?_) (fun hc22 => ?_)
    · replace hP := hP.1 hc22
      refine im_ld (q := 62) (i := 0) D240_61 rfl rfl rfl ?_
      refine im_gfR (q := 65) (b := 13) D240_62 (im_fl cn_240 fl_8_51) sf_1793 rfl rfl tR_8_0 rfl ?_
      refine im_gfR (q := 68) (b := 14) D240_65 (im_fl cn_240 fl_8_110) sf_13 rfl rfl tR_5_0 rfl ?_
      refine im_ld (q := 69) (i := 2) D240_68 rfl rfl rfl ?_
      refine im_rng (j := 5) hb5.1 (by decide) (show (5 : Int) < ((7 : Nat) : Int) by decide) (fun hr23 => ?_)
      refine im_gfI (q := 72) D240_69 (im_fl cn_240 fl_8_113) hb5.1 rfl rfl tI_9_5 rfl ?_
      obtain ⟨hg24, hP⟩ := hP
      refine im_rng (j := (M17 a4 5)) sf_14 hg24.1 hg24.2 (fun hr25 => ?_)
      refine im_iald (q := 73) D240_72 sf_14 hg24.1 hg24.2 (by decide) rfl ?_
      refine im_iconst (q := 74) D240_73 ?_
      refine im_icmp (q := 77) (t := 96) D240_74 rfl hr25 (by decide) (fun hc26 => ?_) (fun hc26 => ?_)
      · replace hP := hP.1 hc26
        refine im_iconst (q := 97) D240_96 ?_
        refine im_st1 (q := 98) (i := 3) (L' := [some (.ref 1793), some (vI p1), some (.ref a4), some (vI 0), none, none]) D240_97 (Or.inl ⟨_, rfl, rfl⟩) (Nat.le_of_ble_eq_true rfl) rfl ?_
        exact hP.wk ⟨rfl, rfl, rfl, rfl, trivial⟩
      · replace hP := hP.2 (Decidable.not_not.mp hc26)
        refine im_ld (q := 78) (i := 0) D240_77 rfl rfl rfl ?_
        refine im_gfR (q := 81) (b := 2058) D240_78 (im_fl cn_240 fl_8_30) sf_1793 rfl rfl tR_8_5 rfl ?_
        refine im_ld (q := 82) (i := 1) D240_81 rfl rfl rfl ?_
        refine im_ld (q := 83) (i := 2) D240_82 rfl rfl rfl ?_
        refine im_gfI (q := 86) D240_83 (im_fl cn_240 fl_8_113) hb5.1 rfl rfl tI_9_5 rfl ?_
        refine im_iconst (q := 87) D240_86 ?_
        refine im_iadd (q := 88) D240_87 ?_
        obtain ⟨hg29, hP⟩ := hP
        refine im_iast (q := 89) D240_88 sf_2058 hg13.1 hg13.2 (by decide) hg29 ?_
        refine im_ld (q := 90) (i := 0) D240_89 rfl rfl rfl ?_
        refine im_gfR (q := 93) (b := 2059) D240_90 (im_fl cn_240 fl_8_34) sf_1793 rfl rfl tR_8_6 rfl ?_
        refine im_ld (q := 94) (i := 1) D240_93 rfl rfl rfl ?_
        refine im_iconst (q := 95) D240_94 ?_
        refine im_iast (q := 96) D240_95 sf_2059 hg13.1 hg13.2 (by decide) (by decide) ?_
        refine im_iconst (q := 97) D240_96 ?_
        refine im_st1 (q := 98) (i := 3) (L' := [some (.ref 1793), some (vI p1), some (.ref a4), some (vI 0), none, none]) D240_97 (Or.inl ⟨_, rfl, rfl⟩) (Nat.le_of_ble_eq_true rfl) rfl ?_
        exact hP.wk ⟨rfl, rfl, rfl, rfl, trivial⟩
    · replace hP := hP.2 (Decidable.not_not.mp hc22)
      refine im_ld (q := 52) (i := 0) D240_51 rfl rfl rfl ?_
      refine im_ld (q := 53) (i := 1) D240_52 rfl rfl rfl ?_
      refine im_ld (q := 54) (i := 2) D240_53 rfl rfl rfl ?_
      refine im_rng (j := 4) hb5.1 (by decide) (show (4 : Int) < ((7 : Nat) : Int) by decide) (fun hr28 => ?_)
      refine im_gfL (q := 57) D240_54 (im_fl cn_240 fl_8_98) hb5.1 rfl rfl tL_9_4 rfl ?_
      refine im_callV (q := 60) (kd := 1) (y := 241) (n := 2) (ci := 8) (a := 1793) (vs := [.ref 1793, vI p1, vL (M17 a4 4)]) (r := []) (L2 := [some (.ref 1793), some (vI p1), some (vL (M17 a4 4)), none]) D240_57 (im_cal cn_240 cl_8_106) (Or.inl rfl) rfl sf_1793 rfl rfl rfl rfl hd ⟨rfl, rfl, rfl, trivial⟩ ?_
      refine hP.mono ?_
      rintro _ e31 M30 ⟨x33, rfl, rfl, hP⟩
      refine im_bkS ?_
      obtain ⟨hg34, hP⟩ := hP
      exact im_zret (q := 61) D240_60 rfl hg34 hP
set_option maxRecDepth 20000 in
set_option maxHeartbeats 4000000 in
theorem k_Search_propose_98 {g : im_g} {d : Nat} {e : im_E} {M : im_M} {K : im_K} {p1 p3 : Int} {p2 : Nat} (hp2 : im_state e p2) (hd : 1 ≤ d) (hP : (im_i32 p3) ∧ ((((p3 < 100 → (0 ≤ p1 ∧ p1 < 128) ∧ ((¬ (M 2058 p1) = (-2) → im_T g (d - 1) 116 0 [some (.ref 13), some (vI (M 2058 p1))] [] e M (im_ri (fun x13 e_ M10 => e = e_ ∧ (im_i32 x13) ∧ ((¬ x13 = 0 → (0 ≤ (M 2058 p1) ∧ (M 2058 p1) < 5000) ∧ ((¬ (M10 14 (M 2058 p1)) = 29 → im_T g (d - 1) 244 0 [some (.ref 1793), some (vI p1), some (vI (M 2058 p1)), none] [] e (im_u M10 2057 p1 (M10 p2 4)) (im_ri (fun x23 e_ M20 => e = e_ ∧ (im_i32 x23) ∧ ((x23 = 0 → im_T g d 240 98 [some (.ref 1793), some (vI p1), some (.ref p2), some (vI (p3 + 1)), none, none] [] e M20 K) ∧ (¬ x23 = 0 → K (.inl (some (vI 1))) e M20))))) ∧ ((M10 14 (M 2058 p1)) = 29 → im_T g (d - 1) 242 0 [some (.ref 1793), some (vI p1), some (vI (M 2058 p1)), none] [] e (im_u M10 2057 p1 (M10 p2 4)) (im_ri (fun x29 e_ M26 => e = e_ ∧ (im_i32 x29) ∧ ((x29 = 0 → im_T g d 240 98 [some (.ref 1793), some (vI p1), some (.ref p2), some (vI (p3 + 1)), none, none] [] e M26 K) ∧ (¬ x29 = 0 → K (.inl (some (vI 1))) e M26))))))) ∧ (x13 = 0 → im_T g (d - 1) 113 0 [some (.ref 931), some (vI ((im_u M10 2058 p1 (-2)) p2 5)), none, none] [] e (im_u M10 2058 p1 (-2)) (im_rl (fun x36 e_ M33 => e = e_ ∧ im_T g (d - 1) 241 0 [some (.ref 1793), some (vI p1), some (vL x36), none] [] e M33 (im_ri (fun x40 e_ M37 => e = e_ ∧ (0 ≤ x40 ∧ x40 ≤ 1) ∧ K (.inl (some (vI x40))) e M37))))))))))))) ∧ ((((100 ≤ p3)) ∨ ((p3 < 100) ∧ ((M 2058 p1) = (-2)))) → K (.inl (some (vI 0))) e M))) : im_T g d 240 98 [some (.ref 1793), some (vI p1), some (.ref p2), some (vI p3), none, none] [] e M K := by
  refine im_ld (q := 99) (i := 3) D240_98 rfl rfl rfl ?_
  refine im_bipush (q := 101) D240_99 rfl ?_
  obtain ⟨hg1, hP⟩ := hP
  obtain ⟨hP, hJ7⟩ := hP
  have kJ8 : (((100 ≤ p3)) ∨ ((p3 < 100) ∧ ((M 2058 p1) = (-2)))) → im_T g d 240 217 [none, none, none, none, none, none] [] e M K := by
    intro  hx9
    have hP := hJ7  hx9
    refine im_iconst (q := 218) D240_217 ?_
    exact im_zret (q := 219) D240_218 rfl (by decide) hP
  refine im_icmp (q := 104) (t := 217) D240_101 rfl hg1 (by decide) (fun hc2 => ?_) (fun hc2 => ?_)
  · exact (kJ8  (Or.inl hc2)).wk trivial
  · replace hP := hP (Int.not_le.mp hc2)
    refine im_ld (q := 105) (i := 0) D240_104 rfl rfl rfl ?_
    refine im_gfR (q := 108) (b := 2058) D240_105 (im_fl cn_240 fl_8_30) sf_1793 rfl rfl tR_8_5 rfl ?_
    refine im_ld (q := 109) (i := 1) D240_108 rfl rfl rfl ?_
    obtain ⟨hg3, hP⟩ := hP
    refine im_rng (j := p1) sf_2058 hg3.1 hg3.2 (fun hr4 => ?_)
    refine im_iald (q := 110) D240_109 sf_2058 hg3.1 hg3.2 (by decide) rfl ?_
    refine im_bipush (q := 112) D240_110 rfl ?_
    refine im_icmp (q := 115) (t := 217) D240_112 rfl hr4 (by decide) (fun hc5 => ?_) (fun hc5 => ?_)
    · exact (kJ8  (Or.inr ⟨(Int.not_le.mp hc2), hc5⟩)).wk trivial
    · replace hP := hP hc5
      refine im_ld (q := 116) (i := 0) D240_115 rfl rfl rfl ?_
      refine im_gfR (q := 119) (b := 2058) D240_116 (im_fl cn_240 fl_8_30) sf_1793 rfl rfl tR_8_5 rfl ?_
      refine im_ld (q := 120) (i := 1) D240_119 rfl rfl rfl ?_
      refine im_iald (q := 121) D240_120 sf_2058 hg3.1 hg3.2 (by decide) rfl ?_
      refine im_st1 (q := 123) (i := 4) (L' := [some (.ref 1793), some (vI p1), some (.ref p2), some (vI p3), some (vI (M 2058 p1)), none]) D240_121 (Or.inr rfl) (Nat.le_of_ble_eq_true rfl) rfl ?_
      refine im_ld (q := 124) (i := 0) D240_123 rfl rfl rfl ?_
      refine im_gfR (q := 127) (b := 13) D240_124 (im_fl cn_240 fl_8_51) sf_1793 rfl rfl tR_8_0 rfl ?_
      refine im_ld (q := 129) (i := 4) D240_127 rfl rfl rfl ?_
      refine im_callV (q := 132) (kd := 1) (y := 116) (n := 1) (ci := 5) (a := 13) (vs := [.ref 13, vI (M 2058 p1)]) (r := []) (L2 := [some (.ref 13), some (vI (M 2058 p1))]) D240_129 (im_cal cn_240 cl_8_116) (Or.inl rfl) rfl sf_13 rfl rfl rfl rfl hd ⟨rfl, rfl, trivial⟩ ?_
      refine hP.mono ?_
      rintro _ e11 M10 ⟨x13, rfl, rfl, hP⟩
      refine im_bkS ?_
      obtain ⟨hg14, hP⟩ := hP
      refine im_ifc (q := 135) (t := 160) D240_132 rfl hg14 (fun hc15 => ?_) (fun hc15 => ?_)
      · replace hP := hP.1 hc15
        refine im_ld (q := 161) (i := 0) D240_160 rfl rfl rfl ?_
        refine im_gfR (q := 164) (b := 2057) D240_161 (im_fl cn_240 fl_8_26) sf_1793 rfl rfl tR_8_4 rfl ?_
        refine im_ld (q := 165) (i := 1) D240_164 rfl rfl rfl ?_
        refine im_ld (q := 166) (i := 2) D240_165 rfl rfl rfl ?_
        refine im_rng (j := 4) hp2.1 (by decide) (show (4 : Int) < ((7 : Nat) : Int) by decide) (fun hr16 => ?_)
        refine im_gfL (q := 169) D240_166 (im_fl cn_240 fl_8_98) hp2.1 rfl rfl tL_9_4 rfl ?_
        refine im_last (q := 170) D240_169 sf_2057 hg3.1 hg3.2 (by decide) hr16 ?_
        refine im_ld (q := 171) (i := 0) D240_170 rfl rfl rfl ?_
        refine im_gfR (q := 174) (b := 13) D240_171 (im_fl cn_240 fl_8_51) sf_1793 rfl rfl tR_8_0 rfl ?_
        refine im_gfR (q := 177) (b := 14) D240_174 (im_fl cn_240 fl_8_110) sf_13 rfl rfl tR_5_0 rfl ?_
        refine im_ld (q := 179) (i := 4) D240_177 rfl rfl rfl ?_
        obtain ⟨hg17, hP⟩ := hP
        refine im_rng (j := (M 2058 p1)) sf_14 hg17.1 hg17.2 (fun hr18 => ?_)
        refine im_iald (q := 180) D240_179 sf_14 hg17.1 hg17.2 (by decide) (im_rdn _ _ _ _ (by decide)) ?_
        refine im_bipush (q := 182) D240_180 rfl ?_
        refine im_icmp (q := 185) (t := 195) D240_182 rfl (im_rgc hr18 (im_rdn _ _ _ _ (by decide))) (by decide) (fun hc19 => ?_) (fun hc19 => ?_)
        · replace hP := hP.1 hc19
          refine im_ld (q := 196) (i := 0) D240_195 rfl rfl rfl ?_
          refine im_ld (q := 197) (i := 1) D240_196 rfl rfl rfl ?_
          refine im_ld (q := 199) (i := 4) D240_197 rfl rfl rfl ?_
          refine im_callV (q := 202) (kd := 1) (y := 244) (n := 2) (ci := 8) (a := 1793) (vs := [.ref 1793, vI p1, vI (M 2058 p1)]) (r := []) (L2 := [some (.ref 1793), some (vI p1), some (vI (M 2058 p1)), none]) D240_199 (im_cal cn_240 cl_8_127) (Or.inl rfl) rfl sf_1793 rfl rfl rfl rfl hd ⟨rfl, rfl, rfl, trivial⟩ ?_
          refine hP.mono ?_
          rintro _ e21 M20 ⟨x23, rfl, rfl, hP⟩
          refine im_bkS ?_
          refine im_st1 (q := 204) (i := 5) (L' := [some (.ref 1793), some (vI p1), some (.ref p2), some (vI p3), some (vI (M 2058 p1)), some (vI x23)]) D240_202 (Or.inr rfl) (Nat.le_of_ble_eq_true rfl) rfl ?_
          refine im_ld (q := 206) (i := 5) D240_204 rfl rfl rfl ?_
          obtain ⟨hg24, hP⟩ := hP
          refine im_ifc (q := 209) (t := 211) D240_206 rfl hg24 (fun hc25 => ?_) (fun hc25 => ?_)
          · replace hP := hP.1 hc25
            refine im_iinc (q := 214) (i := 3) (L' := [some (.ref 1793), some (vI p1), some (.ref p2), some (vI (p3 + 1)), some (vI (M 2058 p1)), some (vI x23)]) D240_211 rfl (Nat.le_of_ble_eq_true rfl) rfl ?_
            refine im_goto (q := 217) (t := 98) D240_214 rfl ?_
            exact hP.wk ⟨rfl, rfl, rfl, rfl, trivial⟩
          · replace hP := hP.2 hc25
            refine im_iconst (q := 210) D240_209 ?_
            exact im_zret (q := 211) D240_210 rfl (by decide) hP
        · replace hP := hP.2 (Decidable.not_not.mp hc19)
          refine im_ld (q := 186) (i := 0) D240_185 rfl rfl rfl ?_
          refine im_ld (q := 187) (i := 1) D240_186 rfl rfl rfl ?_
          refine im_ld (q := 189) (i := 4) D240_187 rfl rfl rfl ?_
          refine im_callV (q := 192) (kd := 1) (y := 242) (n := 2) (ci := 8) (a := 1793) (vs := [.ref 1793, vI p1, vI (M 2058 p1)]) (r := []) (L2 := [some (.ref 1793), some (vI p1), some (vI (M 2058 p1)), none]) D240_189 (im_cal cn_240 cl_8_123) (Or.inl rfl) rfl sf_1793 rfl rfl rfl rfl hd ⟨rfl, rfl, rfl, trivial⟩ ?_
          refine hP.mono ?_
          rintro _ e27 M26 ⟨x29, rfl, rfl, hP⟩
          refine im_bkS ?_
          refine im_goto (q := 195) (t := 202) D240_192 rfl ?_
          refine im_st1 (q := 204) (i := 5) (L' := [some (.ref 1793), some (vI p1), some (.ref p2), some (vI p3), some (vI (M 2058 p1)), some (vI x29)]) D240_202 (Or.inr rfl) (Nat.le_of_ble_eq_true rfl) rfl ?_
          refine im_ld (q := 206) (i := 5) D240_204 rfl rfl rfl ?_
          obtain ⟨hg30, hP⟩ := hP
          refine im_ifc (q := 209) (t := 211) D240_206 rfl hg30 (fun hc31 => ?_) (fun hc31 => ?_)
          · replace hP := hP.1 hc31
            refine im_iinc (q := 214) (i := 3) (L' := [some (.ref 1793), some (vI p1), some (.ref p2), some (vI (p3 + 1)), some (vI (M 2058 p1)), some (vI x29)]) D240_211 rfl (Nat.le_of_ble_eq_true rfl) rfl ?_
            refine im_goto (q := 217) (t := 98) D240_214 rfl ?_
            exact hP.wk ⟨rfl, rfl, rfl, rfl, trivial⟩
          · replace hP := hP.2 hc31
            refine im_iconst (q := 210) D240_209 ?_
            exact im_zret (q := 211) D240_210 rfl (by decide) hP
      · replace hP := hP.2 (Decidable.not_not.mp hc15)
        refine im_ld (q := 136) (i := 0) D240_135 rfl rfl rfl ?_
        refine im_gfR (q := 139) (b := 2058) D240_136 (im_fl cn_240 fl_8_30) sf_1793 rfl rfl tR_8_5 rfl ?_
        refine im_ld (q := 140) (i := 1) D240_139 rfl rfl rfl ?_
        refine im_bipush (q := 142) D240_140 rfl ?_
        refine im_iast (q := 143) D240_142 sf_2058 hg3.1 hg3.2 (by decide) (by decide) ?_
        refine im_ld (q := 144) (i := 0) D240_143 rfl rfl rfl ?_
        refine im_ld (q := 145) (i := 1) D240_144 rfl rfl rfl ?_
        refine im_ld (q := 146) (i := 0) D240_145 rfl rfl rfl ?_
        refine im_gfR (q := 149) (b := 931) D240_146 (im_fl cn_240 fl_8_55) sf_1793 rfl rfl tR_8_1 rfl ?_
        refine im_ld (q := 150) (i := 2) D240_149 rfl rfl rfl ?_
        refine im_rng (j := 5) hp2.1 (by decide) (show (5 : Int) < ((7 : Nat) : Int) by decide) (fun hr32 => ?_)
        refine im_gfI (q := 153) D240_150 (im_fl cn_240 fl_8_113) hp2.1 rfl rfl tI_9_5 rfl ?_
        refine im_callV (q := 156) (kd := 1) (y := 113) (n := 1) (ci := 2) (a := 931) (vs := [.ref 931, vI ((im_u M10 2058 p1 (-2)) p2 5)]) (r := [vI p1, .ref 1793]) (L2 := [some (.ref 931), some (vI ((im_u M10 2058 p1 (-2)) p2 5)), none, none]) D240_153 (im_cal cn_240 cl_8_119) (Or.inl rfl) rfl sf_931 rfl rfl rfl rfl hd ⟨rfl, rfl, trivial⟩ ?_
        refine hP.mono ?_
        rintro _ e34 M33 ⟨x36, rfl, rfl, hP⟩
        refine im_bkS ?_
        refine im_callV (q := 159) (kd := 1) (y := 241) (n := 2) (ci := 8) (a := 1793) (vs := [.ref 1793, vI p1, vL x36]) (r := []) (L2 := [some (.ref 1793), some (vI p1), some (vL x36), none]) D240_156 (im_cal cn_240 cl_8_106) (Or.inl rfl) rfl sf_1793 rfl rfl rfl rfl hd ⟨rfl, rfl, rfl, trivial⟩ ?_
        refine hP.mono ?_
        rintro _ e38 M37 ⟨x40, rfl, rfl, hP⟩
        refine im_bkS ?_
        obtain ⟨hg41, hP⟩ := hP
        exact im_zret (q := 160) D240_159 rfl hg41 hP
set_option maxRecDepth 20000 in
set_option maxHeartbeats 4000000 in
theorem k_Search_proposeWait_0 {g : im_g} {d : Nat} {e : im_E} {M : im_M} {K : im_K} {p1 p2 : Int} (hd : 1 ≤ d) (hP : (0 ≤ p1 ∧ p1 < 128) ∧ (im_i64 p2) ∧ im_T g (d - 1) 106 0 [some (.ref 1795), some (vI p1), some (vI (-1)), some (vL 0), none, some (vL 0), none, some (vL 0), none] [] e (im_u M 2057 p1 p2) (im_r0 (fun  e_ M3 => e = e_ ∧ K (.inl (some (vI 1))) e M3))) : im_T g d 241 0 [some (.ref 1793), some (vI p1), some (vL p2), none] [] e M K := by
  refine im_ld (q := 1) (i := 0) D241_0 rfl rfl rfl ?_
  refine im_gfR (q := 4) (b := 2057) D241_1 (im_fl cn_241 fl_8_26) sf_1793 rfl rfl tR_8_4 rfl ?_
  refine im_ld (q := 5) (i := 1) D241_4 rfl rfl rfl ?_
  refine im_ld (q := 6) (i := 2) D241_5 rfl rfl rfl ?_
  obtain ⟨hg1, hP⟩ := hP
  obtain ⟨hg2, hP⟩ := hP
  refine im_last (q := 7) D241_6 sf_2057 hg1.1 hg1.2 (by decide) hg2 ?_
  refine im_ld (q := 8) (i := 0) D241_7 rfl rfl rfl ?_
  refine im_gfR (q := 11) (b := 1795) D241_8 (im_fl cn_241 fl_8_22) sf_1793 rfl rfl tR_8_3 rfl ?_
  refine im_ld (q := 12) (i := 1) D241_11 rfl rfl rfl ?_
  refine im_iconst (q := 13) D241_12 ?_
  refine im_lconst (q := 14) (z := 0) D241_13 rfl ?_
  refine im_lconst (q := 15) (z := 0) D241_14 rfl ?_
  refine im_lconst (q := 16) (z := 0) D241_15 rfl ?_
  refine im_callV (q := 19) (kd := 1) (y := 106) (n := 5) (ci := 7) (a := 1795) (vs := [.ref 1795, vI p1, vI (-1), vL 0, vL 0, vL 0]) (r := []) (L2 := [some (.ref 1795), some (vI p1), some (vI (-1)), some (vL 0), none, some (vL 0), none, some (vL 0), none]) D241_16 (im_cal cn_241 cl_8_130) (Or.inl rfl) rfl sf_1795 rfl rfl rfl rfl hd ⟨rfl, rfl, rfl, rfl, rfl, rfl, trivial⟩ ?_
  refine hP.mono ?_
  rintro _ e4 M3 ⟨rfl, rfl, hP⟩
  refine im_bkN ?_
  refine im_iconst (q := 20) D241_19 ?_
  exact im_zret (q := 21) D241_20 rfl (by decide) hP
set_option maxRecDepth 20000 in
set_option maxHeartbeats 4000000 in
theorem k_Search_proposeChoice_0 {g : im_g} {d : Nat} {e : im_E} {M : im_M} {K : im_K} {p1 p2 : Int} (hd : 1 ≤ d) (hP : (0 ≤ p1 ∧ p1 < 128) ∧ (0 ≤ p2 ∧ p2 < 5000) ∧ (im_i64 (2 * (M 21 p2))) ∧ (((M 2059 p1) < (2 * (M 21 p2)) → (im_i32 ((M 2059 p1) + 1)) ∧ im_T g (d - 1) 106 0 [some (.ref 1795), some (vI p1), some (vI 29), some (vL (M 19 p2)), none, some (vL (M 20 p2)), none, some (vL 0), none] [] e (im_u M 2059 p1 ((M 2059 p1) + 1)) (im_r0 (fun  e_ M11 => e = e_ ∧ ∃ b14 : Nat, ((M11 1800 p1) = (b14 : Int)) ∧ (im_num e b14) ∧ im_T g (d - 1) 243 0 [some (.ref 13), some (vI p2), some (vI (M 2059 p1)), some (.ref b14), none, none] [] e M11 (im_r0 (fun  e_ M17 => e = e_ ∧ (im_i32 ((M 2059 p1).tmod 2)) ∧ ((¬ ((M 2059 p1).tmod 2) = 0 → im_T g (d - 1) 243 0 [some (.ref 13), some (vI p2), some (vI ((M 2059 p1) - 1)), some (.ref 2060), none, none] [] e M17 (im_r0 (fun  e_ M22 => e = e_ ∧ ∃ b25 : Nat, ((M22 1800 p1) = (b25 : Int)) ∧ (im_num e b25) ∧ im_T g (d - 1) 68 0 [some (.ref 2060), some (.ref b25)] [] e M22 (im_ri (fun x31 e_ M28 => e = e_ ∧ (im_i32 x31) ∧ ((∀ x34 : Int, (((x31 = 0) ∧ x34 = 0) ∨ ((¬ x31 = 0) ∧ x34 = 1)) → K (.inl (some (vI x34))) e M28))))))) ∧ (((M 2059 p1).tmod 2) = 0 → K (.inl (some (vI 1))) e M17))))))) ∧ ((2 * (M 21 p2)) ≤ (M 2059 p1) → K (.inl (some (vI 0))) e (im_u (im_u M 2058 p1 (M 15 p2)) 2059 p1 0)))) : im_T g d 242 0 [some (.ref 1793), some (vI p1), some (vI p2), none] [] e M K := by
  refine im_ld (q := 1) (i := 0) D242_0 rfl rfl rfl ?_
  refine im_gfR (q := 4) (b := 2059) D242_1 (im_fl cn_242 fl_8_34) sf_1793 rfl rfl tR_8_6 rfl ?_
  refine im_ld (q := 5) (i := 1) D242_4 rfl rfl rfl ?_
  obtain ⟨hg1, hP⟩ := hP
  refine im_rng (j := p1) sf_2059 hg1.1 hg1.2 (fun hr2 => ?_)
  refine im_iald (q := 6) D242_5 sf_2059 hg1.1 hg1.2 (by decide) rfl ?_
  refine im_st1 (q := 7) (i := 3) (L' := [some (.ref 1793), some (vI p1), some (vI p2), some (vI (M 2059 p1))]) D242_6 (Or.inl ⟨_, rfl, rfl⟩) (Nat.le_of_ble_eq_true rfl) rfl ?_
  refine im_ld (q := 8) (i := 3) D242_7 rfl rfl rfl ?_
  refine im_i2l (q := 9) D242_8 hr2 ?_
  refine im_ldc2 (q := 12) (n := 2) D242_9 rfl ?_
  refine im_ld (q := 13) (i := 0) D242_12 rfl rfl rfl ?_
  refine im_gfR (q := 16) (b := 13) D242_13 (im_fl cn_242 fl_8_51) sf_1793 rfl rfl tR_8_0 rfl ?_
  refine im_gfR (q := 19) (b := 21) D242_16 (im_fl cn_242 fl_8_136) sf_13 rfl rfl tR_5_7 rfl ?_
  refine im_ld (q := 20) (i := 2) D242_19 rfl rfl rfl ?_
  obtain ⟨hg3, hP⟩ := hP
  refine im_rng (j := p2) sf_21 hg3.1 hg3.2 (fun hr4 => ?_)
  refine im_lald (q := 21) D242_20 sf_21 hg3.1 hg3.2 (by decide) rfl ?_
  refine im_lmul (q := 22) D242_21 ?_
  obtain ⟨hg5, hP⟩ := hP
  refine im_lif (q := 23) (q2 := 26) (t := 50) D242_22 D242_23 rfl (im_32_64 hr2) hg5 (fun hc6 => ?_) (fun hc6 => ?_)
  · replace hP := hP.1 hc6
    refine im_ld (q := 51) (i := 0) D242_50 rfl rfl rfl ?_
    refine im_gfR (q := 54) (b := 2059) D242_51 (im_fl cn_242 fl_8_34) sf_1793 rfl rfl tR_8_6 rfl ?_
    refine im_ld (q := 55) (i := 1) D242_54 rfl rfl rfl ?_
    refine im_ld (q := 56) (i := 3) D242_55 rfl rfl rfl ?_
    refine im_iconst (q := 57) D242_56 ?_
    refine im_iadd (q := 58) D242_57 ?_
    obtain ⟨hg8, hP⟩ := hP
    refine im_iast (q := 59) D242_58 sf_2059 hg1.1 hg1.2 (by decide) hg8 ?_
    refine im_ld (q := 60) (i := 0) D242_59 rfl rfl rfl ?_
    refine im_gfR (q := 63) (b := 1795) D242_60 (im_fl cn_242 fl_8_22) sf_1793 rfl rfl tR_8_3 rfl ?_
    refine im_ld (q := 64) (i := 1) D242_63 rfl rfl rfl ?_
    refine im_bipush (q := 66) D242_64 rfl ?_
    refine im_ld (q := 67) (i := 0) D242_66 rfl rfl rfl ?_
    refine im_gfR (q := 70) (b := 13) D242_67 (im_fl cn_242 fl_8_51) sf_1793 rfl rfl tR_8_0 rfl ?_
    refine im_gfR (q := 73) (b := 19) D242_70 (im_fl cn_242 fl_8_142) sf_13 rfl rfl tR_5_5 rfl ?_
    refine im_ld (q := 74) (i := 2) D242_73 rfl rfl rfl ?_
    refine im_rng (j := p2) sf_19 hg3.1 hg3.2 (fun hr9 => ?_)
    refine im_lald (q := 75) D242_74 sf_19 hg3.1 hg3.2 (by decide) (im_rdn _ _ _ _ (by decide)) ?_
    refine im_ld (q := 76) (i := 0) D242_75 rfl rfl rfl ?_
    refine im_gfR (q := 79) (b := 13) D242_76 (im_fl cn_242 fl_8_51) sf_1793 rfl rfl tR_8_0 rfl ?_
    refine im_gfR (q := 82) (b := 20) D242_79 (im_fl cn_242 fl_8_145) sf_13 rfl rfl tR_5_6 rfl ?_
    refine im_ld (q := 83) (i := 2) D242_82 rfl rfl rfl ?_
    refine im_rng (j := p2) sf_20 hg3.1 hg3.2 (fun hr10 => ?_)
    refine im_lald (q := 84) D242_83 sf_20 hg3.1 hg3.2 (by decide) (im_rdn _ _ _ _ (by decide)) ?_
    refine im_lconst (q := 85) (z := 0) D242_84 rfl ?_
    refine im_callV (q := 88) (kd := 1) (y := 106) (n := 5) (ci := 7) (a := 1795) (vs := [.ref 1795, vI p1, vI 29, vL (M 19 p2), vL (M 20 p2), vL 0]) (r := []) (L2 := [some (.ref 1795), some (vI p1), some (vI 29), some (vL (M 19 p2)), none, some (vL (M 20 p2)), none, some (vL 0), none]) D242_85 (im_cal cn_242 cl_8_130) (Or.inl rfl) rfl sf_1795 rfl rfl rfl rfl hd ⟨rfl, rfl, rfl, rfl, rfl, rfl, trivial⟩ ?_
    refine hP.mono ?_
    rintro _ e12 M11 ⟨rfl, rfl, hP⟩
    refine im_bkN ?_
    refine im_ld (q := 89) (i := 0) D242_88 rfl rfl rfl ?_
    refine im_gfR (q := 92) (b := 13) D242_89 (im_fl cn_242 fl_8_51) sf_1793 rfl rfl tR_8_0 rfl ?_
    refine im_ld (q := 93) (i := 2) D242_92 rfl rfl rfl ?_
    refine im_ld (q := 94) (i := 3) D242_93 rfl rfl rfl ?_
    refine im_ld (q := 95) (i := 0) D242_94 rfl rfl rfl ?_
    refine im_gfR (q := 98) (b := 1795) D242_95 (im_fl cn_242 fl_8_22) sf_1793 rfl rfl tR_8_3 rfl ?_
    refine im_gfR (q := 101) (b := 1800) D242_98 (im_fl cn_242 fl_8_148) sf_1795 rfl rfl tR_7_4 rfl ?_
    refine im_ld (q := 102) (i := 1) D242_101 rfl rfl rfl ?_
    obtain ⟨b14, hb15, hP⟩ := hP
    obtain ⟨hb16, hP⟩ := hP
    refine im_aald (q := 103) D242_102 sf_1800 (Or.inl rfl) hg1.1 hg1.2 (by decide) hb15 ?_
    refine im_callV (q := 106) (kd := 1) (y := 243) (n := 3) (ci := 5) (a := 13) (vs := [.ref 13, vI p2, vI (M 2059 p1), .ref b14]) (r := []) (L2 := [some (.ref 13), some (vI p2), some (vI (M 2059 p1)), some (.ref b14), none, none]) D242_103 (im_cal cn_242 cl_8_152) (Or.inl rfl) rfl sf_13 rfl rfl rfl rfl hd ⟨rfl, rfl, rfl, rfl, trivial⟩ ?_
    refine hP.mono ?_
    rintro _ e18 M17 ⟨rfl, rfl, hP⟩
    refine im_bkN ?_
    refine im_ld (q := 107) (i := 3) D242_106 rfl rfl rfl ?_
    refine im_iconst (q := 108) D242_107 ?_
    refine im_irem (q := 109) D242_108 hr2 (by decide) (by decide) ?_
    obtain ⟨hg20, hP⟩ := hP
    refine im_ifc (q := 112) (t := 114) D242_109 rfl hg20 (fun hc21 => ?_) (fun hc21 => ?_)
    · replace hP := hP.1 hc21
      refine im_ld (q := 115) (i := 0) D242_114 rfl rfl rfl ?_
      refine im_gfR (q := 118) (b := 13) D242_115 (im_fl cn_242 fl_8_51) sf_1793 rfl rfl tR_8_0 rfl ?_
      refine im_ld (q := 119) (i := 2) D242_118 rfl rfl rfl ?_
      refine im_ld (q := 120) (i := 3) D242_119 rfl rfl rfl ?_
      refine im_iconst (q := 121) D242_120 ?_
      refine im_isub (q := 122) D242_121 ?_
      refine im_ld (q := 123) (i := 0) D242_122 rfl rfl rfl ?_
      refine im_gfR (q := 126) (b := 2060) D242_123 (im_fl cn_242 fl_8_40) sf_1793 rfl rfl tR_8_7 rfl ?_
      refine im_callV (q := 129) (kd := 1) (y := 243) (n := 3) (ci := 5) (a := 13) (vs := [.ref 13, vI p2, vI ((M 2059 p1) - 1), .ref 2060]) (r := []) (L2 := [some (.ref 13), some (vI p2), some (vI ((M 2059 p1) - 1)), some (.ref 2060), none, none]) D242_126 (im_cal cn_242 cl_8_152) (Or.inl rfl) rfl sf_13 rfl rfl rfl rfl hd ⟨rfl, rfl, rfl, rfl, trivial⟩ ?_
      refine hP.mono ?_
      rintro _ e23 M22 ⟨rfl, rfl, hP⟩
      refine im_bkN ?_
      refine im_ld (q := 130) (i := 0) D242_129 rfl rfl rfl ?_
      refine im_gfR (q := 133) (b := 2060) D242_130 (im_fl cn_242 fl_8_40) sf_1793 rfl rfl tR_8_7 rfl ?_
      refine im_ld (q := 134) (i := 0) D242_133 rfl rfl rfl ?_
      refine im_gfR (q := 137) (b := 1795) D242_134 (im_fl cn_242 fl_8_22) sf_1793 rfl rfl tR_8_3 rfl ?_
      refine im_gfR (q := 140) (b := 1800) D242_137 (im_fl cn_242 fl_8_148) sf_1795 rfl rfl tR_7_4 rfl ?_
      refine im_ld (q := 141) (i := 1) D242_140 rfl rfl rfl ?_
      obtain ⟨b25, hb26, hP⟩ := hP
      obtain ⟨hb27, hP⟩ := hP
      refine im_aald (q := 142) D242_141 sf_1800 (Or.inl rfl) hg1.1 hg1.2 (by decide) hb26 ?_
      refine im_callV (q := 145) (kd := 1) (y := 68) (n := 1) (ci := 3) (a := 2060) (vs := [.ref 2060, .ref b25]) (r := []) (L2 := [some (.ref 2060), some (.ref b25)]) D242_142 (im_cal cn_242 cl_8_156) (Or.inl rfl) rfl sf_2060 rfl rfl rfl rfl hd ⟨rfl, rfl, trivial⟩ ?_
      refine hP.mono ?_
      rintro _ e29 M28 ⟨x31, rfl, rfl, hP⟩
      refine im_bkS ?_
      obtain ⟨hg32, hP⟩ := hP
      have hJ35 := hP
      have kJ36 : ∀ x34 : Int, (((x31 = 0) ∧ x34 = 0) ∨ ((¬ x31 = 0) ∧ x34 = 1)) → im_T g d 242 153 [none, none, none, none] [vI x34] e M28 K := by
        intro x34 hx37
        have hP := hJ35 x34 hx37
        exact im_zret (q := 154) D242_153 rfl (by clear hP; omega) hP
      refine im_ifc (q := 148) (t := 152) D242_145 rfl hg32 (fun hc33 => ?_) (fun hc33 => ?_)
      · refine im_iconst (q := 153) D242_152 ?_
        exact (kJ36 (0) (Or.inl ⟨hc33, rfl⟩)).wk trivial
      · refine im_iconst (q := 149) D242_148 ?_
        refine im_goto (q := 152) (t := 153) D242_149 rfl ?_
        exact (kJ36 (1) (Or.inr ⟨hc33, rfl⟩)).wk trivial
    · replace hP := hP.2 (Decidable.not_not.mp hc21)
      refine im_iconst (q := 113) D242_112 ?_
      exact im_zret (q := 114) D242_113 rfl (by decide) hP
  · replace hP := hP.2 (Int.not_lt.mp hc6)
    refine im_ld (q := 27) (i := 0) D242_26 rfl rfl rfl ?_
    refine im_gfR (q := 30) (b := 2058) D242_27 (im_fl cn_242 fl_8_30) sf_1793 rfl rfl tR_8_5 rfl ?_
    refine im_ld (q := 31) (i := 1) D242_30 rfl rfl rfl ?_
    refine im_ld (q := 32) (i := 0) D242_31 rfl rfl rfl ?_
    refine im_gfR (q := 35) (b := 13) D242_32 (im_fl cn_242 fl_8_51) sf_1793 rfl rfl tR_8_0 rfl ?_
    refine im_gfR (q := 38) (b := 15) D242_35 (im_fl cn_242 fl_8_139) sf_13 rfl rfl tR_5_1 rfl ?_
    refine im_ld (q := 39) (i := 2) D242_38 rfl rfl rfl ?_
    refine im_rng (j := p2) sf_15 hg3.1 hg3.2 (fun hr7 => ?_)
    refine im_iald (q := 40) D242_39 sf_15 hg3.1 hg3.2 (by decide) rfl ?_
    refine im_iast (q := 41) D242_40 sf_2058 hg1.1 hg1.2 (by decide) hr7 ?_
    refine im_ld (q := 42) (i := 0) D242_41 rfl rfl rfl ?_
    refine im_gfR (q := 45) (b := 2059) D242_42 (im_fl cn_242 fl_8_34) sf_1793 rfl rfl tR_8_6 rfl ?_
    refine im_ld (q := 46) (i := 1) D242_45 rfl rfl rfl ?_
    refine im_iconst (q := 47) D242_46 ?_
    refine im_iast (q := 48) D242_47 sf_2059 hg1.1 hg1.2 (by decide) (by decide) ?_
    refine im_iconst (q := 49) D242_48 ?_
    exact im_zret (q := 50) D242_49 rfl (by decide) hP
set_option maxRecDepth 20000 in
set_option maxHeartbeats 4000000 in
theorem k_Pool_loadBound_0 {g : im_g} {d : Nat} {e : im_E} {M : im_M} {K : im_K} {p1 p2 : Int} {p3 : Nat} (hp3 : im_num e p3) (hP : (0 ≤ p1 ∧ p1 < 5000) ∧ im_T g d 243 11 [some (.ref 13), none, some (vI p2), some (.ref p3), some (vI (M 18 p1)), some (vI 0)] [] e M K) : im_T g d 243 0 [some (.ref 13), some (vI p1), some (vI p2), some (.ref p3), none, none] [] e M K := by
  refine im_ld (q := 1) (i := 0) D243_0 rfl rfl rfl ?_
  refine im_gfR (q := 4) (b := 18) D243_1 (im_fl cn_243 fl_5_24) sf_13 rfl rfl tR_5_4 rfl ?_
  refine im_ld (q := 5) (i := 1) D243_4 rfl rfl rfl ?_
  obtain ⟨hg1, hP⟩ := hP
  refine im_rng (j := p1) sf_18 hg1.1 hg1.2 (fun hr2 => ?_)
  refine im_iald (q := 6) D243_5 sf_18 hg1.1 hg1.2 (by decide) rfl ?_
  refine im_st1 (q := 8) (i := 4) (L' := [some (.ref 13), some (vI p1), some (vI p2), some (.ref p3), some (vI (M 18 p1)), none]) D243_6 (Or.inr rfl) (Nat.le_of_ble_eq_true rfl) rfl ?_
  refine im_iconst (q := 9) D243_8 ?_
  refine im_st1 (q := 11) (i := 5) (L' := [some (.ref 13), some (vI p1), some (vI p2), some (.ref p3), some (vI (M 18 p1)), some (vI 0)]) D243_9 (Or.inr rfl) (Nat.le_of_ble_eq_true rfl) rfl ?_
  exact hP.wk ⟨rfl, rfl, rfl, rfl, rfl, trivial⟩
set_option maxRecDepth 20000 in
set_option maxHeartbeats 4000000 in
theorem k_Pool_loadBound_11 {g : im_g} {d : Nat} {e : im_E} {M : im_M} {K : im_K} {p2 p4 p5 : Int} {p3 : Nat} (hp3 : im_num e p3) (hd : 1 ≤ d) (hP : (im_i32 p5) ∧ (im_i32 p2) ∧ ((p2 < p5 → K (.inl none) e M) ∧ (p5 ≤ p2 → im_T g (d - 1) 125 0 [some (.ref 13), some (vI p4), some (.ref p3), none] [] e M (im_ri (fun x7 e_ M4 => e = e_ ∧ im_T g d 243 11 [some (.ref 13), none, some (vI p2), some (.ref p3), some (vI x7), some (vI (p5 + 1))] [] e M4 K))))) : im_T g d 243 11 [some (.ref 13), none, some (vI p2), some (.ref p3), some (vI p4), some (vI p5)] [] e M K := by
  refine im_ld (q := 13) (i := 5) D243_11 rfl rfl rfl ?_
  refine im_ld (q := 14) (i := 2) D243_13 rfl rfl rfl ?_
  obtain ⟨hg1, hP⟩ := hP
  obtain ⟨hg2, hP⟩ := hP
  refine im_icmp (q := 17) (t := 32) D243_14 rfl hg1 hg2 (fun hc3 => ?_) (fun hc3 => ?_)
  · replace hP := hP.1 hc3
    exact im_vret (q := 33) D243_32 rfl hP
  · replace hP := hP.2 (Int.not_lt.mp hc3)
    refine im_ld (q := 18) (i := 0) D243_17 rfl rfl rfl ?_
    refine im_ld (q := 20) (i := 4) D243_18 rfl rfl rfl ?_
    refine im_ld (q := 21) (i := 3) D243_20 rfl rfl rfl ?_
    refine im_callV (q := 24) (kd := 1) (y := 125) (n := 2) (ci := 5) (a := 13) (vs := [.ref 13, vI p4, .ref p3]) (r := []) (L2 := [some (.ref 13), some (vI p4), some (.ref p3), none]) D243_21 (im_cal cn_243 cl_5_77) (Or.inl rfl) rfl sf_13 rfl rfl rfl rfl hd ⟨rfl, rfl, rfl, trivial⟩ ?_
    refine hP.mono ?_
    rintro _ e5 M4 ⟨x7, rfl, rfl, hP⟩
    refine im_bkS ?_
    refine im_st1 (q := 26) (i := 4) (L' := [some (.ref 13), none, some (vI p2), some (.ref p3), some (vI x7), some (vI p5)]) D243_24 (Or.inr rfl) (Nat.le_of_ble_eq_true rfl) rfl ?_
    refine im_iinc (q := 29) (i := 5) (L' := [some (.ref 13), none, some (vI p2), some (.ref p3), some (vI x7), some (vI (p5 + 1))]) D243_26 rfl (Nat.le_of_ble_eq_true rfl) rfl ?_
    refine im_goto (q := 32) (t := 11) D243_29 rfl ?_
    exact hP.wk ⟨rfl, rfl, rfl, rfl, rfl, trivial⟩
set_option maxRecDepth 20000 in
set_option maxHeartbeats 4000000 in
theorem k_Search_proposeWorked_0 {g : im_g} {d : Nat} {e : im_E} {M : im_M} {K : im_K} {p1 p2 : Int} (hd : 1 ≤ d) (hP : (0 ≤ p2 ∧ p2 < 5000) ∧ (0 ≤ p1 ∧ p1 < 128) ∧ im_T g (d - 1) 110 0 [some (.ref 931), some (vL (M 2057 p1)), none, some (vL (M 2057 p1)), none] [] e (im_u M 2058 p1 (M 15 p2)) (im_r0 (fun  e_ M6 => e = e_ ∧ im_T g (d - 1) 122 0 [some (.ref 931), some (vI (p2 + 1)), some (vI 0), none, none, none, none, none, none, none, none] [] e M6 (im_ri (fun x12 e_ M9 => e = e_ ∧ (((M9 931 12) = 0 → ((¬ (M9 14 p2) = 30 → im_T g (d - 1) 106 0 [some (.ref 1795), some (vI p1), some (vI 28), some (vL (M9 19 p2)), none, some (vL (M9 20 p2)), none, some (vL (M9 21 p2)), none] [] e M9 (im_r0 (fun  e_ M20 => e = e_ ∧ ∃ b23 : Nat, ((M20 1800 p1) = (b23 : Int)) ∧ (im_num e b23) ∧ ∃ b26 : Nat, ((M20 932 0) = (b26 : Int)) ∧ (im_num e b26) ∧ im_T g (d - 1) 66 0 [some (.ref b23), some (.ref b26), none] [] e M20 (im_r0 (fun  e_ M29 => e = e_ ∧ K (.inl (some (vI 1))) e M29))))) ∧ ((M9 14 p2) = 30 → im_T g (d - 1) 106 0 [some (.ref 1795), some (vI p1), some (vI 30), some (vL 0), none, some (vL 0), none, some (vL 0), none] [] e M9 (im_r0 (fun  e_ M32 => e = e_ ∧ (0 ≤ x12 ∧ x12 ≤ 1) ∧ K (.inl (some (vI x12))) e M32))))) ∧ (¬ (M9 931 12) = 0 → K (.inl (some (vI 0))) e M9))))))) : im_T g d 244 0 [some (.ref 1793), some (vI p1), some (vI p2), none] [] e M K := by
  refine im_ld (q := 1) (i := 0) D244_0 rfl rfl rfl ?_
  refine im_gfR (q := 4) (b := 2058) D244_1 (im_fl cn_244 fl_8_30) sf_1793 rfl rfl tR_8_5 rfl ?_
  refine im_ld (q := 5) (i := 1) D244_4 rfl rfl rfl ?_
  refine im_ld (q := 6) (i := 0) D244_5 rfl rfl rfl ?_
  refine im_gfR (q := 9) (b := 13) D244_6 (im_fl cn_244 fl_8_51) sf_1793 rfl rfl tR_8_0 rfl ?_
  refine im_gfR (q := 12) (b := 15) D244_9 (im_fl cn_244 fl_8_139) sf_13 rfl rfl tR_5_1 rfl ?_
  refine im_ld (q := 13) (i := 2) D244_12 rfl rfl rfl ?_
  obtain ⟨hg1, hP⟩ := hP
  refine im_rng (j := p2) sf_15 hg1.1 hg1.2 (fun hr2 => ?_)
  refine im_iald (q := 14) D244_13 sf_15 hg1.1 hg1.2 (by decide) rfl ?_
  obtain ⟨hg3, hP⟩ := hP
  refine im_iast (q := 15) D244_14 sf_2058 hg3.1 hg3.2 (by decide) hr2 ?_
  refine im_ld (q := 16) (i := 0) D244_15 rfl rfl rfl ?_
  refine im_gfR (q := 19) (b := 931) D244_16 (im_fl cn_244 fl_8_55) sf_1793 rfl rfl tR_8_1 rfl ?_
  refine im_ld (q := 20) (i := 0) D244_19 rfl rfl rfl ?_
  refine im_gfR (q := 23) (b := 2057) D244_20 (im_fl cn_244 fl_8_26) sf_1793 rfl rfl tR_8_4 rfl ?_
  refine im_ld (q := 24) (i := 1) D244_23 rfl rfl rfl ?_
  refine im_rng (j := p1) sf_2057 hg3.1 hg3.2 (fun hr4 => ?_)
  refine im_lald (q := 25) D244_24 sf_2057 hg3.1 hg3.2 (by decide) (im_rdn _ _ _ _ (by decide)) ?_
  refine im_ld (q := 26) (i := 0) D244_25 rfl rfl rfl ?_
  refine im_gfR (q := 29) (b := 2057) D244_26 (im_fl cn_244 fl_8_26) sf_1793 rfl rfl tR_8_4 rfl ?_
  refine im_ld (q := 30) (i := 1) D244_29 rfl rfl rfl ?_
  refine im_lald (q := 31) D244_30 sf_2057 hg3.1 hg3.2 (by decide) (im_rdn _ _ _ _ (by decide)) ?_
  refine im_callV (q := 34) (kd := 1) (y := 110) (n := 2) (ci := 2) (a := 931) (vs := [.ref 931, vL (M 2057 p1), vL (M 2057 p1)]) (r := []) (L2 := [some (.ref 931), some (vL (M 2057 p1)), none, some (vL (M 2057 p1)), none]) D244_31 (im_cal cn_244 cl_8_160) (Or.inl rfl) rfl sf_931 rfl rfl rfl rfl hd ⟨rfl, rfl, rfl, trivial⟩ ?_
  refine hP.mono ?_
  rintro _ e7 M6 ⟨rfl, rfl, hP⟩
  refine im_bkN ?_
  refine im_ld (q := 35) (i := 0) D244_34 rfl rfl rfl ?_
  refine im_gfR (q := 38) (b := 931) D244_35 (im_fl cn_244 fl_8_55) sf_1793 rfl rfl tR_8_1 rfl ?_
  refine im_ld (q := 39) (i := 2) D244_38 rfl rfl rfl ?_
  refine im_iconst (q := 40) D244_39 ?_
  refine im_iadd (q := 41) D244_40 ?_
  refine im_iconst (q := 42) D244_41 ?_
  refine im_callV (q := 45) (kd := 7) (y := 122) (n := 2) (ci := 2) (a := 931) (vs := [.ref 931, vI (p2 + 1), vI 0]) (r := []) (L2 := [some (.ref 931), some (vI (p2 + 1)), some (vI 0), none, none, none, none, none, none, none, none]) D244_42 (im_cal cn_244 cl_8_164) (Or.inr rfl) rfl sf_931 rfl rfl rfl rfl hd ⟨rfl, rfl, rfl, trivial⟩ ?_
  refine hP.mono ?_
  rintro _ e10 M9 ⟨x12, rfl, rfl, hP⟩
  refine im_bkS ?_
  refine im_st1 (q := 46) (i := 3) (L' := [some (.ref 1793), some (vI p1), some (vI p2), some (vI x12)]) D244_45 (Or.inl ⟨_, rfl, rfl⟩) (Nat.le_of_ble_eq_true rfl) rfl ?_
  refine im_ld (q := 47) (i := 0) D244_46 rfl rfl rfl ?_
  refine im_gfR (q := 50) (b := 931) D244_47 (im_fl cn_244 fl_8_55) sf_1793 rfl rfl tR_8_1 rfl ?_
  refine im_rng (j := 12) sf_931 (by decide) (by decide) (fun hr13 => ?_)
  refine im_gfI (q := 53) D244_50 (im_fl cn_244 fl_8_167) sf_931 rfl rfl tI_2_12 rfl ?_
  refine im_ifc (q := 56) (t := 58) D244_53 rfl (im_z32 hr13) (fun hc14 => ?_) (fun hc14 => ?_)
  · replace hP := hP.1 hc14
    refine im_ld (q := 59) (i := 0) D244_58 rfl rfl rfl ?_
    refine im_gfR (q := 62) (b := 13) D244_59 (im_fl cn_244 fl_8_51) sf_1793 rfl rfl tR_8_0 rfl ?_
    refine im_gfR (q := 65) (b := 14) D244_62 (im_fl cn_244 fl_8_110) sf_13 rfl rfl tR_5_0 rfl ?_
    refine im_ld (q := 66) (i := 2) D244_65 rfl rfl rfl ?_
    refine im_rng (j := p2) sf_14 hg1.1 hg1.2 (fun hr15 => ?_)
    refine im_iald (q := 67) D244_66 sf_14 hg1.1 hg1.2 (by decide) rfl ?_
    refine im_bipush (q := 69) D244_67 rfl ?_
    refine im_icmp (q := 72) (t := 87) D244_69 rfl hr15 (by decide) (fun hc16 => ?_) (fun hc16 => ?_)
    · replace hP := hP.1 hc16
      refine im_ld (q := 88) (i := 0) D244_87 rfl rfl rfl ?_
      refine im_gfR (q := 91) (b := 1795) D244_88 (im_fl cn_244 fl_8_22) sf_1793 rfl rfl tR_8_3 rfl ?_
      refine im_ld (q := 92) (i := 1) D244_91 rfl rfl rfl ?_
      refine im_bipush (q := 94) D244_92 rfl ?_
      refine im_ld (q := 95) (i := 0) D244_94 rfl rfl rfl ?_
      refine im_gfR (q := 98) (b := 13) D244_95 (im_fl cn_244 fl_8_51) sf_1793 rfl rfl tR_8_0 rfl ?_
      refine im_gfR (q := 101) (b := 19) D244_98 (im_fl cn_244 fl_8_142) sf_13 rfl rfl tR_5_5 rfl ?_
      refine im_ld (q := 102) (i := 2) D244_101 rfl rfl rfl ?_
      refine im_rng (j := p2) sf_19 hg1.1 hg1.2 (fun hr17 => ?_)
      refine im_lald (q := 103) D244_102 sf_19 hg1.1 hg1.2 (by decide) rfl ?_
      refine im_ld (q := 104) (i := 0) D244_103 rfl rfl rfl ?_
      refine im_gfR (q := 107) (b := 13) D244_104 (im_fl cn_244 fl_8_51) sf_1793 rfl rfl tR_8_0 rfl ?_
      refine im_gfR (q := 110) (b := 20) D244_107 (im_fl cn_244 fl_8_145) sf_13 rfl rfl tR_5_6 rfl ?_
      refine im_ld (q := 111) (i := 2) D244_110 rfl rfl rfl ?_
      refine im_rng (j := p2) sf_20 hg1.1 hg1.2 (fun hr18 => ?_)
      refine im_lald (q := 112) D244_111 sf_20 hg1.1 hg1.2 (by decide) rfl ?_
      refine im_ld (q := 113) (i := 0) D244_112 rfl rfl rfl ?_
      refine im_gfR (q := 116) (b := 13) D244_113 (im_fl cn_244 fl_8_51) sf_1793 rfl rfl tR_8_0 rfl ?_
      refine im_gfR (q := 119) (b := 21) D244_116 (im_fl cn_244 fl_8_136) sf_13 rfl rfl tR_5_7 rfl ?_
      refine im_ld (q := 120) (i := 2) D244_119 rfl rfl rfl ?_
      refine im_rng (j := p2) sf_21 hg1.1 hg1.2 (fun hr19 => ?_)
      refine im_lald (q := 121) D244_120 sf_21 hg1.1 hg1.2 (by decide) rfl ?_
      refine im_callV (q := 124) (kd := 1) (y := 106) (n := 5) (ci := 7) (a := 1795) (vs := [.ref 1795, vI p1, vI 28, vL (M9 19 p2), vL (M9 20 p2), vL (M9 21 p2)]) (r := []) (L2 := [some (.ref 1795), some (vI p1), some (vI 28), some (vL (M9 19 p2)), none, some (vL (M9 20 p2)), none, some (vL (M9 21 p2)), none]) D244_121 (im_cal cn_244 cl_8_130) (Or.inl rfl) rfl sf_1795 rfl rfl rfl rfl hd ⟨rfl, rfl, rfl, rfl, rfl, rfl, trivial⟩ ?_
      refine hP.mono ?_
      rintro _ e21 M20 ⟨rfl, rfl, hP⟩
      refine im_bkN ?_
      refine im_ld (q := 125) (i := 0) D244_124 rfl rfl rfl ?_
      refine im_gfR (q := 128) (b := 1795) D244_125 (im_fl cn_244 fl_8_22) sf_1793 rfl rfl tR_8_3 rfl ?_
      refine im_gfR (q := 131) (b := 1800) D244_128 (im_fl cn_244 fl_8_148) sf_1795 rfl rfl tR_7_4 rfl ?_
      refine im_ld (q := 132) (i := 1) D244_131 rfl rfl rfl ?_
      obtain ⟨b23, hb24, hP⟩ := hP
      obtain ⟨hb25, hP⟩ := hP
      refine im_aald (q := 133) D244_132 sf_1800 (Or.inl rfl) hg3.1 hg3.2 (by decide) hb24 ?_
      refine im_ld (q := 134) (i := 0) D244_133 rfl rfl rfl ?_
      refine im_gfR (q := 137) (b := 931) D244_134 (im_fl cn_244 fl_8_55) sf_1793 rfl rfl tR_8_1 rfl ?_
      refine im_gfR (q := 140) (b := 932) D244_137 (im_fl cn_244 fl_8_171) sf_931 rfl rfl tR_2_1 rfl ?_
      refine im_iconst (q := 141) D244_140 ?_
      obtain ⟨b26, hb27, hP⟩ := hP
      obtain ⟨hb28, hP⟩ := hP
      refine im_aald (q := 142) D244_141 sf_932 (Or.inl rfl) (by decide) (by decide) (by decide) hb27 ?_
      refine im_callV (q := 145) (kd := 1) (y := 66) (n := 1) (ci := 3) (a := b23) (vs := [.ref b23, .ref b26]) (r := []) (L2 := [some (.ref b23), some (.ref b26), none]) D244_142 (im_cal cn_244 cl_8_172) (Or.inl rfl) rfl hb25.1 rfl rfl rfl rfl hd ⟨rfl, rfl, trivial⟩ ?_
      refine hP.mono ?_
      rintro _ e30 M29 ⟨rfl, rfl, hP⟩
      refine im_bkN ?_
      refine im_iconst (q := 146) D244_145 ?_
      exact im_zret (q := 147) D244_146 rfl (by decide) hP
    · replace hP := hP.2 (Decidable.not_not.mp hc16)
      refine im_ld (q := 73) (i := 0) D244_72 rfl rfl rfl ?_
      refine im_gfR (q := 76) (b := 1795) D244_73 (im_fl cn_244 fl_8_22) sf_1793 rfl rfl tR_8_3 rfl ?_
      refine im_ld (q := 77) (i := 1) D244_76 rfl rfl rfl ?_
      refine im_bipush (q := 79) D244_77 rfl ?_
      refine im_lconst (q := 80) (z := 0) D244_79 rfl ?_
      refine im_lconst (q := 81) (z := 0) D244_80 rfl ?_
      refine im_lconst (q := 82) (z := 0) D244_81 rfl ?_
      refine im_callV (q := 85) (kd := 1) (y := 106) (n := 5) (ci := 7) (a := 1795) (vs := [.ref 1795, vI p1, vI 30, vL 0, vL 0, vL 0]) (r := []) (L2 := [some (.ref 1795), some (vI p1), some (vI 30), some (vL 0), none, some (vL 0), none, some (vL 0), none]) D244_82 (im_cal cn_244 cl_8_130) (Or.inl rfl) rfl sf_1795 rfl rfl rfl rfl hd ⟨rfl, rfl, rfl, rfl, rfl, rfl, trivial⟩ ?_
      refine hP.mono ?_
      rintro _ e33 M32 ⟨rfl, rfl, hP⟩
      refine im_bkN ?_
      refine im_ld (q := 86) (i := 3) D244_85 rfl rfl rfl ?_
      obtain ⟨hg35, hP⟩ := hP
      exact im_zret (q := 87) D244_86 rfl hg35 hP
  · replace hP := hP.2 hc14
    refine im_iconst (q := 57) D244_56 ?_
    exact im_zret (q := 58) D244_57 rfl (by decide) hP
set_option maxRecDepth 20000 in
set_option maxHeartbeats 4000000 in
theorem k_Search_isFound_0 {g : im_g} {d : Nat} {e : im_E} {M : im_M} {K : im_K} {p1 : Int} (hP : im_T g d 245 2 [some (.ref 1793), some (vI p1), some (vI 0)] [] e M K) : im_T g d 245 0 [some (.ref 1793), some (vI p1), none] [] e M K := by
  refine im_iconst (q := 1) D245_0 ?_
  refine im_st1 (q := 2) (i := 2) (L' := [some (.ref 1793), some (vI p1), some (vI 0)]) D245_1 (Or.inl ⟨_, rfl, rfl⟩) (Nat.le_of_ble_eq_true rfl) rfl ?_
  exact hP.wk ⟨rfl, rfl, rfl, trivial⟩
set_option maxRecDepth 20000 in
set_option maxHeartbeats 4000000 in
theorem k_Search_isFound_2 {g : im_g} {d : Nat} {e : im_E} {M : im_M} {K : im_K} {p1 p2 : Int} (hP : (im_i32 p2) ∧ (((M 1459 5) ≤ p2 → K (.inl (some (vI 0))) e M) ∧ (p2 < (M 1459 5) → (0 ≤ p2 ∧ p2 < 60) ∧ (((xiand (xishr p1 ((M 1460 p2) - 1)) 1) = 0 → im_T g d 245 2 [some (.ref 1793), some (vI p1), some (vI (p2 + 1))] [] e M K) ∧ (¬ (xiand (xishr p1 ((M 1460 p2) - 1)) 1) = 0 → K (.inl (some (vI 1))) e M))))) : im_T g d 245 2 [some (.ref 1793), some (vI p1), some (vI p2)] [] e M K := by
  refine im_ld (q := 3) (i := 2) D245_2 rfl rfl rfl ?_
  refine im_ld (q := 4) (i := 0) D245_3 rfl rfl rfl ?_
  refine im_gfR (q := 7) (b := 931) D245_4 (im_fl cn_245 fl_8_55) sf_1793 rfl rfl tR_8_1 rfl ?_
  refine im_gfR (q := 10) (b := 1459) D245_7 (im_fl cn_245 fl_8_95) sf_931 rfl rfl tR_2_9 rfl ?_
  refine im_rng (j := 5) sf_1459 (by decide) (by decide) (fun hr1 => ?_)
  refine im_gfI (q := 13) D245_10 (im_fl cn_245 fl_8_91) sf_1459 rfl rfl tI_7_5 rfl ?_
  obtain ⟨hg2, hP⟩ := hP
  refine im_icmp (q := 16) (t := 45) D245_13 rfl hg2 hr1 (fun hc3 => ?_) (fun hc3 => ?_)
  · replace hP := hP.1 hc3
    refine im_iconst (q := 46) D245_45 ?_
    exact im_zret (q := 47) D245_46 rfl (by decide) hP
  · replace hP := hP.2 (Int.not_le.mp hc3)
    refine im_ld (q := 17) (i := 1) D245_16 rfl rfl rfl ?_
    refine im_ld (q := 18) (i := 0) D245_17 rfl rfl rfl ?_
    refine im_gfR (q := 21) (b := 931) D245_18 (im_fl cn_245 fl_8_55) sf_1793 rfl rfl tR_8_1 rfl ?_
    refine im_gfR (q := 24) (b := 1459) D245_21 (im_fl cn_245 fl_8_95) sf_931 rfl rfl tR_2_9 rfl ?_
    refine im_gfR (q := 27) (b := 1460) D245_24 (im_fl cn_245 fl_8_81) sf_1459 rfl rfl tR_7_0 rfl ?_
    refine im_ld (q := 28) (i := 2) D245_27 rfl rfl rfl ?_
    obtain ⟨hg4, hP⟩ := hP
    refine im_rng (j := p2) sf_1460 hg4.1 hg4.2 (fun hr5 => ?_)
    refine im_iald (q := 29) D245_28 sf_1460 hg4.1 hg4.2 (by decide) rfl ?_
    refine im_iconst (q := 30) D245_29 ?_
    refine im_isub (q := 31) D245_30 ?_
    refine im_ishr (q := 32) D245_31 ?_
    refine im_iconst (q := 33) D245_32 ?_
    refine im_iand (q := 34) D245_33 ?_
    refine im_ifc (q := 37) (t := 39) D245_34 rfl (xiand_r _ _) (fun hc6 => ?_) (fun hc6 => ?_)
    · replace hP := hP.1 hc6
      refine im_iinc (q := 42) (i := 2) (L' := [some (.ref 1793), some (vI p1), some (vI (p2 + 1))]) D245_39 rfl (Nat.le_of_ble_eq_true rfl) rfl ?_
      refine im_goto (q := 45) (t := 2) D245_42 rfl ?_
      exact hP.wk ⟨rfl, rfl, rfl, trivial⟩
    · replace hP := hP.2 hc6
      refine im_iconst (q := 38) D245_37 ?_
      exact im_zret (q := 39) D245_38 rfl (by decide) hP

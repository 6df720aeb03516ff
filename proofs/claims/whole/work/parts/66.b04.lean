/-! blocks of the reference -/
theorem D290_0 {g : im_g} : im_D g 290 0 (.lload_n 0) 1 := im_D.of (by decide +kernel)
theorem D290_1 {g : im_g} : im_D g 290 1 (.ldc2_w 529) 4 := im_D.of (by decide +kernel)
theorem D290_4 {g : im_g} : im_D g 290 4 (.lcmp) 5 := im_D.of (by decide +kernel)
theorem D290_5 {g : im_g} : im_D g 290 5 (.ifCond .ne 8) 8 := im_D.of (by decide +kernel)
theorem D290_8 {g : im_g} : im_D g 290 8 (.bipush 22) 10 := im_D.of (by decide +kernel)
theorem D290_10 {g : im_g} : im_D g 290 10 (.goto 69) 13 := im_D.of (by decide +kernel)
theorem D290_13 {g : im_g} : im_D g 290 13 (.lload_n 0) 14 := im_D.of (by decide +kernel)
theorem D290_14 {g : im_g} : im_D g 290 14 (.ldc2_w 531) 17 := im_D.of (by decide +kernel)
theorem D290_17 {g : im_g} : im_D g 290 17 (.lcmp) 18 := im_D.of (by decide +kernel)
theorem D290_18 {g : im_g} : im_D g 290 18 (.ifCond .ne 8) 21 := im_D.of (by decide +kernel)
theorem D290_21 {g : im_g} : im_D g 290 21 (.bipush 23) 23 := im_D.of (by decide +kernel)
theorem D290_23 {g : im_g} : im_D g 290 23 (.goto 56) 26 := im_D.of (by decide +kernel)
theorem D290_26 {g : im_g} : im_D g 290 26 (.lload_n 0) 27 := im_D.of (by decide +kernel)
theorem D290_27 {g : im_g} : im_D g 290 27 (.ldc2_w 533) 30 := im_D.of (by decide +kernel)
theorem D290_30 {g : im_g} : im_D g 290 30 (.lcmp) 31 := im_D.of (by decide +kernel)
theorem D290_31 {g : im_g} : im_D g 290 31 (.ifCond .ne 8) 34 := im_D.of (by decide +kernel)
theorem D290_34 {g : im_g} : im_D g 290 34 (.bipush 24) 36 := im_D.of (by decide +kernel)
theorem D290_36 {g : im_g} : im_D g 290 36 (.goto 43) 39 := im_D.of (by decide +kernel)
theorem D290_39 {g : im_g} : im_D g 290 39 (.lload_n 0) 40 := im_D.of (by decide +kernel)
theorem D290_40 {g : im_g} : im_D g 290 40 (.ldc2_w 535) 43 := im_D.of (by decide +kernel)
theorem D290_43 {g : im_g} : im_D g 290 43 (.lcmp) 44 := im_D.of (by decide +kernel)
theorem D290_44 {g : im_g} : im_D g 290 44 (.ifCond .ne 8) 47 := im_D.of (by decide +kernel)
theorem D290_47 {g : im_g} : im_D g 290 47 (.bipush 25) 49 := im_D.of (by decide +kernel)
theorem D290_49 {g : im_g} : im_D g 290 49 (.goto 30) 52 := im_D.of (by decide +kernel)
theorem D290_52 {g : im_g} : im_D g 290 52 (.lload_n 0) 53 := im_D.of (by decide +kernel)
theorem D290_53 {g : im_g} : im_D g 290 53 (.ldc2_w 537) 56 := im_D.of (by decide +kernel)
theorem D290_56 {g : im_g} : im_D g 290 56 (.lcmp) 57 := im_D.of (by decide +kernel)
theorem D290_57 {g : im_g} : im_D g 290 57 (.ifCond .ne 8) 60 := im_D.of (by decide +kernel)
theorem D290_60 {g : im_g} : im_D g 290 60 (.bipush 26) 62 := im_D.of (by decide +kernel)
theorem D290_62 {g : im_g} : im_D g 290 62 (.goto 17) 65 := im_D.of (by decide +kernel)
theorem D290_65 {g : im_g} : im_D g 290 65 (.lload_n 0) 66 := im_D.of (by decide +kernel)
theorem D290_66 {g : im_g} : im_D g 290 66 (.ldc2_w 539) 69 := im_D.of (by decide +kernel)
theorem D290_69 {g : im_g} : im_D g 290 69 (.lcmp) 70 := im_D.of (by decide +kernel)
theorem D290_70 {g : im_g} : im_D g 290 70 (.ifCond .ne 8) 73 := im_D.of (by decide +kernel)
theorem D290_73 {g : im_g} : im_D g 290 73 (.bipush 27) 75 := im_D.of (by decide +kernel)
theorem D290_75 {g : im_g} : im_D g 290 75 (.goto 4) 78 := im_D.of (by decide +kernel)
theorem D290_78 {g : im_g} : im_D g 290 78 (.iconst 0) 79 := im_D.of (by decide +kernel)
theorem D290_79 {g : im_g} : im_D g 290 79 (.istore_n 2) 80 := im_D.of (by decide +kernel)
theorem D290_80 {g : im_g} : im_D g 290 80 (.iload_n 2) 81 := im_D.of (by decide +kernel)
theorem D290_81 {g : im_g} : im_D g 290 81 (.ifCond .le 7) 84 := im_D.of (by decide +kernel)
theorem D290_84 {g : im_g} : im_D g 290 84 (.iload_n 2) 85 := im_D.of (by decide +kernel)
theorem D290_85 {g : im_g} : im_D g 290 85 (.goto 69) 88 := im_D.of (by decide +kernel)
theorem D290_88 {g : im_g} : im_D g 290 88 (.lload_n 0) 89 := im_D.of (by decide +kernel)
theorem D290_89 {g : im_g} : im_D g 290 89 (.ldc2_w 541) 92 := im_D.of (by decide +kernel)
theorem D290_92 {g : im_g} : im_D g 290 92 (.lcmp) 93 := im_D.of (by decide +kernel)
theorem D290_93 {g : im_g} : im_D g 290 93 (.ifCond .ne 8) 96 := im_D.of (by decide +kernel)
theorem D290_96 {g : im_g} : im_D g 290 96 (.bipush 28) 98 := im_D.of (by decide +kernel)
theorem D290_98 {g : im_g} : im_D g 290 98 (.goto 56) 101 := im_D.of (by decide +kernel)
theorem D290_101 {g : im_g} : im_D g 290 101 (.lload_n 0) 102 := im_D.of (by decide +kernel)
theorem D290_102 {g : im_g} : im_D g 290 102 (.ldc2_w 543) 105 := im_D.of (by decide +kernel)
theorem D290_105 {g : im_g} : im_D g 290 105 (.lcmp) 106 := im_D.of (by decide +kernel)
theorem D290_106 {g : im_g} : im_D g 290 106 (.ifCond .ne 8) 109 := im_D.of (by decide +kernel)
theorem D290_109 {g : im_g} : im_D g 290 109 (.bipush 29) 111 := im_D.of (by decide +kernel)
theorem D290_111 {g : im_g} : im_D g 290 111 (.goto 43) 114 := im_D.of (by decide +kernel)
theorem D290_114 {g : im_g} : im_D g 290 114 (.lload_n 0) 115 := im_D.of (by decide +kernel)
theorem D290_115 {g : im_g} : im_D g 290 115 (.ldc2_w 545) 118 := im_D.of (by decide +kernel)
theorem D290_118 {g : im_g} : im_D g 290 118 (.lcmp) 119 := im_D.of (by decide +kernel)
theorem D290_119 {g : im_g} : im_D g 290 119 (.ifCond .ne 8) 122 := im_D.of (by decide +kernel)
theorem D290_122 {g : im_g} : im_D g 290 122 (.bipush 30) 124 := im_D.of (by decide +kernel)
theorem D290_124 {g : im_g} : im_D g 290 124 (.goto 30) 127 := im_D.of (by decide +kernel)
theorem D290_127 {g : im_g} : im_D g 290 127 (.lload_n 0) 128 := im_D.of (by decide +kernel)
theorem D290_128 {g : im_g} : im_D g 290 128 (.ldc2_w 547) 131 := im_D.of (by decide +kernel)
theorem D290_131 {g : im_g} : im_D g 290 131 (.lcmp) 132 := im_D.of (by decide +kernel)
theorem D290_132 {g : im_g} : im_D g 290 132 (.ifCond .ne 8) 135 := im_D.of (by decide +kernel)
theorem D290_135 {g : im_g} : im_D g 290 135 (.bipush 31) 137 := im_D.of (by decide +kernel)
theorem D290_137 {g : im_g} : im_D g 290 137 (.goto 17) 140 := im_D.of (by decide +kernel)
theorem D290_140 {g : im_g} : im_D g 290 140 (.lload_n 0) 141 := im_D.of (by decide +kernel)
theorem D290_141 {g : im_g} : im_D g 290 141 (.ldc2_w 549) 144 := im_D.of (by decide +kernel)
theorem D290_144 {g : im_g} : im_D g 290 144 (.lcmp) 145 := im_D.of (by decide +kernel)
theorem D290_145 {g : im_g} : im_D g 290 145 (.ifCond .ne 8) 148 := im_D.of (by decide +kernel)
theorem D290_148 {g : im_g} : im_D g 290 148 (.bipush 32) 150 := im_D.of (by decide +kernel)
theorem D290_150 {g : im_g} : im_D g 290 150 (.goto 4) 153 := im_D.of (by decide +kernel)
theorem D290_153 {g : im_g} : im_D g 290 153 (.iconst 0) 154 := im_D.of (by decide +kernel)
theorem D290_154 {g : im_g} : im_D g 290 154 (.ireturn) 155 := im_D.of (by decide +kernel)
theorem D291_0 {g : im_g} : im_D g 291 0 (.aload_n 0) 1 := im_D.of (by decide +kernel)
theorem D291_1 {g : im_g} : im_D g 291 1 (.getfield 30) 4 := im_D.of (by decide +kernel)
theorem D291_4 {g : im_g} : im_D g 291 4 (.aload_n 0) 5 := im_D.of (by decide +kernel)
theorem D291_5 {g : im_g} : im_D g 291 5 (.getfield 585) 8 := im_D.of (by decide +kernel)
theorem D291_8 {g : im_g} : im_D g 291 8 (.iaload) 9 := im_D.of (by decide +kernel)
theorem D291_9 {g : im_g} : im_D g 291 9 (.bipush 45) 11 := im_D.of (by decide +kernel)
theorem D291_11 {g : im_g} : im_D g 291 11 (.if_icmp .ne 12) 14 := im_D.of (by decide +kernel)
theorem D291_14 {g : im_g} : im_D g 291 14 (.aload_n 0) 15 := im_D.of (by decide +kernel)
theorem D291_15 {g : im_g} : im_D g 291 15 (.getfield 585) 18 := im_D.of (by decide +kernel)
theorem D291_18 {g : im_g} : im_D g 291 18 (.iconst 1) 19 := im_D.of (by decide +kernel)
theorem D291_19 {g : im_g} : im_D g 291 19 (.iadd) 20 := im_D.of (by decide +kernel)
theorem D291_20 {g : im_g} : im_D g 291 20 (.goto 7) 23 := im_D.of (by decide +kernel)
theorem D291_23 {g : im_g} : im_D g 291 23 (.aload_n 0) 24 := im_D.of (by decide +kernel)
theorem D291_24 {g : im_g} : im_D g 291 24 (.getfield 585) 27 := im_D.of (by decide +kernel)
theorem D291_27 {g : im_g} : im_D g 291 27 (.istore_n 1) 28 := im_D.of (by decide +kernel)
theorem D291_28 {g : im_g} : im_D g 291 28 (.aload_n 0) 29 := im_D.of (by decide +kernel)
theorem D291_29 {g : im_g} : im_D g 291 29 (.getfield 449) 32 := im_D.of (by decide +kernel)
theorem D291_32 {g : im_g} : im_D g 291 32 (.istore_n 2) 33 := im_D.of (by decide +kernel)
theorem D291_33 {g : im_g} : im_D g 291 33 (.aload_n 0) 34 := im_D.of (by decide +kernel)
theorem D291_34 {g : im_g} : im_D g 291 34 (.getfield 588) 37 := im_D.of (by decide +kernel)
theorem D291_37 {g : im_g} : im_D g 291 37 (.iload_n 1) 38 := im_D.of (by decide +kernel)
theorem D291_38 {g : im_g} : im_D g 291 38 (.isub) 39 := im_D.of (by decide +kernel)
theorem D291_39 {g : im_g} : im_D g 291 39 (.istore_n 3) 40 := im_D.of (by decide +kernel)
theorem D291_40 {g : im_g} : im_D g 291 40 (.iload_n 3) 41 := im_D.of (by decide +kernel)
theorem D291_41 {g : im_g} : im_D g 291 41 (.ifCond .le 25) 44 := im_D.of (by decide +kernel)
theorem D291_44 {g : im_g} : im_D g 291 44 (.aload_n 0) 45 := im_D.of (by decide +kernel)
theorem D291_45 {g : im_g} : im_D g 291 45 (.getfield 30) 48 := im_D.of (by decide +kernel)
theorem D291_48 {g : im_g} : im_D g 291 48 (.aload_n 0) 49 := im_D.of (by decide +kernel)
theorem D291_49 {g : im_g} : im_D g 291 49 (.getfield 588) 52 := im_D.of (by decide +kernel)
theorem D291_52 {g : im_g} : im_D g 291 52 (.iload_n 3) 53 := im_D.of (by decide +kernel)
theorem D291_53 {g : im_g} : im_D g 291 53 (.isub) 54 := im_D.of (by decide +kernel)
theorem D291_54 {g : im_g} : im_D g 291 54 (.iaload) 55 := im_D.of (by decide +kernel)
theorem D291_55 {g : im_g} : im_D g 291 55 (.bipush 48) 57 := im_D.of (by decide +kernel)
theorem D291_57 {g : im_g} : im_D g 291 57 (.if_icmp .ne 9) 60 := im_D.of (by decide +kernel)
theorem D291_60 {g : im_g} : im_D g 291 60 (.iinc 3 (-1)) 63 := im_D.of (by decide +kernel)
theorem D291_63 {g : im_g} : im_D g 291 63 (.goto (-23)) 66 := im_D.of (by decide +kernel)
theorem D291_66 {g : im_g} : im_D g 291 66 (.iconst 0) 67 := im_D.of (by decide +kernel)
theorem D291_67 {g : im_g} : im_D g 291 67 (.istore 4) 69 := im_D.of (by decide +kernel)
theorem D291_69 {g : im_g} : im_D g 291 69 (.iload 4) 71 := im_D.of (by decide +kernel)
theorem D291_71 {g : im_g} : im_D g 291 71 (.iload_n 3) 72 := im_D.of (by decide +kernel)
theorem D291_72 {g : im_g} : im_D g 291 72 (.if_icmp .ge 37) 75 := im_D.of (by decide +kernel)
theorem D291_75 {g : im_g} : im_D g 291 75 (.aload_n 0) 76 := im_D.of (by decide +kernel)
theorem D291_76 {g : im_g} : im_D g 291 76 (.getfield 17) 79 := im_D.of (by decide +kernel)
theorem D291_79 {g : im_g} : im_D g 291 79 (.iload_n 2) 80 := im_D.of (by decide +kernel)
theorem D291_80 {g : im_g} : im_D g 291 80 (.iconst 2) 81 := im_D.of (by decide +kernel)
theorem D291_81 {g : im_g} : im_D g 291 81 (.iadd) 82 := im_D.of (by decide +kernel)
theorem D291_82 {g : im_g} : im_D g 291 82 (.iload 4) 84 := im_D.of (by decide +kernel)
theorem D291_84 {g : im_g} : im_D g 291 84 (.iadd) 85 := im_D.of (by decide +kernel)
theorem D291_85 {g : im_g} : im_D g 291 85 (.aload_n 0) 86 := im_D.of (by decide +kernel)
theorem D291_86 {g : im_g} : im_D g 291 86 (.getfield 30) 89 := im_D.of (by decide +kernel)
theorem D291_89 {g : im_g} : im_D g 291 89 (.aload_n 0) 90 := im_D.of (by decide +kernel)
theorem D291_90 {g : im_g} : im_D g 291 90 (.getfield 588) 93 := im_D.of (by decide +kernel)
theorem D291_93 {g : im_g} : im_D g 291 93 (.iconst 1) 94 := im_D.of (by decide +kernel)
theorem D291_94 {g : im_g} : im_D g 291 94 (.isub) 95 := im_D.of (by decide +kernel)
theorem D291_95 {g : im_g} : im_D g 291 95 (.iload 4) 97 := im_D.of (by decide +kernel)
theorem D291_97 {g : im_g} : im_D g 291 97 (.isub) 98 := im_D.of (by decide +kernel)
theorem D291_98 {g : im_g} : im_D g 291 98 (.iaload) 99 := im_D.of (by decide +kernel)
theorem D291_99 {g : im_g} : im_D g 291 99 (.bipush 48) 101 := im_D.of (by decide +kernel)
theorem D291_101 {g : im_g} : im_D g 291 101 (.isub) 102 := im_D.of (by decide +kernel)
theorem D291_102 {g : im_g} : im_D g 291 102 (.iastore) 103 := im_D.of (by decide +kernel)
theorem D291_103 {g : im_g} : im_D g 291 103 (.iinc 4 1) 106 := im_D.of (by decide +kernel)
theorem D291_106 {g : im_g} : im_D g 291 106 (.goto (-37)) 109 := im_D.of (by decide +kernel)
theorem D291_109 {g : im_g} : im_D g 291 109 (.aload_n 0) 110 := im_D.of (by decide +kernel)
theorem D291_110 {g : im_g} : im_D g 291 110 (.iload_n 2) 111 := im_D.of (by decide +kernel)
theorem D291_111 {g : im_g} : im_D g 291 111 (.iload_n 3) 112 := im_D.of (by decide +kernel)
theorem D291_112 {g : im_g} : im_D g 291 112 (.iload_n 1) 113 := im_D.of (by decide +kernel)
theorem D291_113 {g : im_g} : im_D g 291 113 (.aload_n 0) 114 := im_D.of (by decide +kernel)
theorem D291_114 {g : im_g} : im_D g 291 114 (.getfield 585) 117 := im_D.of (by decide +kernel)
theorem D291_117 {g : im_g} : im_D g 291 117 (.if_icmp .ne 7) 120 := im_D.of (by decide +kernel)
theorem D291_120 {g : im_g} : im_D g 291 120 (.iconst 1) 121 := im_D.of (by decide +kernel)
theorem D291_121 {g : im_g} : im_D g 291 121 (.goto 4) 124 := im_D.of (by decide +kernel)
theorem D291_124 {g : im_g} : im_D g 291 124 (.iconst (-1)) 125 := im_D.of (by decide +kernel)
theorem D291_125 {g : im_g} : im_D g 291 125 (.invokevirtual 455) 128 := im_D.of (by decide +kernel)
theorem D291_128 {g : im_g} : im_D g 291 128 (.ireturn) 129 := im_D.of (by decide +kernel)
theorem D293_0 {g : im_g} : im_D g 293 0 (.aload_n 0) 1 := im_D.of (by decide +kernel)
theorem D293_1 {g : im_g} : im_D g 293 1 (.getfield 591) 4 := im_D.of (by decide +kernel)
theorem D293_4 {g : im_g} : im_D g 293 4 (.iconst 2) 5 := im_D.of (by decide +kernel)
theorem D293_5 {g : im_g} : im_D g 293 5 (.if_icmp .ne 13) 8 := im_D.of (by decide +kernel)
theorem D293_8 {g : im_g} : im_D g 293 8 (.aload_n 0) 9 := im_D.of (by decide +kernel)
theorem D293_9 {g : im_g} : im_D g 293 9 (.getfield 597) 12 := im_D.of (by decide +kernel)
theorem D293_12 {g : im_g} : im_D g 293 12 (.invokestatic 662) 15 := im_D.of (by decide +kernel)
theorem D293_15 {g : im_g} : im_D g 293 15 (.goto 4) 18 := im_D.of (by decide +kernel)
theorem D293_18 {g : im_g} : im_D g 293 18 (.iconst 0) 19 := im_D.of (by decide +kernel)
theorem D293_19 {g : im_g} : im_D g 293 19 (.istore 4) 21 := im_D.of (by decide +kernel)
theorem D293_21 {g : im_g} : im_D g 293 21 (.iload 4) 23 := im_D.of (by decide +kernel)
theorem D293_23 {g : im_g} : im_D g 293 23 (.ifCond .ne 8) 26 := im_D.of (by decide +kernel)
theorem D293_26 {g : im_g} : im_D g 293 26 (.aload_n 0) 27 := im_D.of (by decide +kernel)
theorem D293_27 {g : im_g} : im_D g 293 27 (.invokevirtual 639) 30 := im_D.of (by decide +kernel)
theorem D293_30 {g : im_g} : im_D g 293 30 (.return_) 31 := im_D.of (by decide +kernel)
theorem D293_31 {g : im_g} : im_D g 293 31 (.aload_n 0) 32 := im_D.of (by decide +kernel)
theorem D293_32 {g : im_g} : im_D g 293 32 (.iload 4) 34 := im_D.of (by decide +kernel)
theorem D293_34 {g : im_g} : im_D g 293 34 (.iload_n 3) 35 := im_D.of (by decide +kernel)
theorem D293_35 {g : im_g} : im_D g 293 35 (.invokevirtual 642) 38 := im_D.of (by decide +kernel)
theorem D293_38 {g : im_g} : im_D g 293 38 (.istore 5) 40 := im_D.of (by decide +kernel)
theorem D293_40 {g : im_g} : im_D g 293 40 (.iload 5) 42 := im_D.of (by decide +kernel)
theorem D293_42 {g : im_g} : im_D g 293 42 (.iconst (-1)) 43 := im_D.of (by decide +kernel)
theorem D293_43 {g : im_g} : im_D g 293 43 (.if_icmp .ne 4) 46 := im_D.of (by decide +kernel)
theorem D293_46 {g : im_g} : im_D g 293 46 (.return_) 47 := im_D.of (by decide +kernel)
theorem D293_47 {g : im_g} : im_D g 293 47 (.aload_n 0) 48 := im_D.of (by decide +kernel)
theorem D293_48 {g : im_g} : im_D g 293 48 (.iload_n 1) 49 := im_D.of (by decide +kernel)
theorem D293_49 {g : im_g} : im_D g 293 49 (.iload_n 2) 50 := im_D.of (by decide +kernel)
theorem D293_50 {g : im_g} : im_D g 293 50 (.iload 5) 52 := im_D.of (by decide +kernel)
theorem D293_52 {g : im_g} : im_D g 293 52 (.invokevirtual 645) 55 := im_D.of (by decide +kernel)
theorem D293_55 {g : im_g} : im_D g 293 55 (.aload_n 0) 56 := im_D.of (by decide +kernel)
theorem D293_56 {g : im_g} : im_D g 293 56 (.invokevirtual 649) 59 := im_D.of (by decide +kernel)
theorem D293_59 {g : im_g} : im_D g 293 59 (.iload 4) 61 := im_D.of (by decide +kernel)
theorem D293_61 {g : im_g} : im_D g 293 61 (.bipush 40) 63 := im_D.of (by decide +kernel)
theorem D293_63 {g : im_g} : im_D g 293 63 (.if_icmp .eq 10) 66 := im_D.of (by decide +kernel)
theorem D293_66 {g : im_g} : im_D g 293 66 (.iload 4) 68 := im_D.of (by decide +kernel)
theorem D293_68 {g : im_g} : im_D g 293 68 (.bipush 41) 70 := im_D.of (by decide +kernel)
theorem D293_70 {g : im_g} : im_D g 293 70 (.if_icmp .ne 28) 73 := im_D.of (by decide +kernel)
theorem D293_73 {g : im_g} : im_D g 293 73 (.aload_n 0) 74 := im_D.of (by decide +kernel)
theorem D293_74 {g : im_g} : im_D g 293 74 (.iconst 3) 75 := im_D.of (by decide +kernel)
theorem D293_75 {g : im_g} : im_D g 293 75 (.iload 5) 77 := im_D.of (by decide +kernel)
theorem D293_77 {g : im_g} : im_D g 293 77 (.iconst 2) 78 := im_D.of (by decide +kernel)
theorem D293_78 {g : im_g} : im_D g 293 78 (.iload_n 3) 79 := im_D.of (by decide +kernel)
theorem D293_79 {g : im_g} : im_D g 293 79 (.iconst 1) 80 := im_D.of (by decide +kernel)
theorem D293_80 {g : im_g} : im_D g 293 80 (.iadd) 81 := im_D.of (by decide +kernel)
theorem D293_81 {g : im_g} : im_D g 293 81 (.invokevirtual 652) 84 := im_D.of (by decide +kernel)
theorem D293_84 {g : im_g} : im_D g 293 84 (.aload_n 0) 85 := im_D.of (by decide +kernel)
theorem D293_85 {g : im_g} : im_D g 293 85 (.iconst 3) 86 := im_D.of (by decide +kernel)
theorem D293_86 {g : im_g} : im_D g 293 86 (.iload 5) 88 := im_D.of (by decide +kernel)
theorem D293_88 {g : im_g} : im_D g 293 88 (.iconst 1) 89 := im_D.of (by decide +kernel)
theorem D293_89 {g : im_g} : im_D g 293 89 (.iload_n 3) 90 := im_D.of (by decide +kernel)
theorem D293_90 {g : im_g} : im_D g 293 90 (.iconst 1) 91 := im_D.of (by decide +kernel)
theorem D293_91 {g : im_g} : im_D g 293 91 (.iadd) 92 := im_D.of (by decide +kernel)
theorem D293_92 {g : im_g} : im_D g 293 92 (.invokevirtual 652) 95 := im_D.of (by decide +kernel)
theorem D293_95 {g : im_g} : im_D g 293 95 (.goto 81) 98 := im_D.of (by decide +kernel)
theorem D293_98 {g : im_g} : im_D g 293 98 (.iload 4) 100 := im_D.of (by decide +kernel)
theorem D293_100 {g : im_g} : im_D g 293 100 (.bipush 42) 102 := im_D.of (by decide +kernel)
theorem D293_102 {g : im_g} : im_D g 293 102 (.if_icmp .ne 17) 105 := im_D.of (by decide +kernel)
theorem D293_105 {g : im_g} : im_D g 293 105 (.aload_n 0) 106 := im_D.of (by decide +kernel)
theorem D293_106 {g : im_g} : im_D g 293 106 (.iconst 3) 107 := im_D.of (by decide +kernel)
theorem D293_107 {g : im_g} : im_D g 293 107 (.iload 5) 109 := im_D.of (by decide +kernel)
theorem D293_109 {g : im_g} : im_D g 293 109 (.iconst 1) 110 := im_D.of (by decide +kernel)
theorem D293_110 {g : im_g} : im_D g 293 110 (.iload_n 3) 111 := im_D.of (by decide +kernel)
theorem D293_111 {g : im_g} : im_D g 293 111 (.iconst 1) 112 := im_D.of (by decide +kernel)
theorem D293_112 {g : im_g} : im_D g 293 112 (.iadd) 113 := im_D.of (by decide +kernel)
theorem D293_113 {g : im_g} : im_D g 293 113 (.invokevirtual 652) 116 := im_D.of (by decide +kernel)
theorem D293_116 {g : im_g} : im_D g 293 116 (.goto 60) 119 := im_D.of (by decide +kernel)
theorem D293_119 {g : im_g} : im_D g 293 119 (.iload 4) 121 := im_D.of (by decide +kernel)
theorem D293_121 {g : im_g} : im_D g 293 121 (.bipush 43) 123 := im_D.of (by decide +kernel)
theorem D293_123 {g : im_g} : im_D g 293 123 (.if_icmp .ne 24) 126 := im_D.of (by decide +kernel)
theorem D293_126 {g : im_g} : im_D g 293 126 (.aload_n 0) 127 := im_D.of (by decide +kernel)
theorem D293_127 {g : im_g} : im_D g 293 127 (.iconst 4) 128 := im_D.of (by decide +kernel)
theorem D293_128 {g : im_g} : im_D g 293 128 (.iload 5) 130 := im_D.of (by decide +kernel)
theorem D293_130 {g : im_g} : im_D g 293 130 (.iconst 2) 131 := im_D.of (by decide +kernel)
theorem D293_131 {g : im_g} : im_D g 293 131 (.iload_n 3) 132 := im_D.of (by decide +kernel)
theorem D293_132 {g : im_g} : im_D g 293 132 (.invokevirtual 652) 135 := im_D.of (by decide +kernel)
theorem D293_135 {g : im_g} : im_D g 293 135 (.aload_n 0) 136 := im_D.of (by decide +kernel)
theorem D293_136 {g : im_g} : im_D g 293 136 (.iconst 4) 137 := im_D.of (by decide +kernel)
theorem D293_137 {g : im_g} : im_D g 293 137 (.iload 5) 139 := im_D.of (by decide +kernel)
theorem D293_139 {g : im_g} : im_D g 293 139 (.iconst 1) 140 := im_D.of (by decide +kernel)
theorem D293_140 {g : im_g} : im_D g 293 140 (.iload_n 3) 141 := im_D.of (by decide +kernel)
theorem D293_141 {g : im_g} : im_D g 293 141 (.invokevirtual 652) 144 := im_D.of (by decide +kernel)
theorem D293_144 {g : im_g} : im_D g 293 144 (.goto 32) 147 := im_D.of (by decide +kernel)
theorem D293_147 {g : im_g} : im_D g 293 147 (.iload 4) 149 := im_D.of (by decide +kernel)
theorem D293_149 {g : im_g} : im_D g 293 149 (.bipush 49) 151 := im_D.of (by decide +kernel)
theorem D293_151 {g : im_g} : im_D g 293 151 (.if_icmp .ge 25) 154 := im_D.of (by decide +kernel)
theorem D293_154 {g : im_g} : im_D g 293 154 (.aload_n 0) 155 := im_D.of (by decide +kernel)
theorem D293_155 {g : im_g} : im_D g 293 155 (.iconst 2) 156 := im_D.of (by decide +kernel)
theorem D293_156 {g : im_g} : im_D g 293 156 (.iload 5) 158 := im_D.of (by decide +kernel)
theorem D293_158 {g : im_g} : im_D g 293 158 (.iconst 2) 159 := im_D.of (by decide +kernel)
theorem D293_159 {g : im_g} : im_D g 293 159 (.iload_n 3) 160 := im_D.of (by decide +kernel)
theorem D293_160 {g : im_g} : im_D g 293 160 (.iconst 1) 161 := im_D.of (by decide +kernel)
theorem D293_161 {g : im_g} : im_D g 293 161 (.iadd) 162 := im_D.of (by decide +kernel)
theorem D293_162 {g : im_g} : im_D g 293 162 (.invokevirtual 652) 165 := im_D.of (by decide +kernel)
theorem D293_165 {g : im_g} : im_D g 293 165 (.aload_n 0) 166 := im_D.of (by decide +kernel)
theorem D293_166 {g : im_g} : im_D g 293 166 (.iconst 2) 167 := im_D.of (by decide +kernel)
theorem D293_167 {g : im_g} : im_D g 293 167 (.iload 5) 169 := im_D.of (by decide +kernel)
theorem D293_169 {g : im_g} : im_D g 293 169 (.iconst 1) 170 := im_D.of (by decide +kernel)
theorem D293_170 {g : im_g} : im_D g 293 170 (.iload_n 3) 171 := im_D.of (by decide +kernel)
theorem D293_171 {g : im_g} : im_D g 293 171 (.iconst 1) 172 := im_D.of (by decide +kernel)
theorem D293_172 {g : im_g} : im_D g 293 172 (.iadd) 173 := im_D.of (by decide +kernel)
theorem D293_173 {g : im_g} : im_D g 293 173 (.invokevirtual 652) 176 := im_D.of (by decide +kernel)
theorem D293_176 {g : im_g} : im_D g 293 176 (.return_) 177 := im_D.of (by decide +kernel)
theorem D294_0 {g : im_g} : im_D g 294 0 (.lload_n 0) 1 := im_D.of (by decide +kernel)
theorem D294_1 {g : im_g} : im_D g 294 1 (.ldc2_w 551) 4 := im_D.of (by decide +kernel)
theorem D294_4 {g : im_g} : im_D g 294 4 (.lcmp) 5 := im_D.of (by decide +kernel)
theorem D294_5 {g : im_g} : im_D g 294 5 (.ifCond .ne 8) 8 := im_D.of (by decide +kernel)
theorem D294_8 {g : im_g} : im_D g 294 8 (.bipush 40) 10 := im_D.of (by decide +kernel)
theorem D294_10 {g : im_g} : im_D g 294 10 (.goto 69) 13 := im_D.of (by decide +kernel)
theorem D294_13 {g : im_g} : im_D g 294 13 (.lload_n 0) 14 := im_D.of (by decide +kernel)
theorem D294_14 {g : im_g} : im_D g 294 14 (.ldc2_w 553) 17 := im_D.of (by decide +kernel)
theorem D294_17 {g : im_g} : im_D g 294 17 (.lcmp) 18 := im_D.of (by decide +kernel)
theorem D294_18 {g : im_g} : im_D g 294 18 (.ifCond .ne 8) 21 := im_D.of (by decide +kernel)
theorem D294_21 {g : im_g} : im_D g 294 21 (.bipush 41) 23 := im_D.of (by decide +kernel)
theorem D294_23 {g : im_g} : im_D g 294 23 (.goto 56) 26 := im_D.of (by decide +kernel)
theorem D294_26 {g : im_g} : im_D g 294 26 (.lload_n 0) 27 := im_D.of (by decide +kernel)
theorem D294_27 {g : im_g} : im_D g 294 27 (.ldc2_w 555) 30 := im_D.of (by decide +kernel)
theorem D294_30 {g : im_g} : im_D g 294 30 (.lcmp) 31 := im_D.of (by decide +kernel)
theorem D294_31 {g : im_g} : im_D g 294 31 (.ifCond .ne 8) 34 := im_D.of (by decide +kernel)
theorem D294_34 {g : im_g} : im_D g 294 34 (.bipush 42) 36 := im_D.of (by decide +kernel)
theorem D294_36 {g : im_g} : im_D g 294 36 (.goto 43) 39 := im_D.of (by decide +kernel)
theorem D294_39 {g : im_g} : im_D g 294 39 (.lload_n 0) 40 := im_D.of (by decide +kernel)
theorem D294_40 {g : im_g} : im_D g 294 40 (.ldc2_w 557) 43 := im_D.of (by decide +kernel)
theorem D294_43 {g : im_g} : im_D g 294 43 (.lcmp) 44 := im_D.of (by decide +kernel)
theorem D294_44 {g : im_g} : im_D g 294 44 (.ifCond .ne 8) 47 := im_D.of (by decide +kernel)
theorem D294_47 {g : im_g} : im_D g 294 47 (.bipush 43) 49 := im_D.of (by decide +kernel)
theorem D294_49 {g : im_g} : im_D g 294 49 (.goto 30) 52 := im_D.of (by decide +kernel)
theorem D294_52 {g : im_g} : im_D g 294 52 (.lload_n 0) 53 := im_D.of (by decide +kernel)
theorem D294_53 {g : im_g} : im_D g 294 53 (.ldc2_w 569) 56 := im_D.of (by decide +kernel)
theorem D294_56 {g : im_g} : im_D g 294 56 (.lcmp) 57 := im_D.of (by decide +kernel)
theorem D294_57 {g : im_g} : im_D g 294 57 (.ifCond .ne 8) 60 := im_D.of (by decide +kernel)
theorem D294_60 {g : im_g} : im_D g 294 60 (.bipush 49) 62 := im_D.of (by decide +kernel)
theorem D294_62 {g : im_g} : im_D g 294 62 (.goto 17) 65 := im_D.of (by decide +kernel)
theorem D294_65 {g : im_g} : im_D g 294 65 (.lload_n 0) 66 := im_D.of (by decide +kernel)
theorem D294_66 {g : im_g} : im_D g 294 66 (.ldc2_w 571) 69 := im_D.of (by decide +kernel)
theorem D294_69 {g : im_g} : im_D g 294 69 (.lcmp) 70 := im_D.of (by decide +kernel)
theorem D294_70 {g : im_g} : im_D g 294 70 (.ifCond .ne 8) 73 := im_D.of (by decide +kernel)
theorem D294_73 {g : im_g} : im_D g 294 73 (.bipush 50) 75 := im_D.of (by decide +kernel)
theorem D294_75 {g : im_g} : im_D g 294 75 (.goto 4) 78 := im_D.of (by decide +kernel)
theorem D294_78 {g : im_g} : im_D g 294 78 (.iconst 0) 79 := im_D.of (by decide +kernel)
theorem D294_79 {g : im_g} : im_D g 294 79 (.istore_n 2) 80 := im_D.of (by decide +kernel)
theorem D294_80 {g : im_g} : im_D g 294 80 (.iload_n 2) 81 := im_D.of (by decide +kernel)
theorem D294_81 {g : im_g} : im_D g 294 81 (.ifCond .le 7) 84 := im_D.of (by decide +kernel)
theorem D294_84 {g : im_g} : im_D g 294 84 (.iload_n 2) 85 := im_D.of (by decide +kernel)
theorem D294_85 {g : im_g} : im_D g 294 85 (.goto 69) 88 := im_D.of (by decide +kernel)
theorem D294_88 {g : im_g} : im_D g 294 88 (.lload_n 0) 89 := im_D.of (by decide +kernel)
theorem D294_89 {g : im_g} : im_D g 294 89 (.ldc2_w 559) 92 := im_D.of (by decide +kernel)
theorem D294_92 {g : im_g} : im_D g 294 92 (.lcmp) 93 := im_D.of (by decide +kernel)
theorem D294_93 {g : im_g} : im_D g 294 93 (.ifCond .ne 8) 96 := im_D.of (by decide +kernel)
theorem D294_96 {g : im_g} : im_D g 294 96 (.bipush 44) 98 := im_D.of (by decide +kernel)
theorem D294_98 {g : im_g} : im_D g 294 98 (.goto 56) 101 := im_D.of (by decide +kernel)
theorem D294_101 {g : im_g} : im_D g 294 101 (.lload_n 0) 102 := im_D.of (by decide +kernel)
theorem D294_102 {g : im_g} : im_D g 294 102 (.ldc2_w 561) 105 := im_D.of (by decide +kernel)
theorem D294_105 {g : im_g} : im_D g 294 105 (.lcmp) 106 := im_D.of (by decide +kernel)
theorem D294_106 {g : im_g} : im_D g 294 106 (.ifCond .ne 8) 109 := im_D.of (by decide +kernel)
theorem D294_109 {g : im_g} : im_D g 294 109 (.bipush 45) 111 := im_D.of (by decide +kernel)
theorem D294_111 {g : im_g} : im_D g 294 111 (.goto 43) 114 := im_D.of (by decide +kernel)
theorem D294_114 {g : im_g} : im_D g 294 114 (.lload_n 0) 115 := im_D.of (by decide +kernel)
theorem D294_115 {g : im_g} : im_D g 294 115 (.ldc2_w 563) 118 := im_D.of (by decide +kernel)
theorem D294_118 {g : im_g} : im_D g 294 118 (.lcmp) 119 := im_D.of (by decide +kernel)
theorem D294_119 {g : im_g} : im_D g 294 119 (.ifCond .ne 8) 122 := im_D.of (by decide +kernel)
theorem D294_122 {g : im_g} : im_D g 294 122 (.bipush 46) 124 := im_D.of (by decide +kernel)
theorem D294_124 {g : im_g} : im_D g 294 124 (.goto 30) 127 := im_D.of (by decide +kernel)
theorem D294_127 {g : im_g} : im_D g 294 127 (.lload_n 0) 128 := im_D.of (by decide +kernel)
theorem D294_128 {g : im_g} : im_D g 294 128 (.ldc2_w 565) 131 := im_D.of (by decide +kernel)
theorem D294_131 {g : im_g} : im_D g 294 131 (.lcmp) 132 := im_D.of (by decide +kernel)
theorem D294_132 {g : im_g} : im_D g 294 132 (.ifCond .ne 8) 135 := im_D.of (by decide +kernel)
theorem D294_135 {g : im_g} : im_D g 294 135 (.bipush 47) 137 := im_D.of (by decide +kernel)
theorem D294_137 {g : im_g} : im_D g 294 137 (.goto 17) 140 := im_D.of (by decide +kernel)
theorem D294_140 {g : im_g} : im_D g 294 140 (.lload_n 0) 141 := im_D.of (by decide +kernel)
theorem D294_141 {g : im_g} : im_D g 294 141 (.ldc2_w 567) 144 := im_D.of (by decide +kernel)
theorem D294_144 {g : im_g} : im_D g 294 144 (.lcmp) 145 := im_D.of (by decide +kernel)
theorem D294_145 {g : im_g} : im_D g 294 145 (.ifCond .ne 8) 148 := im_D.of (by decide +kernel)
theorem D294_148 {g : im_g} : im_D g 294 148 (.bipush 48) 150 := im_D.of (by decide +kernel)
theorem D294_150 {g : im_g} : im_D g 294 150 (.goto 4) 153 := im_D.of (by decide +kernel)
theorem D294_153 {g : im_g} : im_D g 294 153 (.iconst 0) 154 := im_D.of (by decide +kernel)
theorem D294_154 {g : im_g} : im_D g 294 154 (.ireturn) 155 := im_D.of (by decide +kernel)
theorem D295_0 {g : im_g} : im_D g 295 0 (.aload_n 0) 1 := im_D.of (by decide +kernel)
theorem D295_1 {g : im_g} : im_D g 295 1 (.getfield 591) 4 := im_D.of (by decide +kernel)
theorem D295_4 {g : im_g} : im_D g 295 4 (.iconst 3) 5 := im_D.of (by decide +kernel)
theorem D295_5 {g : im_g} : im_D g 295 5 (.if_icmp .eq 8) 8 := im_D.of (by decide +kernel)
theorem D295_8 {g : im_g} : im_D g 295 8 (.aload_n 0) 9 := im_D.of (by decide +kernel)
theorem D295_9 {g : im_g} : im_D g 295 9 (.invokevirtual 639) 12 := im_D.of (by decide +kernel)
theorem D295_12 {g : im_g} : im_D g 295 12 (.return_) 13 := im_D.of (by decide +kernel)
theorem D295_13 {g : im_g} : im_D g 295 13 (.iload_n 2) 14 := im_D.of (by decide +kernel)
theorem D295_14 {g : im_g} : im_D g 295 14 (.iconst 1) 15 := im_D.of (by decide +kernel)
theorem D295_15 {g : im_g} : im_D g 295 15 (.if_icmp .ne 16) 18 := im_D.of (by decide +kernel)
theorem D295_18 {g : im_g} : im_D g 295 18 (.aload_n 0) 19 := im_D.of (by decide +kernel)
theorem D295_19 {g : im_g} : im_D g 295 19 (.getfield 36) 22 := im_D.of (by decide +kernel)
theorem D295_22 {g : im_g} : im_D g 295 22 (.iload_n 1) 23 := im_D.of (by decide +kernel)
theorem D295_23 {g : im_g} : im_D g 295 23 (.aload_n 0) 24 := im_D.of (by decide +kernel)
theorem D295_24 {g : im_g} : im_D g 295 24 (.getfield 597) 27 := im_D.of (by decide +kernel)
theorem D295_27 {g : im_g} : im_D g 295 27 (.lastore) 28 := im_D.of (by decide +kernel)
theorem D295_28 {g : im_g} : im_D g 295 28 (.goto 31) 31 := im_D.of (by decide +kernel)
theorem D295_31 {g : im_g} : im_D g 295 31 (.iload_n 2) 32 := im_D.of (by decide +kernel)
theorem D295_32 {g : im_g} : im_D g 295 32 (.iconst 2) 33 := im_D.of (by decide +kernel)
theorem D295_33 {g : im_g} : im_D g 295 33 (.if_icmp .ne 16) 36 := im_D.of (by decide +kernel)
theorem D295_36 {g : im_g} : im_D g 295 36 (.aload_n 0) 37 := im_D.of (by decide +kernel)
theorem D295_37 {g : im_g} : im_D g 295 37 (.getfield 39) 40 := im_D.of (by decide +kernel)
theorem D295_40 {g : im_g} : im_D g 295 40 (.iload_n 1) 41 := im_D.of (by decide +kernel)
theorem D295_41 {g : im_g} : im_D g 295 41 (.aload_n 0) 42 := im_D.of (by decide +kernel)
theorem D295_42 {g : im_g} : im_D g 295 42 (.getfield 597) 45 := im_D.of (by decide +kernel)
theorem D295_45 {g : im_g} : im_D g 295 45 (.lastore) 46 := im_D.of (by decide +kernel)
theorem D295_46 {g : im_g} : im_D g 295 46 (.goto 13) 49 := im_D.of (by decide +kernel)
theorem D295_49 {g : im_g} : im_D g 295 49 (.aload_n 0) 50 := im_D.of (by decide +kernel)
theorem D295_50 {g : im_g} : im_D g 295 50 (.getfield 42) 53 := im_D.of (by decide +kernel)
theorem D295_53 {g : im_g} : im_D g 295 53 (.iload_n 1) 54 := im_D.of (by decide +kernel)
theorem D295_54 {g : im_g} : im_D g 295 54 (.aload_n 0) 55 := im_D.of (by decide +kernel)
theorem D295_55 {g : im_g} : im_D g 295 55 (.getfield 597) 58 := im_D.of (by decide +kernel)
theorem D295_58 {g : im_g} : im_D g 295 58 (.lastore) 59 := im_D.of (by decide +kernel)
theorem D295_59 {g : im_g} : im_D g 295 59 (.aload_n 0) 60 := im_D.of (by decide +kernel)
theorem D295_60 {g : im_g} : im_D g 295 60 (.invokevirtual 649) 63 := im_D.of (by decide +kernel)
theorem D295_63 {g : im_g} : im_D g 295 63 (.return_) 64 := im_D.of (by decide +kernel)
theorem D296_0 {g : im_g} : im_D g 296 0 (.aload_n 0) 1 := im_D.of (by decide +kernel)
theorem D296_1 {g : im_g} : im_D g 296 1 (.getfield 591) 4 := im_D.of (by decide +kernel)
theorem D296_4 {g : im_g} : im_D g 296 4 (.bipush 8) 6 := im_D.of (by decide +kernel)
theorem D296_6 {g : im_g} : im_D g 296 6 (.if_icmp .ne 8) 9 := im_D.of (by decide +kernel)
theorem D296_9 {g : im_g} : im_D g 296 9 (.aload_n 0) 10 := im_D.of (by decide +kernel)
theorem D296_10 {g : im_g} : im_D g 296 10 (.invokevirtual 649) 13 := im_D.of (by decide +kernel)
theorem D296_13 {g : im_g} : im_D g 296 13 (.return_) 14 := im_D.of (by decide +kernel)
theorem D296_14 {g : im_g} : im_D g 296 14 (.aload_n 0) 15 := im_D.of (by decide +kernel)
theorem D296_15 {g : im_g} : im_D g 296 15 (.getfield 591) 18 := im_D.of (by decide +kernel)
theorem D296_18 {g : im_g} : im_D g 296 18 (.iconst 2) 19 := im_D.of (by decide +kernel)
theorem D296_19 {g : im_g} : im_D g 296 19 (.if_icmp .ne 14) 22 := im_D.of (by decide +kernel)
theorem D296_22 {g : im_g} : im_D g 296 22 (.aload_n 0) 23 := im_D.of (by decide +kernel)
theorem D296_23 {g : im_g} : im_D g 296 23 (.getfield 597) 26 := im_D.of (by decide +kernel)
theorem D296_26 {g : im_g} : im_D g 296 26 (.ldc2_w 517) 29 := im_D.of (by decide +kernel)
theorem D296_29 {g : im_g} : im_D g 296 29 (.lcmp) 30 := im_D.of (by decide +kernel)
theorem D296_30 {g : im_g} : im_D g 296 30 (.ifCond .eq 8) 33 := im_D.of (by decide +kernel)
theorem D296_33 {g : im_g} : im_D g 296 33 (.aload_n 0) 34 := im_D.of (by decide +kernel)
theorem D296_34 {g : im_g} : im_D g 296 34 (.invokevirtual 639) 37 := im_D.of (by decide +kernel)
theorem D296_37 {g : im_g} : im_D g 296 37 (.return_) 38 := im_D.of (by decide +kernel)
theorem D296_38 {g : im_g} : im_D g 296 38 (.aload_n 0) 39 := im_D.of (by decide +kernel)
theorem D296_39 {g : im_g} : im_D g 296 39 (.bipush 8) 41 := im_D.of (by decide +kernel)
theorem D296_41 {g : im_g} : im_D g 296 41 (.iload_n 3) 42 := im_D.of (by decide +kernel)
theorem D296_42 {g : im_g} : im_D g 296 42 (.iconst 1) 43 := im_D.of (by decide +kernel)
theorem D296_43 {g : im_g} : im_D g 296 43 (.iadd) 44 := im_D.of (by decide +kernel)
theorem D296_44 {g : im_g} : im_D g 296 44 (.invokevirtual 642) 47 := im_D.of (by decide +kernel)
theorem D296_47 {g : im_g} : im_D g 296 47 (.istore 4) 49 := im_D.of (by decide +kernel)
theorem D296_49 {g : im_g} : im_D g 296 49 (.iload 4) 51 := im_D.of (by decide +kernel)
theorem D296_51 {g : im_g} : im_D g 296 51 (.iconst (-1)) 52 := im_D.of (by decide +kernel)
theorem D296_52 {g : im_g} : im_D g 296 52 (.if_icmp .eq 15) 55 := im_D.of (by decide +kernel)
theorem D296_55 {g : im_g} : im_D g 296 55 (.iload_n 2) 56 := im_D.of (by decide +kernel)
theorem D296_56 {g : im_g} : im_D g 296 56 (.bipush 8) 58 := im_D.of (by decide +kernel)
theorem D296_58 {g : im_g} : im_D g 296 58 (.if_icmp .ne 9) 61 := im_D.of (by decide +kernel)
theorem D296_61 {g : im_g} : im_D g 296 61 (.aload_n 0) 62 := im_D.of (by decide +kernel)
theorem D296_62 {g : im_g} : im_D g 296 62 (.bipush 8) 64 := im_D.of (by decide +kernel)
theorem D296_64 {g : im_g} : im_D g 296 64 (.invokevirtual 614) 67 := im_D.of (by decide +kernel)
theorem D296_67 {g : im_g} : im_D g 296 67 (.aload_n 0) 68 := im_D.of (by decide +kernel)
theorem D296_68 {g : im_g} : im_D g 296 68 (.getfield 403) 71 := im_D.of (by decide +kernel)
theorem D296_71 {g : im_g} : im_D g 296 71 (.ifCond .le 4) 74 := im_D.of (by decide +kernel)
theorem D296_74 {g : im_g} : im_D g 296 74 (.return_) 75 := im_D.of (by decide +kernel)
theorem D296_75 {g : im_g} : im_D g 296 75 (.iload_n 2) 76 := im_D.of (by decide +kernel)
theorem D296_76 {g : im_g} : im_D g 296 76 (.ifCond .ne 14) 79 := im_D.of (by decide +kernel)
theorem D296_79 {g : im_g} : im_D g 296 79 (.aload_n 0) 80 := im_D.of (by decide +kernel)
theorem D296_80 {g : im_g} : im_D g 296 80 (.getfield 45) 83 := im_D.of (by decide +kernel)
theorem D296_83 {g : im_g} : im_D g 296 83 (.iload_n 1) 84 := im_D.of (by decide +kernel)
theorem D296_84 {g : im_g} : im_D g 296 84 (.iload 4) 86 := im_D.of (by decide +kernel)
theorem D296_86 {g : im_g} : im_D g 296 86 (.iastore) 87 := im_D.of (by decide +kernel)
theorem D296_87 {g : im_g} : im_D g 296 87 (.goto 16) 90 := im_D.of (by decide +kernel)
theorem D296_90 {g : im_g} : im_D g 296 90 (.aload_n 0) 91 := im_D.of (by decide +kernel)
theorem D296_91 {g : im_g} : im_D g 296 91 (.getfield 54) 94 := im_D.of (by decide +kernel)
theorem D296_94 {g : im_g} : im_D g 296 94 (.aload_n 0) 95 := im_D.of (by decide +kernel)
theorem D296_95 {g : im_g} : im_D g 296 95 (.getfield 51) 98 := im_D.of (by decide +kernel)
theorem D296_98 {g : im_g} : im_D g 296 98 (.iload_n 1) 99 := im_D.of (by decide +kernel)
theorem D296_99 {g : im_g} : im_D g 296 99 (.iaload) 100 := im_D.of (by decide +kernel)
theorem D296_100 {g : im_g} : im_D g 296 100 (.iload 4) 102 := im_D.of (by decide +kernel)
theorem D296_102 {g : im_g} : im_D g 296 102 (.iastore) 103 := im_D.of (by decide +kernel)
theorem D296_103 {g : im_g} : im_D g 296 103 (.aload_n 0) 104 := im_D.of (by decide +kernel)
theorem D296_104 {g : im_g} : im_D g 296 104 (.getfield 51) 107 := im_D.of (by decide +kernel)
theorem D296_107 {g : im_g} : im_D g 296 107 (.iload_n 1) 108 := im_D.of (by decide +kernel)
theorem D296_108 {g : im_g} : im_D g 296 108 (.iload 4) 110 := im_D.of (by decide +kernel)
theorem D296_110 {g : im_g} : im_D g 296 110 (.iastore) 111 := im_D.of (by decide +kernel)
theorem D296_111 {g : im_g} : im_D g 296 111 (.aload_n 0) 112 := im_D.of (by decide +kernel)
theorem D296_112 {g : im_g} : im_D g 296 112 (.invokevirtual 649) 115 := im_D.of (by decide +kernel)
theorem D296_115 {g : im_g} : im_D g 296 115 (.aload_n 0) 116 := im_D.of (by decide +kernel)
theorem D296_116 {g : im_g} : im_D g 296 116 (.bipush 8) 118 := im_D.of (by decide +kernel)
theorem D296_118 {g : im_g} : im_D g 296 118 (.iload_n 1) 119 := im_D.of (by decide +kernel)
theorem D296_119 {g : im_g} : im_D g 296 119 (.iload_n 2) 120 := im_D.of (by decide +kernel)
theorem D296_120 {g : im_g} : im_D g 296 120 (.iconst 1) 121 := im_D.of (by decide +kernel)
theorem D296_121 {g : im_g} : im_D g 296 121 (.iadd) 122 := im_D.of (by decide +kernel)
theorem D296_122 {g : im_g} : im_D g 296 122 (.iload_n 3) 123 := im_D.of (by decide +kernel)
theorem D296_123 {g : im_g} : im_D g 296 123 (.invokevirtual 652) 126 := im_D.of (by decide +kernel)
theorem D296_126 {g : im_g} : im_D g 296 126 (.aload_n 0) 127 := im_D.of (by decide +kernel)
theorem D296_127 {g : im_g} : im_D g 296 127 (.iconst 1) 128 := im_D.of (by decide +kernel)
theorem D296_128 {g : im_g} : im_D g 296 128 (.iload 4) 130 := im_D.of (by decide +kernel)
theorem D296_130 {g : im_g} : im_D g 296 130 (.iconst 2) 131 := im_D.of (by decide +kernel)
theorem D296_131 {g : im_g} : im_D g 296 131 (.iload_n 3) 132 := im_D.of (by decide +kernel)
theorem D296_132 {g : im_g} : im_D g 296 132 (.iconst 2) 133 := im_D.of (by decide +kernel)
theorem D296_133 {g : im_g} : im_D g 296 133 (.iadd) 134 := im_D.of (by decide +kernel)
theorem D296_134 {g : im_g} : im_D g 296 134 (.invokevirtual 652) 137 := im_D.of (by decide +kernel)
theorem D296_137 {g : im_g} : im_D g 296 137 (.aload_n 0) 138 := im_D.of (by decide +kernel)
theorem D296_138 {g : im_g} : im_D g 296 138 (.bipush 10) 140 := im_D.of (by decide +kernel)
theorem D296_140 {g : im_g} : im_D g 296 140 (.iload 4) 142 := im_D.of (by decide +kernel)
theorem D296_142 {g : im_g} : im_D g 296 142 (.iconst 0) 143 := im_D.of (by decide +kernel)
theorem D296_143 {g : im_g} : im_D g 296 143 (.iload_n 3) 144 := im_D.of (by decide +kernel)
theorem D296_144 {g : im_g} : im_D g 296 144 (.iconst 2) 145 := im_D.of (by decide +kernel)
theorem D296_145 {g : im_g} : im_D g 296 145 (.iadd) 146 := im_D.of (by decide +kernel)
theorem D296_146 {g : im_g} : im_D g 296 146 (.invokevirtual 652) 149 := im_D.of (by decide +kernel)
theorem D296_149 {g : im_g} : im_D g 296 149 (.return_) 150 := im_D.of (by decide +kernel)
theorem D297_0 {g : im_g} : im_D g 297 0 (.aload_n 0) 1 := im_D.of (by decide +kernel)
theorem D297_1 {g : im_g} : im_D g 297 1 (.getfield 591) 4 := im_D.of (by decide +kernel)
theorem D297_4 {g : im_g} : im_D g 297 4 (.iconst 4) 5 := im_D.of (by decide +kernel)
theorem D297_5 {g : im_g} : im_D g 297 5 (.if_icmp .ne 25) 8 := im_D.of (by decide +kernel)
theorem D297_8 {g : im_g} : im_D g 297 8 (.aload_n 0) 9 := im_D.of (by decide +kernel)
theorem D297_9 {g : im_g} : im_D g 297 9 (.getfield 63) 12 := im_D.of (by decide +kernel)
theorem D297_12 {g : im_g} : im_D g 297 12 (.iload_n 1) 13 := im_D.of (by decide +kernel)
theorem D297_13 {g : im_g} : im_D g 297 13 (.iconst 1) 14 := im_D.of (by decide +kernel)
theorem D297_14 {g : im_g} : im_D g 297 14 (.bastore) 15 := im_D.of (by decide +kernel)
theorem D297_15 {g : im_g} : im_D g 297 15 (.aload_n 0) 16 := im_D.of (by decide +kernel)
theorem D297_16 {g : im_g} : im_D g 297 16 (.getfield 36) 19 := im_D.of (by decide +kernel)
theorem D297_19 {g : im_g} : im_D g 297 19 (.iload_n 1) 20 := im_D.of (by decide +kernel)
theorem D297_20 {g : im_g} : im_D g 297 20 (.aload_n 0) 21 := im_D.of (by decide +kernel)
theorem D297_21 {g : im_g} : im_D g 297 21 (.getfield 597) 24 := im_D.of (by decide +kernel)
theorem D297_24 {g : im_g} : im_D g 297 24 (.lastore) 25 := im_D.of (by decide +kernel)
theorem D297_25 {g : im_g} : im_D g 297 25 (.aload_n 0) 26 := im_D.of (by decide +kernel)
theorem D297_26 {g : im_g} : im_D g 297 26 (.invokevirtual 649) 29 := im_D.of (by decide +kernel)
theorem D297_29 {g : im_g} : im_D g 297 29 (.return_) 30 := im_D.of (by decide +kernel)
theorem D297_30 {g : im_g} : im_D g 297 30 (.aload_n 0) 31 := im_D.of (by decide +kernel)
theorem D297_31 {g : im_g} : im_D g 297 31 (.getfield 591) 34 := im_D.of (by decide +kernel)
theorem D297_34 {g : im_g} : im_D g 297 34 (.iconst 1) 35 := im_D.of (by decide +kernel)
theorem D297_35 {g : im_g} : im_D g 297 35 (.if_icmp .eq 8) 38 := im_D.of (by decide +kernel)
theorem D297_38 {g : im_g} : im_D g 297 38 (.aload_n 0) 39 := im_D.of (by decide +kernel)
theorem D297_39 {g : im_g} : im_D g 297 39 (.invokevirtual 639) 42 := im_D.of (by decide +kernel)
theorem D297_42 {g : im_g} : im_D g 297 42 (.return_) 43 := im_D.of (by decide +kernel)
theorem D297_43 {g : im_g} : im_D g 297 43 (.aload_n 0) 44 := im_D.of (by decide +kernel)
theorem D297_44 {g : im_g} : im_D g 297 44 (.getfield 449) 47 := im_D.of (by decide +kernel)
theorem D297_47 {g : im_g} : im_D g 297 47 (.istore_n 2) 48 := im_D.of (by decide +kernel)
theorem D297_48 {g : im_g} : im_D g 297 48 (.aload_n 0) 49 := im_D.of (by decide +kernel)
theorem D297_49 {g : im_g} : im_D g 297 49 (.aload_n 0) 50 := im_D.of (by decide +kernel)
theorem D297_50 {g : im_g} : im_D g 297 50 (.invokevirtual 659) 53 := im_D.of (by decide +kernel)
theorem D297_53 {g : im_g} : im_D g 297 53 (.invokevirtual 668) 56 := im_D.of (by decide +kernel)
theorem D297_56 {g : im_g} : im_D g 297 56 (.lstore_n 3) 57 := im_D.of (by decide +kernel)
theorem D297_57 {g : im_g} : im_D g 297 57 (.aload_n 0) 58 := im_D.of (by decide +kernel)
theorem D297_58 {g : im_g} : im_D g 297 58 (.iload_n 2) 59 := im_D.of (by decide +kernel)
theorem D297_59 {g : im_g} : im_D g 297 59 (.putfield 449) 62 := im_D.of (by decide +kernel)
theorem D297_62 {g : im_g} : im_D g 297 62 (.lload_n 3) 63 := im_D.of (by decide +kernel)
theorem D297_63 {g : im_g} : im_D g 297 63 (.lconst 0) 64 := im_D.of (by decide +kernel)
theorem D297_64 {g : im_g} : im_D g 297 64 (.ldc2_w 672) 67 := im_D.of (by decide +kernel)
theorem D297_67 {g : im_g} : im_D g 297 67 (.invokestatic 428) 70 := im_D.of (by decide +kernel)
theorem D297_70 {g : im_g} : im_D g 297 70 (.ifCond .ne 9) 73 := im_D.of (by decide +kernel)
theorem D297_73 {g : im_g} : im_D g 297 73 (.aload_n 0) 74 := im_D.of (by decide +kernel)
theorem D297_74 {g : im_g} : im_D g 297 74 (.iconst 5) 75 := im_D.of (by decide +kernel)
theorem D297_75 {g : im_g} : im_D g 297 75 (.invokevirtual 614) 78 := im_D.of (by decide +kernel)
theorem D297_78 {g : im_g} : im_D g 297 78 (.return_) 79 := im_D.of (by decide +kernel)
theorem D297_79 {g : im_g} : im_D g 297 79 (.aload_n 0) 80 := im_D.of (by decide +kernel)
theorem D297_80 {g : im_g} : im_D g 297 80 (.getfield 60) 83 := im_D.of (by decide +kernel)
theorem D297_83 {g : im_g} : im_D g 297 83 (.iload_n 1) 84 := im_D.of (by decide +kernel)
theorem D297_84 {g : im_g} : im_D g 297 84 (.lload_n 3) 85 := im_D.of (by decide +kernel)
theorem D297_85 {g : im_g} : im_D g 297 85 (.lastore) 86 := im_D.of (by decide +kernel)
theorem D297_86 {g : im_g} : im_D g 297 86 (.aload_n 0) 87 := im_D.of (by decide +kernel)
theorem D297_87 {g : im_g} : im_D g 297 87 (.invokevirtual 649) 90 := im_D.of (by decide +kernel)
theorem D297_90 {g : im_g} : im_D g 297 90 (.return_) 91 := im_D.of (by decide +kernel)
theorem D299_0 {g : im_g} : im_D g 299 0 (.aload_n 0) 1 := im_D.of (by decide +kernel)
theorem D299_1 {g : im_g} : im_D g 299 1 (.getfield 591) 4 := im_D.of (by decide +kernel)
theorem D299_4 {g : im_g} : im_D g 299 4 (.iconst 2) 5 := im_D.of (by decide +kernel)
theorem D299_5 {g : im_g} : im_D g 299 5 (.if_icmp .ne 40) 8 := im_D.of (by decide +kernel)
theorem D299_8 {g : im_g} : im_D g 299 8 (.aload_n 0) 9 := im_D.of (by decide +kernel)
theorem D299_9 {g : im_g} : im_D g 299 9 (.getfield 597) 12 := im_D.of (by decide +kernel)
theorem D299_12 {g : im_g} : im_D g 299 12 (.ldc2_w 519) 15 := im_D.of (by decide +kernel)
theorem D299_15 {g : im_g} : im_D g 299 15 (.lcmp) 16 := im_D.of (by decide +kernel)
theorem D299_16 {g : im_g} : im_D g 299 16 (.ifCond .eq 25) 19 := im_D.of (by decide +kernel)
theorem D299_19 {g : im_g} : im_D g 299 19 (.aload_n 0) 20 := im_D.of (by decide +kernel)
theorem D299_20 {g : im_g} : im_D g 299 20 (.getfield 597) 23 := im_D.of (by decide +kernel)
theorem D299_23 {g : im_g} : im_D g 299 23 (.ldc2_w 521) 26 := im_D.of (by decide +kernel)
theorem D299_26 {g : im_g} : im_D g 299 26 (.lcmp) 27 := im_D.of (by decide +kernel)
theorem D299_27 {g : im_g} : im_D g 299 27 (.ifCond .eq 14) 30 := im_D.of (by decide +kernel)
theorem D299_30 {g : im_g} : im_D g 299 30 (.aload_n 0) 31 := im_D.of (by decide +kernel)
theorem D299_31 {g : im_g} : im_D g 299 31 (.getfield 597) 34 := im_D.of (by decide +kernel)
theorem D299_34 {g : im_g} : im_D g 299 34 (.ldc2_w 523) 37 := im_D.of (by decide +kernel)
theorem D299_37 {g : im_g} : im_D g 299 37 (.lcmp) 38 := im_D.of (by decide +kernel)
theorem D299_38 {g : im_g} : im_D g 299 38 (.ifCond .ne 7) 41 := im_D.of (by decide +kernel)
theorem D299_41 {g : im_g} : im_D g 299 41 (.iconst 1) 42 := im_D.of (by decide +kernel)
theorem D299_42 {g : im_g} : im_D g 299 42 (.goto 4) 45 := im_D.of (by decide +kernel)
theorem D299_45 {g : im_g} : im_D g 299 45 (.iconst 0) 46 := im_D.of (by decide +kernel)
theorem D299_46 {g : im_g} : im_D g 299 46 (.istore_n 3) 47 := im_D.of (by decide +kernel)
theorem D299_47 {g : im_g} : im_D g 299 47 (.iload_n 3) 48 := im_D.of (by decide +kernel)
theorem D299_48 {g : im_g} : im_D g 299 48 (.ifCond .ne 8) 51 := im_D.of (by decide +kernel)
theorem D299_51 {g : im_g} : im_D g 299 51 (.aload_n 0) 52 := im_D.of (by decide +kernel)
theorem D299_52 {g : im_g} : im_D g 299 52 (.invokevirtual 639) 55 := im_D.of (by decide +kernel)
theorem D299_55 {g : im_g} : im_D g 299 55 (.return_) 56 := im_D.of (by decide +kernel)
theorem D299_56 {g : im_g} : im_D g 299 56 (.aload_n 0) 57 := im_D.of (by decide +kernel)
theorem D299_57 {g : im_g} : im_D g 299 57 (.getfield 33) 60 := im_D.of (by decide +kernel)
theorem D299_60 {g : im_g} : im_D g 299 60 (.iload_n 1) 61 := im_D.of (by decide +kernel)
theorem D299_61 {g : im_g} : im_D g 299 61 (.aload_n 0) 62 := im_D.of (by decide +kernel)
theorem D299_62 {g : im_g} : im_D g 299 62 (.getfield 597) 65 := im_D.of (by decide +kernel)
theorem D299_65 {g : im_g} : im_D g 299 65 (.ldc2_w 519) 68 := im_D.of (by decide +kernel)
theorem D299_68 {g : im_g} : im_D g 299 68 (.lcmp) 69 := im_D.of (by decide +kernel)
theorem D299_69 {g : im_g} : im_D g 299 69 (.ifCond .ne 8) 72 := im_D.of (by decide +kernel)
theorem D299_72 {g : im_g} : im_D g 299 72 (.bipush 8) 74 := im_D.of (by decide +kernel)
theorem D299_74 {g : im_g} : im_D g 299 74 (.goto 21) 77 := im_D.of (by decide +kernel)
theorem D299_77 {g : im_g} : im_D g 299 77 (.aload_n 0) 78 := im_D.of (by decide +kernel)
theorem D299_78 {g : im_g} : im_D g 299 78 (.getfield 597) 81 := im_D.of (by decide +kernel)
theorem D299_81 {g : im_g} : im_D g 299 81 (.ldc2_w 521) 84 := im_D.of (by decide +kernel)
theorem D299_84 {g : im_g} : im_D g 299 84 (.lcmp) 85 := im_D.of (by decide +kernel)
theorem D299_85 {g : im_g} : im_D g 299 85 (.ifCond .ne 8) 88 := im_D.of (by decide +kernel)
theorem D299_88 {g : im_g} : im_D g 299 88 (.bipush 9) 90 := im_D.of (by decide +kernel)
theorem D299_90 {g : im_g} : im_D g 299 90 (.goto 5) 93 := im_D.of (by decide +kernel)
theorem D299_93 {g : im_g} : im_D g 299 93 (.bipush 10) 95 := im_D.of (by decide +kernel)
theorem D299_95 {g : im_g} : im_D g 299 95 (.iastore) 96 := im_D.of (by decide +kernel)
theorem D299_96 {g : im_g} : im_D g 299 96 (.aload_n 0) 97 := im_D.of (by decide +kernel)
theorem D299_97 {g : im_g} : im_D g 299 97 (.invokevirtual 649) 100 := im_D.of (by decide +kernel)
theorem D299_100 {g : im_g} : im_D g 299 100 (.aload_n 0) 101 := im_D.of (by decide +kernel)
theorem D299_101 {g : im_g} : im_D g 299 101 (.getfield 33) 104 := im_D.of (by decide +kernel)
theorem D299_104 {g : im_g} : im_D g 299 104 (.iload_n 1) 105 := im_D.of (by decide +kernel)
theorem D299_105 {g : im_g} : im_D g 299 105 (.iaload) 106 := im_D.of (by decide +kernel)
theorem D299_106 {g : im_g} : im_D g 299 106 (.bipush 8) 108 := im_D.of (by decide +kernel)
theorem D299_108 {g : im_g} : im_D g 299 108 (.if_icmp .ne 38) 111 := im_D.of (by decide +kernel)
theorem D299_111 {g : im_g} : im_D g 299 111 (.aload_n 0) 112 := im_D.of (by decide +kernel)
theorem D299_112 {g : im_g} : im_D g 299 112 (.iconst 2) 113 := im_D.of (by decide +kernel)
theorem D299_113 {g : im_g} : im_D g 299 113 (.iload_n 1) 114 := im_D.of (by decide +kernel)
theorem D299_114 {g : im_g} : im_D g 299 114 (.iconst 1) 115 := im_D.of (by decide +kernel)
theorem D299_115 {g : im_g} : im_D g 299 115 (.iload_n 2) 116 := im_D.of (by decide +kernel)
theorem D299_116 {g : im_g} : im_D g 299 116 (.invokevirtual 652) 119 := im_D.of (by decide +kernel)
theorem D299_119 {g : im_g} : im_D g 299 119 (.aload_n 0) 120 := im_D.of (by decide +kernel)
theorem D299_120 {g : im_g} : im_D g 299 120 (.iconst 4) 121 := im_D.of (by decide +kernel)
theorem D299_121 {g : im_g} : im_D g 299 121 (.iload_n 1) 122 := im_D.of (by decide +kernel)
theorem D299_122 {g : im_g} : im_D g 299 122 (.iconst 3) 123 := im_D.of (by decide +kernel)
theorem D299_123 {g : im_g} : im_D g 299 123 (.iload_n 2) 124 := im_D.of (by decide +kernel)
theorem D299_124 {g : im_g} : im_D g 299 124 (.invokevirtual 652) 127 := im_D.of (by decide +kernel)
theorem D299_127 {g : im_g} : im_D g 299 127 (.aload_n 0) 128 := im_D.of (by decide +kernel)
theorem D299_128 {g : im_g} : im_D g 299 128 (.iconst 4) 129 := im_D.of (by decide +kernel)
theorem D299_129 {g : im_g} : im_D g 299 129 (.iload_n 1) 130 := im_D.of (by decide +kernel)
theorem D299_130 {g : im_g} : im_D g 299 130 (.iconst 2) 131 := im_D.of (by decide +kernel)
theorem D299_131 {g : im_g} : im_D g 299 131 (.iload_n 2) 132 := im_D.of (by decide +kernel)
theorem D299_132 {g : im_g} : im_D g 299 132 (.invokevirtual 652) 135 := im_D.of (by decide +kernel)
theorem D299_135 {g : im_g} : im_D g 299 135 (.aload_n 0) 136 := im_D.of (by decide +kernel)
theorem D299_136 {g : im_g} : im_D g 299 136 (.iconst 4) 137 := im_D.of (by decide +kernel)
theorem D299_137 {g : im_g} : im_D g 299 137 (.iload_n 1) 138 := im_D.of (by decide +kernel)
theorem D299_138 {g : im_g} : im_D g 299 138 (.iconst 1) 139 := im_D.of (by decide +kernel)
theorem D299_139 {g : im_g} : im_D g 299 139 (.iload_n 2) 140 := im_D.of (by decide +kernel)
theorem D299_140 {g : im_g} : im_D g 299 140 (.invokevirtual 652) 143 := im_D.of (by decide +kernel)
theorem D299_143 {g : im_g} : im_D g 299 143 (.goto 69) 146 := im_D.of (by decide +kernel)
theorem D299_146 {g : im_g} : im_D g 299 146 (.aload_n 0) 147 := im_D.of (by decide +kernel)
theorem D299_147 {g : im_g} : im_D g 299 147 (.getfield 33) 150 := im_D.of (by decide +kernel)
theorem D299_150 {g : im_g} : im_D g 299 150 (.iload_n 1) 151 := im_D.of (by decide +kernel)
theorem D299_151 {g : im_g} : im_D g 299 151 (.iaload) 152 := im_D.of (by decide +kernel)
theorem D299_152 {g : im_g} : im_D g 299 152 (.bipush 9) 154 := im_D.of (by decide +kernel)
theorem D299_154 {g : im_g} : im_D g 299 154 (.if_icmp .ne 50) 157 := im_D.of (by decide +kernel)
theorem D299_157 {g : im_g} : im_D g 299 157 (.aload_n 0) 158 := im_D.of (by decide +kernel)
theorem D299_158 {g : im_g} : im_D g 299 158 (.getfield 67) 161 := im_D.of (by decide +kernel)
theorem D299_161 {g : im_g} : im_D g 299 161 (.iload_n 1) 162 := im_D.of (by decide +kernel)
theorem D299_162 {g : im_g} : im_D g 299 162 (.aload_n 0) 163 := im_D.of (by decide +kernel)
theorem D299_163 {g : im_g} : im_D g 299 163 (.getfield 665) 166 := im_D.of (by decide +kernel)
theorem D299_166 {g : im_g} : im_D g 299 166 (.iastore) 167 := im_D.of (by decide +kernel)
theorem D299_167 {g : im_g} : im_D g 299 167 (.aload_n 0) 168 := im_D.of (by decide +kernel)
theorem D299_168 {g : im_g} : im_D g 299 168 (.bipush 12) 170 := im_D.of (by decide +kernel)
theorem D299_170 {g : im_g} : im_D g 299 170 (.iload_n 1) 171 := im_D.of (by decide +kernel)
theorem D299_171 {g : im_g} : im_D g 299 171 (.iconst 0) 172 := im_D.of (by decide +kernel)
theorem D299_172 {g : im_g} : im_D g 299 172 (.iload_n 2) 173 := im_D.of (by decide +kernel)
theorem D299_173 {g : im_g} : im_D g 299 173 (.invokevirtual 652) 176 := im_D.of (by decide +kernel)
theorem D299_176 {g : im_g} : im_D g 299 176 (.aload_n 0) 177 := im_D.of (by decide +kernel)
theorem D299_177 {g : im_g} : im_D g 299 177 (.bipush 11) 179 := im_D.of (by decide +kernel)
theorem D299_179 {g : im_g} : im_D g 299 179 (.iload_n 1) 180 := im_D.of (by decide +kernel)
theorem D299_180 {g : im_g} : im_D g 299 180 (.iconst 0) 181 := im_D.of (by decide +kernel)
theorem D299_181 {g : im_g} : im_D g 299 181 (.iload_n 2) 182 := im_D.of (by decide +kernel)
theorem D299_182 {g : im_g} : im_D g 299 182 (.invokevirtual 652) 185 := im_D.of (by decide +kernel)
theorem D299_185 {g : im_g} : im_D g 299 185 (.aload_n 0) 186 := im_D.of (by decide +kernel)
theorem D299_186 {g : im_g} : im_D g 299 186 (.iconst 4) 187 := im_D.of (by decide +kernel)
theorem D299_187 {g : im_g} : im_D g 299 187 (.iload_n 1) 188 := im_D.of (by decide +kernel)
theorem D299_188 {g : im_g} : im_D g 299 188 (.iconst 2) 189 := im_D.of (by decide +kernel)
theorem D299_189 {g : im_g} : im_D g 299 189 (.iload_n 2) 190 := im_D.of (by decide +kernel)
theorem D299_190 {g : im_g} : im_D g 299 190 (.invokevirtual 652) 193 := im_D.of (by decide +kernel)
theorem D299_193 {g : im_g} : im_D g 299 193 (.aload_n 0) 194 := im_D.of (by decide +kernel)
theorem D299_194 {g : im_g} : im_D g 299 194 (.iconst 4) 195 := im_D.of (by decide +kernel)
theorem D299_195 {g : im_g} : im_D g 299 195 (.iload_n 1) 196 := im_D.of (by decide +kernel)
theorem D299_196 {g : im_g} : im_D g 299 196 (.iconst 1) 197 := im_D.of (by decide +kernel)
theorem D299_197 {g : im_g} : im_D g 299 197 (.iload_n 2) 198 := im_D.of (by decide +kernel)
theorem D299_198 {g : im_g} : im_D g 299 198 (.invokevirtual 652) 201 := im_D.of (by decide +kernel)
theorem D299_201 {g : im_g} : im_D g 299 201 (.goto 11) 204 := im_D.of (by decide +kernel)
theorem D299_204 {g : im_g} : im_D g 299 204 (.aload_n 0) 205 := im_D.of (by decide +kernel)
theorem D299_205 {g : im_g} : im_D g 299 205 (.iconst 3) 206 := im_D.of (by decide +kernel)
theorem D299_206 {g : im_g} : im_D g 299 206 (.iload_n 1) 207 := im_D.of (by decide +kernel)
theorem D299_207 {g : im_g} : im_D g 299 207 (.iconst 1) 208 := im_D.of (by decide +kernel)
theorem D299_208 {g : im_g} : im_D g 299 208 (.iload_n 2) 209 := im_D.of (by decide +kernel)
theorem D299_209 {g : im_g} : im_D g 299 209 (.invokevirtual 652) 212 := im_D.of (by decide +kernel)
theorem D299_212 {g : im_g} : im_D g 299 212 (.return_) 213 := im_D.of (by decide +kernel)
theorem D300_0 {g : im_g} : im_D g 300 0 (.aload_n 0) 1 := im_D.of (by decide +kernel)
theorem D300_1 {g : im_g} : im_D g 300 1 (.getfield 591) 4 := im_D.of (by decide +kernel)
theorem D300_4 {g : im_g} : im_D g 300 4 (.bipush 8) 6 := im_D.of (by decide +kernel)
theorem D300_6 {g : im_g} : im_D g 300 6 (.if_icmp .ne 12) 9 := im_D.of (by decide +kernel)
theorem D300_9 {g : im_g} : im_D g 300 9 (.iload_n 2) 10 := im_D.of (by decide +kernel)
theorem D300_10 {g : im_g} : im_D g 300 10 (.ifCond .le 8) 13 := im_D.of (by decide +kernel)
theorem D300_13 {g : im_g} : im_D g 300 13 (.aload_n 0) 14 := im_D.of (by decide +kernel)
theorem D300_14 {g : im_g} : im_D g 300 14 (.invokevirtual 649) 17 := im_D.of (by decide +kernel)
theorem D300_17 {g : im_g} : im_D g 300 17 (.return_) 18 := im_D.of (by decide +kernel)
theorem D300_18 {g : im_g} : im_D g 300 18 (.aload_n 0) 19 := im_D.of (by decide +kernel)
theorem D300_19 {g : im_g} : im_D g 300 19 (.getfield 591) 22 := im_D.of (by decide +kernel)
theorem D300_22 {g : im_g} : im_D g 300 22 (.iconst 1) 23 := im_D.of (by decide +kernel)
theorem D300_23 {g : im_g} : im_D g 300 23 (.if_icmp .eq 8) 26 := im_D.of (by decide +kernel)
theorem D300_26 {g : im_g} : im_D g 300 26 (.aload_n 0) 27 := im_D.of (by decide +kernel)
theorem D300_27 {g : im_g} : im_D g 300 27 (.invokevirtual 639) 30 := im_D.of (by decide +kernel)
theorem D300_30 {g : im_g} : im_D g 300 30 (.return_) 31 := im_D.of (by decide +kernel)
theorem D300_31 {g : im_g} : im_D g 300 31 (.iload_n 2) 32 := im_D.of (by decide +kernel)
theorem D300_32 {g : im_g} : im_D g 300 32 (.iconst 4) 33 := im_D.of (by decide +kernel)
theorem D300_33 {g : im_g} : im_D g 300 33 (.if_icmp .ne 10) 36 := im_D.of (by decide +kernel)
theorem D300_36 {g : im_g} : im_D g 300 36 (.aload_n 0) 37 := im_D.of (by decide +kernel)
theorem D300_37 {g : im_g} : im_D g 300 37 (.bipush 8) 39 := im_D.of (by decide +kernel)
theorem D300_39 {g : im_g} : im_D g 300 39 (.invokevirtual 614) 42 := im_D.of (by decide +kernel)
theorem D300_42 {g : im_g} : im_D g 300 42 (.return_) 43 := im_D.of (by decide +kernel)
theorem D300_43 {g : im_g} : im_D g 300 43 (.aload_n 0) 44 := im_D.of (by decide +kernel)
theorem D300_44 {g : im_g} : im_D g 300 44 (.getfield 73) 47 := im_D.of (by decide +kernel)
theorem D300_47 {g : im_g} : im_D g 300 47 (.aload_n 0) 48 := im_D.of (by decide +kernel)
theorem D300_48 {g : im_g} : im_D g 300 48 (.getfield 665) 51 := im_D.of (by decide +kernel)
theorem D300_51 {g : im_g} : im_D g 300 51 (.aload_n 0) 52 := im_D.of (by decide +kernel)
theorem D300_52 {g : im_g} : im_D g 300 52 (.invokevirtual 659) 55 := im_D.of (by decide +kernel)
theorem D300_55 {g : im_g} : im_D g 300 55 (.iastore) 56 := im_D.of (by decide +kernel)
theorem D300_56 {g : im_g} : im_D g 300 56 (.aload_n 0) 57 := im_D.of (by decide +kernel)
theorem D300_57 {g : im_g} : im_D g 300 57 (.invokevirtual 649) 60 := im_D.of (by decide +kernel)
theorem D300_60 {g : im_g} : im_D g 300 60 (.aload_n 0) 61 := im_D.of (by decide +kernel)
theorem D300_61 {g : im_g} : im_D g 300 61 (.bipush 13) 63 := im_D.of (by decide +kernel)
theorem D300_63 {g : im_g} : im_D g 300 63 (.iload_n 1) 64 := im_D.of (by decide +kernel)
theorem D300_64 {g : im_g} : im_D g 300 64 (.iload_n 2) 65 := im_D.of (by decide +kernel)
theorem D300_65 {g : im_g} : im_D g 300 65 (.iconst 0) 66 := im_D.of (by decide +kernel)
theorem D300_66 {g : im_g} : im_D g 300 66 (.invokevirtual 652) 69 := im_D.of (by decide +kernel)
theorem D300_69 {g : im_g} : im_D g 300 69 (.return_) 70 := im_D.of (by decide +kernel)
theorem D301_0 {g : im_g} : im_D g 301 0 (.aload_n 0) 1 := im_D.of (by decide +kernel)
theorem D301_1 {g : im_g} : im_D g 301 1 (.getfield 591) 4 := im_D.of (by decide +kernel)
theorem D301_4 {g : im_g} : im_D g 301 4 (.iconst 1) 5 := im_D.of (by decide +kernel)
theorem D301_5 {g : im_g} : im_D g 301 5 (.if_icmp .eq 8) 8 := im_D.of (by decide +kernel)
theorem D301_8 {g : im_g} : im_D g 301 8 (.aload_n 0) 9 := im_D.of (by decide +kernel)
theorem D301_9 {g : im_g} : im_D g 301 9 (.invokevirtual 639) 12 := im_D.of (by decide +kernel)
theorem D301_12 {g : im_g} : im_D g 301 12 (.return_) 13 := im_D.of (by decide +kernel)
theorem D301_13 {g : im_g} : im_D g 301 13 (.aload_n 0) 14 := im_D.of (by decide +kernel)
theorem D301_14 {g : im_g} : im_D g 301 14 (.getfield 76) 17 := im_D.of (by decide +kernel)
theorem D301_17 {g : im_g} : im_D g 301 17 (.aload_n 0) 18 := im_D.of (by decide +kernel)
theorem D301_18 {g : im_g} : im_D g 301 18 (.getfield 665) 21 := im_D.of (by decide +kernel)
theorem D301_21 {g : im_g} : im_D g 301 21 (.aload_n 0) 22 := im_D.of (by decide +kernel)
theorem D301_22 {g : im_g} : im_D g 301 22 (.invokevirtual 659) 25 := im_D.of (by decide +kernel)
theorem D301_25 {g : im_g} : im_D g 301 25 (.iastore) 26 := im_D.of (by decide +kernel)
theorem D301_26 {g : im_g} : im_D g 301 26 (.aload_n 0) 27 := im_D.of (by decide +kernel)
theorem D301_27 {g : im_g} : im_D g 301 27 (.aload_n 0) 28 := im_D.of (by decide +kernel)
theorem D301_28 {g : im_g} : im_D g 301 28 (.getfield 76) 31 := im_D.of (by decide +kernel)
theorem D301_31 {g : im_g} : im_D g 301 31 (.aload_n 0) 32 := im_D.of (by decide +kernel)
theorem D301_32 {g : im_g} : im_D g 301 32 (.getfield 665) 35 := im_D.of (by decide +kernel)
theorem D301_35 {g : im_g} : im_D g 301 35 (.iaload) 36 := im_D.of (by decide +kernel)
theorem D301_36 {g : im_g} : im_D g 301 36 (.aload_n 0) 37 := im_D.of (by decide +kernel)
theorem D301_37 {g : im_g} : im_D g 301 37 (.getfield 73) 40 := im_D.of (by decide +kernel)
theorem D301_40 {g : im_g} : im_D g 301 40 (.aload_n 0) 41 := im_D.of (by decide +kernel)
theorem D301_41 {g : im_g} : im_D g 301 41 (.getfield 665) 44 := im_D.of (by decide +kernel)
theorem D301_44 {g : im_g} : im_D g 301 44 (.iaload) 45 := im_D.of (by decide +kernel)
theorem D301_45 {g : im_g} : im_D g 301 45 (.invokevirtual 674) 48 := im_D.of (by decide +kernel)
theorem D301_48 {g : im_g} : im_D g 301 48 (.ifCond .ge 10) 51 := im_D.of (by decide +kernel)
theorem D301_51 {g : im_g} : im_D g 301 51 (.aload_n 0) 52 := im_D.of (by decide +kernel)
theorem D301_52 {g : im_g} : im_D g 301 52 (.bipush 6) 54 := im_D.of (by decide +kernel)
theorem D301_54 {g : im_g} : im_D g 301 54 (.invokevirtual 614) 57 := im_D.of (by decide +kernel)
theorem D301_57 {g : im_g} : im_D g 301 57 (.return_) 58 := im_D.of (by decide +kernel)
theorem D301_58 {g : im_g} : im_D g 301 58 (.aload_n 0) 59 := im_D.of (by decide +kernel)
theorem D301_59 {g : im_g} : im_D g 301 59 (.dup) 60 := im_D.of (by decide +kernel)
theorem D301_60 {g : im_g} : im_D g 301 60 (.getfield 665) 63 := im_D.of (by decide +kernel)
theorem D301_63 {g : im_g} : im_D g 301 63 (.iconst 1) 64 := im_D.of (by decide +kernel)
theorem D301_64 {g : im_g} : im_D g 301 64 (.iadd) 65 := im_D.of (by decide +kernel)
theorem D301_65 {g : im_g} : im_D g 301 65 (.putfield 665) 68 := im_D.of (by decide +kernel)
theorem D301_68 {g : im_g} : im_D g 301 68 (.aload_n 0) 69 := im_D.of (by decide +kernel)
theorem D301_69 {g : im_g} : im_D g 301 69 (.getfield 70) 72 := im_D.of (by decide +kernel)
theorem D301_72 {g : im_g} : im_D g 301 72 (.iload_n 1) 73 := im_D.of (by decide +kernel)
theorem D301_73 {g : im_g} : im_D g 301 73 (.iload_n 2) 74 := im_D.of (by decide +kernel)
theorem D301_74 {g : im_g} : im_D g 301 74 (.iconst 1) 75 := im_D.of (by decide +kernel)
theorem D301_75 {g : im_g} : im_D g 301 75 (.iadd) 76 := im_D.of (by decide +kernel)
theorem D301_76 {g : im_g} : im_D g 301 76 (.iastore) 77 := im_D.of (by decide +kernel)
theorem D301_77 {g : im_g} : im_D g 301 77 (.aload_n 0) 78 := im_D.of (by decide +kernel)
theorem D301_78 {g : im_g} : im_D g 301 78 (.invokevirtual 649) 81 := im_D.of (by decide +kernel)
theorem D301_81 {g : im_g} : im_D g 301 81 (.aload_n 0) 82 := im_D.of (by decide +kernel)
theorem D301_82 {g : im_g} : im_D g 301 82 (.bipush 12) 84 := im_D.of (by decide +kernel)
theorem D301_84 {g : im_g} : im_D g 301 84 (.iload_n 1) 85 := im_D.of (by decide +kernel)
theorem D301_85 {g : im_g} : im_D g 301 85 (.iload_n 2) 86 := im_D.of (by decide +kernel)
theorem D301_86 {g : im_g} : im_D g 301 86 (.iconst 1) 87 := im_D.of (by decide +kernel)
theorem D301_87 {g : im_g} : im_D g 301 87 (.iadd) 88 := im_D.of (by decide +kernel)
theorem D301_88 {g : im_g} : im_D g 301 88 (.iconst 0) 89 := im_D.of (by decide +kernel)
theorem D301_89 {g : im_g} : im_D g 301 89 (.invokevirtual 652) 92 := im_D.of (by decide +kernel)
theorem D301_92 {g : im_g} : im_D g 301 92 (.return_) 93 := im_D.of (by decide +kernel)
set_option maxRecDepth 20000 in
set_option maxHeartbeats 4000000 in
theorem b_valueOf_0 {g : im_g} {d : Nat} {e : im_E} {M : im_M} {K : im_K} {p0 : Int} (hP : (im_i64 p0) ∧ ((∀ x8 : Int, (((¬ p0 = 1751477348) ∧ (¬ p0 = 7234919) ∧ (¬ p0 = 6382692) ∧ (¬ p0 = 7566690) ∧ (¬ p0 = 7173484) ∧ (¬ p0 = 6580598) ∧ x8 = 0) ∨ ((¬ p0 = 1751477348) ∧ (¬ p0 = 7234919) ∧ (¬ p0 = 6382692) ∧ (¬ p0 = 7566690) ∧ (¬ p0 = 7173484) ∧ (p0 = 6580598) ∧ x8 = 27) ∨ ((¬ p0 = 1751477348) ∧ (¬ p0 = 7234919) ∧ (¬ p0 = 6382692) ∧ (¬ p0 = 7566690) ∧ (p0 = 7173484) ∧ x8 = 26) ∨ ((¬ p0 = 1751477348) ∧ (¬ p0 = 7234919) ∧ (¬ p0 = 6382692) ∧ (p0 = 7566690) ∧ x8 = 25) ∨ ((¬ p0 = 1751477348) ∧ (¬ p0 = 7234919) ∧ (p0 = 6382692) ∧ x8 = 24) ∨ ((¬ p0 = 1751477348) ∧ (p0 = 7234919) ∧ x8 = 23) ∨ ((p0 = 1751477348) ∧ x8 = 22)) → ((∀ x18 : Int, (((x8 ≤ 0) ∧ (¬ p0 = 109300197582190) ∧ (¬ p0 = 495873782388) ∧ (¬ p0 = 6647396) ∧ (¬ p0 = 7697253) ∧ (¬ p0 = 1668247140) ∧ x18 = 0) ∨ ((x8 ≤ 0) ∧ (¬ p0 = 109300197582190) ∧ (¬ p0 = 495873782388) ∧ (¬ p0 = 6647396) ∧ (¬ p0 = 7697253) ∧ (p0 = 1668247140) ∧ x18 = 32) ∨ ((x8 ≤ 0) ∧ (¬ p0 = 109300197582190) ∧ (¬ p0 = 495873782388) ∧ (¬ p0 = 6647396) ∧ (p0 = 7697253) ∧ x18 = 31) ∨ ((x8 ≤ 0) ∧ (¬ p0 = 109300197582190) ∧ (¬ p0 = 495873782388) ∧ (p0 = 6647396) ∧ x18 = 30) ∨ ((x8 ≤ 0) ∧ (¬ p0 = 109300197582190) ∧ (p0 = 495873782388) ∧ x18 = 29) ∨ ((x8 ≤ 0) ∧ (p0 = 109300197582190) ∧ x18 = 28) ∨ ((0 < x8) ∧ x18 = x8)) → K (.inl (some (vI x18))) e M))))) : im_T g d 290 0 [some (vL p0), none, none] [] e M K := by
  refine im_ld (q := 1) (i := 0) D290_0 rfl rfl rfl ?_
  refine im_ldc2 (q := 4) (n := 1751477348) D290_1 rfl ?_
  obtain ⟨hg1, hP⟩ := hP
  have hJ9 := hP
  have kJ10 : ∀ x8 : Int, (((¬ p0 = 1751477348) ∧ (¬ p0 = 7234919) ∧ (¬ p0 = 6382692) ∧ (¬ p0 = 7566690) ∧ (¬ p0 = 7173484) ∧ (¬ p0 = 6580598) ∧ x8 = 0) ∨ ((¬ p0 = 1751477348) ∧ (¬ p0 = 7234919) ∧ (¬ p0 = 6382692) ∧ (¬ p0 = 7566690) ∧ (¬ p0 = 7173484) ∧ (p0 = 6580598) ∧ x8 = 27) ∨ ((¬ p0 = 1751477348) ∧ (¬ p0 = 7234919) ∧ (¬ p0 = 6382692) ∧ (¬ p0 = 7566690) ∧ (p0 = 7173484) ∧ x8 = 26) ∨ ((¬ p0 = 1751477348) ∧ (¬ p0 = 7234919) ∧ (¬ p0 = 6382692) ∧ (p0 = 7566690) ∧ x8 = 25) ∨ ((¬ p0 = 1751477348) ∧ (¬ p0 = 7234919) ∧ (p0 = 6382692) ∧ x8 = 24) ∨ ((¬ p0 = 1751477348) ∧ (p0 = 7234919) ∧ x8 = 23) ∨ ((p0 = 1751477348) ∧ x8 = 22)) → im_T g d 290 79 [some (vL p0), none, none] [vI x8] e M K := by
    intro x8 hx11
    have hP := hJ9 x8 hx11
    refine im_st1 (q := 80) (i := 2) (L' := [some (vL p0), none, some (vI x8)]) D290_79 (Or.inl ⟨_, rfl, rfl⟩) (Nat.le_of_ble_eq_true rfl) rfl ?_
    refine im_ld (q := 81) (i := 2) D290_80 rfl rfl rfl ?_
    have hJ19 := hP
    have kJ20 : ∀ x18 : Int, (((x8 ≤ 0) ∧ (¬ p0 = 109300197582190) ∧ (¬ p0 = 495873782388) ∧ (¬ p0 = 6647396) ∧ (¬ p0 = 7697253) ∧ (¬ p0 = 1668247140) ∧ x18 = 0) ∨ ((x8 ≤ 0) ∧ (¬ p0 = 109300197582190) ∧ (¬ p0 = 495873782388) ∧ (¬ p0 = 6647396) ∧ (¬ p0 = 7697253) ∧ (p0 = 1668247140) ∧ x18 = 32) ∨ ((x8 ≤ 0) ∧ (¬ p0 = 109300197582190) ∧ (¬ p0 = 495873782388) ∧ (¬ p0 = 6647396) ∧ (p0 = 7697253) ∧ x18 = 31) ∨ ((x8 ≤ 0) ∧ (¬ p0 = 109300197582190) ∧ (¬ p0 = 495873782388) ∧ (p0 = 6647396) ∧ x18 = 30) ∨ ((x8 ≤ 0) ∧ (¬ p0 = 109300197582190) ∧ (p0 = 495873782388) ∧ x18 = 29) ∨ ((x8 ≤ 0) ∧ (p0 = 109300197582190) ∧ x18 = 28) ∨ ((0 < x8) ∧ x18 = x8)) → im_T g d 290 154 [none, none, none] [vI x18] e M K := by
      intro x18 hx21
      have hP := hJ19 x18 hx21
      exact im_iret (q := 155) D290_154 rfl hP
    refine im_ifc (q := 84) (t := 88) D290_81 rfl (by omega) (fun hc12 => ?_) (fun hc12 => ?_)
    · refine im_ld (q := 89) (i := 0) D290_88 rfl rfl rfl ?_
      refine im_ldc2 (q := 92) (n := 109300197582190) D290_89 rfl ?_
      refine im_lif (q := 93) (q2 := 96) (t := 101) D290_92 D290_93 rfl hg1 (by decide) (fun hc13 => ?_) (fun hc13 => ?_)
      · refine im_ld (q := 102) (i := 0) D290_101 rfl rfl rfl ?_
        refine im_ldc2 (q := 105) (n := 495873782388) D290_102 rfl ?_
        refine im_lif (q := 106) (q2 := 109) (t := 114) D290_105 D290_106 rfl hg1 (by decide) (fun hc14 => ?_) (fun hc14 => ?_)
        · refine im_ld (q := 115) (i := 0) D290_114 rfl rfl rfl ?_
          refine im_ldc2 (q := 118) (n := 6647396) D290_115 rfl ?_
          refine im_lif (q := 119) (q2 := 122) (t := 127) D290_118 D290_119 rfl hg1 (by decide) (fun hc15 => ?_) (fun hc15 => ?_)
          · refine im_ld (q := 128) (i := 0) D290_127 rfl rfl rfl ?_
            refine im_ldc2 (q := 131) (n := 7697253) D290_128 rfl ?_
            refine im_lif (q := 132) (q2 := 135) (t := 140) D290_131 D290_132 rfl hg1 (by decide) (fun hc16 => ?_) (fun hc16 => ?_)
            · refine im_ld (q := 141) (i := 0) D290_140 rfl rfl rfl ?_
              refine im_ldc2 (q := 144) (n := 1668247140) D290_141 rfl ?_
              refine im_lif (q := 145) (q2 := 148) (t := 153) D290_144 D290_145 rfl hg1 (by decide) (fun hc17 => ?_) (fun hc17 => ?_)
              · refine im_iconst (q := 154) D290_153 ?_
                exact (kJ20 (0) (Or.inl ⟨hc12, hc13, hc14, hc15, hc16, hc17, rfl⟩)).wk trivial
              · refine im_bipush (q := 150) D290_148 rfl ?_
                refine im_goto (q := 153) (t := 154) D290_150 rfl ?_
                exact (kJ20 (32) (Or.inr (Or.inl ⟨hc12, hc13, hc14, hc15, hc16, (Decidable.not_not.mp hc17), rfl⟩))).wk trivial
            · refine im_bipush (q := 137) D290_135 rfl ?_
              refine im_goto (q := 140) (t := 154) D290_137 rfl ?_
              exact (kJ20 (31) (Or.inr (Or.inr (Or.inl ⟨hc12, hc13, hc14, hc15, (Decidable.not_not.mp hc16), rfl⟩)))).wk trivial
          · refine im_bipush (q := 124) D290_122 rfl ?_
            refine im_goto (q := 127) (t := 154) D290_124 rfl ?_
            exact (kJ20 (30) (Or.inr (Or.inr (Or.inr (Or.inl ⟨hc12, hc13, hc14, (Decidable.not_not.mp hc15), rfl⟩))))).wk trivial
        · refine im_bipush (q := 111) D290_109 rfl ?_
          refine im_goto (q := 114) (t := 154) D290_111 rfl ?_
          exact (kJ20 (29) (Or.inr (Or.inr (Or.inr (Or.inr (Or.inl ⟨hc12, hc13, (Decidable.not_not.mp hc14), rfl⟩)))))).wk trivial
      · refine im_bipush (q := 98) D290_96 rfl ?_
        refine im_goto (q := 101) (t := 154) D290_98 rfl ?_
        exact (kJ20 (28) (Or.inr (Or.inr (Or.inr (Or.inr (Or.inr (Or.inl ⟨hc12, (Decidable.not_not.mp hc13), rfl⟩))))))).wk trivial
    · refine im_ld (q := 85) (i := 2) D290_84 rfl rfl rfl ?_
      refine im_goto (q := 88) (t := 154) D290_85 rfl ?_
      exact (kJ20 (x8) (Or.inr (Or.inr (Or.inr (Or.inr (Or.inr (Or.inr ⟨(Int.not_le.mp hc12), rfl⟩))))))).wk trivial
  refine im_lif (q := 5) (q2 := 8) (t := 13) D290_4 D290_5 rfl hg1 (by decide) (fun hc2 => ?_) (fun hc2 => ?_)
  · refine im_ld (q := 14) (i := 0) D290_13 rfl rfl rfl ?_
    refine im_ldc2 (q := 17) (n := 7234919) D290_14 rfl ?_
    refine im_lif (q := 18) (q2 := 21) (t := 26) D290_17 D290_18 rfl hg1 (by decide) (fun hc3 => ?_) (fun hc3 => ?_)
    · refine im_ld (q := 27) (i := 0) D290_26 rfl rfl rfl ?_
      refine im_ldc2 (q := 30) (n := 6382692) D290_27 rfl ?_
      refine im_lif (q := 31) (q2 := 34) (t := 39) D290_30 D290_31 rfl hg1 (by decide) (fun hc4 => ?_) (fun hc4 => ?_)
      · refine im_ld (q := 40) (i := 0) D290_39 rfl rfl rfl ?_
        refine im_ldc2 (q := 43) (n := 7566690) D290_40 rfl ?_
        refine im_lif (q := 44) (q2 := 47) (t := 52) D290_43 D290_44 rfl hg1 (by decide) (fun hc5 => ?_) (fun hc5 => ?_)
        · refine im_ld (q := 53) (i := 0) D290_52 rfl rfl rfl ?_
          refine im_ldc2 (q := 56) (n := 7173484) D290_53 rfl ?_
          refine im_lif (q := 57) (q2 := 60) (t := 65) D290_56 D290_57 rfl hg1 (by decide) (fun hc6 => ?_) (fun hc6 => ?_)
          · refine im_ld (q := 66) (i := 0) D290_65 rfl rfl rfl ?_
            refine im_ldc2 (q := 69) (n := 6580598) D290_66 rfl ?_
            refine im_lif (q := 70) (q2 := 73) (t := 78) D290_69 D290_70 rfl hg1 (by decide) (fun hc7 => ?_) (fun hc7 => ?_)
            · refine im_iconst (q := 79) D290_78 ?_
              exact (kJ10 (0) (Or.inl ⟨hc2, hc3, hc4, hc5, hc6, hc7, rfl⟩)).wk ⟨rfl, trivial⟩
            · refine im_bipush (q := 75) D290_73 rfl ?_
              refine im_goto (q := 78) (t := 79) D290_75 rfl ?_
              exact (kJ10 (27) (Or.inr (Or.inl ⟨hc2, hc3, hc4, hc5, hc6, (Decidable.not_not.mp hc7), rfl⟩))).wk ⟨rfl, trivial⟩
          · refine im_bipush (q := 62) D290_60 rfl ?_
            refine im_goto (q := 65) (t := 79) D290_62 rfl ?_
            exact (kJ10 (26) (Or.inr (Or.inr (Or.inl ⟨hc2, hc3, hc4, hc5, (Decidable.not_not.mp hc6), rfl⟩)))).wk ⟨rfl, trivial⟩
        · refine im_bipush (q := 49) D290_47 rfl ?_
          refine im_goto (q := 52) (t := 79) D290_49 rfl ?_
          exact (kJ10 (25) (Or.inr (Or.inr (Or.inr (Or.inl ⟨hc2, hc3, hc4, (Decidable.not_not.mp hc5), rfl⟩))))).wk ⟨rfl, trivial⟩
      · refine im_bipush (q := 36) D290_34 rfl ?_
        refine im_goto (q := 39) (t := 79) D290_36 rfl ?_
        exact (kJ10 (24) (Or.inr (Or.inr (Or.inr (Or.inr (Or.inl ⟨hc2, hc3, (Decidable.not_not.mp hc4), rfl⟩)))))).wk ⟨rfl, trivial⟩
    · refine im_bipush (q := 23) D290_21 rfl ?_
      refine im_goto (q := 26) (t := 79) D290_23 rfl ?_
      exact (kJ10 (23) (Or.inr (Or.inr (Or.inr (Or.inr (Or.inr (Or.inl ⟨hc2, (Decidable.not_not.mp hc3), rfl⟩))))))).wk ⟨rfl, trivial⟩
  · refine im_bipush (q := 10) D290_8 rfl ?_
    refine im_goto (q := 13) (t := 79) D290_10 rfl ?_
    exact (kJ10 (22) (Or.inr (Or.inr (Or.inr (Or.inr (Or.inr (Or.inr ⟨(Decidable.not_not.mp hc2), rfl⟩))))))).wk ⟨rfl, trivial⟩
set_option maxRecDepth 20000 in
set_option maxHeartbeats 4000000 in
theorem b_tokenNumber_0 {g : im_g} {d : Nat} {e : im_E} {M : im_M} {K : im_K} (hP : (0 ≤ (M 6952 16) ∧ (M 6952 16) < 16384) ∧ ((∀ x7 : Int, (((¬ (M 6959 (M 6952 16)) = 45) ∧ x7 = (M 6952 16)) ∨ (((M 6959 (M 6952 16)) = 45) ∧ x7 = ((M 6952 16) + 1))) → im_T g d 291 40 [some (.ref 6952), some (vI x7), some (vI (M 6952 7)), some (vI ((M 6952 17) - x7)), none] [] e M K))) : im_T g d 291 0 [some (.ref 6952), none, none, none, none] [] e M K := by
  refine im_ld (q := 1) (i := 0) D291_0 rfl rfl rfl ?_
  refine im_gfR (q := 4) (b := 6959) D291_1 (im_fl cn_291 fl_12_30) sf_6952 rfl rfl tR_12_12 rf_6952_12 ?_
  refine im_ld (q := 5) (i := 0) D291_4 rfl rfl rfl ?_
  refine im_rng (j := 16) sf_6952 (by decide) (by decide) (fun hr1 => ?_)
  refine im_gfI (q := 8) D291_5 (im_fl cn_291 fl_12_585) sf_6952 rfl rfl tI_12_16 rfl ?_
  obtain ⟨hg2, hP⟩ := hP
  refine im_rng (j := (M 6952 16)) sf_6959 hg2.1 hg2.2 (fun hr3 => ?_)
  refine im_iald (q := 9) D291_8 sf_6959 hg2.1 hg2.2 (by decide) rfl ?_
  refine im_bipush (q := 11) D291_9 rfl ?_
  have hJ8 := hP
  have kJ9 : ∀ x7 : Int, (((¬ (M 6959 (M 6952 16)) = 45) ∧ x7 = (M 6952 16)) ∨ (((M 6959 (M 6952 16)) = 45) ∧ x7 = ((M 6952 16) + 1))) → im_T g d 291 27 [some (.ref 6952), none, none, none, none] [vI x7] e M K := by
    intro x7 hx10
    have hP := hJ8 x7 hx10
    refine im_st1 (q := 28) (i := 1) (L' := [some (.ref 6952), some (vI x7), none, none, none]) D291_27 (Or.inl ⟨_, rfl, rfl⟩) (Nat.le_of_ble_eq_true rfl) rfl ?_
    refine im_ld (q := 29) (i := 0) D291_28 rfl rfl rfl ?_
    refine im_rng (j := 7) sf_6952 (by decide) (by decide) (fun hr11 => ?_)
    refine im_gfI (q := 32) D291_29 (im_fl cn_291 fl_12_449) sf_6952 rfl rfl tI_12_7 rfl ?_
    refine im_st1 (q := 33) (i := 2) (L' := [some (.ref 6952), some (vI x7), some (vI (M 6952 7)), none, none]) D291_32 (Or.inl ⟨_, rfl, rfl⟩) (Nat.le_of_ble_eq_true rfl) rfl ?_
    refine im_ld (q := 34) (i := 0) D291_33 rfl rfl rfl ?_
    refine im_rng (j := 17) sf_6952 (by decide) (by decide) (fun hr12 => ?_)
    refine im_gfI (q := 37) D291_34 (im_fl cn_291 fl_12_588) sf_6952 rfl rfl tI_12_17 rfl ?_
    refine im_ld (q := 38) (i := 1) D291_37 rfl rfl rfl ?_
    refine im_isub (q := 39) D291_38 ?_
    refine im_st1 (q := 40) (i := 3) (L' := [some (.ref 6952), some (vI x7), some (vI (M 6952 7)), some (vI ((M 6952 17) - x7)), none]) D291_39 (Or.inl ⟨_, rfl, rfl⟩) (Nat.le_of_ble_eq_true rfl) rfl ?_
    exact hP.wk ⟨rfl, rfl, rfl, rfl, trivial⟩
  refine im_icmp (q := 14) (t := 23) D291_11 rfl hr3 (by decide) (fun hc4 => ?_) (fun hc4 => ?_)
  · refine im_ld (q := 24) (i := 0) D291_23 rfl rfl rfl ?_
    refine im_gfI (q := 27) D291_24 (im_fl cn_291 fl_12_585) sf_6952 rfl rfl tI_12_16 rfl ?_
    exact (kJ9 ((M 6952 16)) (Or.inl ⟨hc4, rfl⟩)).wk ⟨rfl, trivial⟩
  · refine im_ld (q := 15) (i := 0) D291_14 rfl rfl rfl ?_
    refine im_gfI (q := 18) D291_15 (im_fl cn_291 fl_12_585) sf_6952 rfl rfl tI_12_16 rfl ?_
    refine im_iconst (q := 19) D291_18 ?_
    refine im_iadd (q := 20) D291_19 ?_
    refine im_goto (q := 23) (t := 27) D291_20 rfl ?_
    exact (kJ9 (((M 6952 16) + 1)) (Or.inr ⟨(Decidable.not_not.mp hc4), rfl⟩)).wk ⟨rfl, trivial⟩
set_option maxRecDepth 20000 in
set_option maxHeartbeats 4000000 in
theorem b_tokenNumber_40 {g : im_g} {d : Nat} {e : im_E} {M : im_M} {K : im_K} {p1 p2 p3 : Int} (hP : (im_i32 p3) ∧ ((((0 < p3 → (0 ≤ ((M 6952 17) - p3) ∧ ((M 6952 17) - p3) < 16384) ∧ (((M 6959 ((M 6952 17) - p3)) = 48 → im_T g d 291 40 [some (.ref 6952), some (vI p1), some (vI p2), some (vI (p3 + (-1))), none] [] e M K))))) ∧ ((((p3 ≤ 0)) ∨ ((0 < p3) ∧ (¬ (M 6959 ((M 6952 17) - p3)) = 48))) → im_T g d 291 69 [some (.ref 6952), some (vI p1), some (vI p2), some (vI p3), some (vI 0)] [] e M K))) : im_T g d 291 40 [some (.ref 6952), some (vI p1), some (vI p2), some (vI p3), none] [] e M K := by
  refine im_ld (q := 41) (i := 3) D291_40 rfl rfl rfl ?_
  obtain ⟨hg1, hP⟩ := hP
  obtain ⟨hP, hJ7⟩ := hP
  have kJ8 : (((p3 ≤ 0)) ∨ ((0 < p3) ∧ (¬ (M 6959 ((M 6952 17) - p3)) = 48))) → im_T g d 291 66 [some (.ref 6952), some (vI p1), some (vI p2), some (vI p3), none] [] e M K := by
    intro  hx9
    have hP := hJ7  hx9
    refine im_iconst (q := 67) D291_66 ?_
    refine im_st1 (q := 69) (i := 4) (L' := [some (.ref 6952), some (vI p1), some (vI p2), some (vI p3), some (vI 0)]) D291_67 (Or.inr rfl) (Nat.le_of_ble_eq_true rfl) rfl ?_
    exact hP.wk ⟨rfl, rfl, rfl, rfl, rfl, trivial⟩
  refine im_ifc (q := 44) (t := 66) D291_41 rfl hg1 (fun hc2 => ?_) (fun hc2 => ?_)
  · exact (kJ8  (Or.inl hc2)).wk ⟨rfl, rfl, rfl, rfl, trivial⟩
  · replace hP := hP (Int.not_le.mp hc2)
    refine im_ld (q := 45) (i := 0) D291_44 rfl rfl rfl ?_
    refine im_gfR (q := 48) (b := 6959) D291_45 (im_fl cn_291 fl_12_30) sf_6952 rfl rfl tR_12_12 rf_6952_12 ?_
    refine im_ld (q := 49) (i := 0) D291_48 rfl rfl rfl ?_
    refine im_rng (j := 17) sf_6952 (by decide) (by decide) (fun hr3 => ?_)
    refine im_gfI (q := 52) D291_49 (im_fl cn_291 fl_12_588) sf_6952 rfl rfl tI_12_17 rfl ?_
    refine im_ld (q := 53) (i := 3) D291_52 rfl rfl rfl ?_
    refine im_isub (q := 54) D291_53 ?_
    obtain ⟨hg4, hP⟩ := hP
    refine im_rng (j := ((M 6952 17) - p3)) sf_6959 hg4.1 hg4.2 (fun hr5 => ?_)
    refine im_iald (q := 55) D291_54 sf_6959 hg4.1 hg4.2 (by decide) rfl ?_
    refine im_bipush (q := 57) D291_55 rfl ?_
    refine im_icmp (q := 60) (t := 66) D291_57 rfl hr5 (by decide) (fun hc6 => ?_) (fun hc6 => ?_)
    · exact (kJ8  (Or.inr ⟨(Int.not_le.mp hc2), hc6⟩)).wk ⟨rfl, rfl, rfl, rfl, trivial⟩
    · replace hP := hP (Decidable.not_not.mp hc6)
      refine im_iinc (q := 63) (i := 3) (L' := [some (.ref 6952), some (vI p1), some (vI p2), some (vI (p3 + (-1))), none]) D291_60 rfl (Nat.le_of_ble_eq_true rfl) rfl ?_
      refine im_goto (q := 66) (t := 40) D291_63 rfl ?_
      exact hP.wk ⟨rfl, rfl, rfl, rfl, trivial⟩
set_option maxRecDepth 20000 in
set_option maxHeartbeats 4000000 in
theorem b_tokenNumber_69 {g : im_g} {d : Nat} {e : im_E} {M : im_M} {K : im_K} {p1 p2 p3 p4 : Int} (hd : 1 ≤ d) (hP : (im_i32 p4) ∧ (im_i32 p3) ∧ ((((p3 ≤ p4 → (im_i32 p1)) ∧ (p4 < p3 → (0 ≤ (((M 6952 17) - 1) - p4) ∧ (((M 6952 17) - 1) - p4) < 16384) ∧ (0 ≤ ((p2 + 2) + p4) ∧ ((p2 + 2) + p4) < 1100000) ∧ (im_i32 ((M 6959 (((M 6952 17) - 1) - p4)) - 48)) ∧ im_T g d 291 69 [some (.ref 6952), some (vI p1), some (vI p2), some (vI p3), some (vI (p4 + 1))] [] e (im_u M 6955 ((p2 + 2) + p4) ((M 6959 (((M 6952 17) - 1) - p4)) - 48)) K))) ∧ (∀ x10 : Int, (((p3 ≤ p4) ∧ (¬ p1 = (M 6952 16)) ∧ x10 = (-1)) ∨ ((p3 ≤ p4) ∧ (p1 = (M 6952 16)) ∧ x10 = 1)) → im_T g (d - 1) 292 0 [some (.ref 6952), some (vI p2), some (vI p3), some (vI x10), none] [] e M (im_ri (fun x15 e_ M14 => e = e_ ∧ K (.inl (some (vI x15))) e M14))))) : im_T g d 291 69 [some (.ref 6952), some (vI p1), some (vI p2), some (vI p3), some (vI p4)] [] e M K := by
  refine im_ld (q := 71) (i := 4) D291_69 rfl rfl rfl ?_
  refine im_ld (q := 72) (i := 3) D291_71 rfl rfl rfl ?_
  obtain ⟨hg1, hP⟩ := hP
  obtain ⟨hg2, hP⟩ := hP
  obtain ⟨hP, hJ11⟩ := hP
  have kJ12 : ∀ x10 : Int, (((p3 ≤ p4) ∧ (¬ p1 = (M 6952 16)) ∧ x10 = (-1)) ∨ ((p3 ≤ p4) ∧ (p1 = (M 6952 16)) ∧ x10 = 1)) → im_T g d 291 125 [none, none, none, none, none] [vI x10, vI p3, vI p2, .ref 6952] e M K := by
    intro x10 hx13
    have hP := hJ11 x10 hx13
    refine im_callV (q := 128) (kd := 1) (y := 292) (n := 3) (ci := 12) (a := 6952) (vs := [.ref 6952, vI p2, vI p3, vI x10]) (r := []) (L2 := [some (.ref 6952), some (vI p2), some (vI p3), some (vI x10), none]) D291_125 (im_cal cn_291 cl_12_455) (Or.inl rfl) rfl sf_6952 rfl rfl rfl rfl hd ⟨rfl, rfl, rfl, rfl, trivial⟩ ?_
    refine hP.mono ?_
    rintro _ e16 M14 ⟨x15, rfl, rfl, hP⟩
    refine im_bkS ?_
    exact im_iret (q := 129) D291_128 rfl hP
  refine im_icmp (q := 75) (t := 109) D291_72 rfl hg1 hg2 (fun hc3 => ?_) (fun hc3 => ?_)
  · replace hP := hP.1 hc3
    refine im_ld (q := 110) (i := 0) D291_109 rfl rfl rfl ?_
    refine im_ld (q := 111) (i := 2) D291_110 rfl rfl rfl ?_
    refine im_ld (q := 112) (i := 3) D291_111 rfl rfl rfl ?_
    refine im_ld (q := 113) (i := 1) D291_112 rfl rfl rfl ?_
    refine im_ld (q := 114) (i := 0) D291_113 rfl rfl rfl ?_
    refine im_rng (j := 16) sf_6952 (by decide) (by decide) (fun hr4 => ?_)
    refine im_gfI (q := 117) D291_114 (im_fl cn_291 fl_12_585) sf_6952 rfl rfl tI_12_16 rfl ?_
    have hg5 := hP
    refine im_icmp (q := 120) (t := 124) D291_117 rfl hg5 hr4 (fun hc6 => ?_) (fun hc6 => ?_)
    · refine im_iconst (q := 125) D291_124 ?_
      exact (kJ12 ((-1)) (Or.inl ⟨hc3, hc6, rfl⟩)).wk trivial
    · refine im_iconst (q := 121) D291_120 ?_
      refine im_goto (q := 124) (t := 125) D291_121 rfl ?_
      exact (kJ12 (1) (Or.inr ⟨hc3, (Decidable.not_not.mp hc6), rfl⟩)).wk trivial
  · replace hP := hP.2 (Int.not_le.mp hc3)
    refine im_ld (q := 76) (i := 0) D291_75 rfl rfl rfl ?_
    refine im_gfR (q := 79) (b := 6955) D291_76 (im_fl cn_291 fl_12_17) sf_6952 rfl rfl tR_12_5 rf_6952_5 ?_
    refine im_ld (q := 80) (i := 2) D291_79 rfl rfl rfl ?_
    refine im_iconst (q := 81) D291_80 ?_
    refine im_iadd (q := 82) D291_81 ?_
    refine im_ld (q := 84) (i := 4) D291_82 rfl rfl rfl ?_
    refine im_iadd (q := 85) D291_84 ?_
    refine im_ld (q := 86) (i := 0) D291_85 rfl rfl rfl ?_
    refine im_gfR (q := 89) (b := 6959) D291_86 (im_fl cn_291 fl_12_30) sf_6952 rfl rfl tR_12_12 rf_6952_12 ?_
    refine im_ld (q := 90) (i := 0) D291_89 rfl rfl rfl ?_
    refine im_rng (j := 17) sf_6952 (by decide) (by decide) (fun hr7 => ?_)
    refine im_gfI (q := 93) D291_90 (im_fl cn_291 fl_12_588) sf_6952 rfl rfl tI_12_17 rfl ?_
    refine im_iconst (q := 94) D291_93 ?_
    refine im_isub (q := 95) D291_94 ?_
    refine im_ld (q := 97) (i := 4) D291_95 rfl rfl rfl ?_
    refine im_isub (q := 98) D291_97 ?_
    obtain ⟨hg8, hP⟩ := hP
    refine im_rng (j := (((M 6952 17) - 1) - p4)) sf_6959 hg8.1 hg8.2 (fun hr9 => ?_)
    refine im_iald (q := 99) D291_98 sf_6959 hg8.1 hg8.2 (by decide) rfl ?_
    refine im_bipush (q := 101) D291_99 rfl ?_
    refine im_isub (q := 102) D291_101 ?_
    obtain ⟨hg17, hP⟩ := hP
    obtain ⟨hg18, hP⟩ := hP
    refine im_iast (q := 103) D291_102 sf_6955 hg17.1 hg17.2 (by decide) hg18 ?_
    refine im_iinc (q := 106) (i := 4) (L' := [some (.ref 6952), some (vI p1), some (vI p2), some (vI p3), some (vI (p4 + 1))]) D291_103 rfl (Nat.le_of_ble_eq_true rfl) rfl ?_
    refine im_goto (q := 109) (t := 69) D291_106 rfl ?_
    exact hP.wk ⟨rfl, rfl, rfl, rfl, rfl, trivial⟩
set_option maxRecDepth 20000 in
set_option maxHeartbeats 4000000 in
theorem b_readObservation_0 {g : im_g} {d : Nat} {e : im_E} {M : im_M} {K : im_K} {p1 p2 p3 : Int} (hd : 1 ≤ d) (hP : ((¬ (M 6952 15) = 2 → im_T g (d - 1) 285 0 [some (.ref 6952)] [] e M (im_r0 (fun  e_ M5 => e = e_ ∧ K (.inl none) e M5))) ∧ ((M 6952 15) = 2 → im_T g (d - 1) 294 0 [some (vL (M 6952 18)), none, none] [] e M (im_ri (fun x8 e_ M7 => e = e_ ∧ (im_i32 x8) ∧ ((¬ x8 = 0 → im_T g (d - 1) 287 0 [some (.ref 6952), some (vI x8), some (vI p3), none] [] e M7 (im_ri (fun x12 e_ M11 => e = e_ ∧ (im_i32 x12) ∧ ((¬ x12 = (-1) → im_T g (d - 1) 288 0 [some (.ref 6952), some (vI p1), some (vI p2), some (vI x12)] [] e M11 (im_r0 (fun  e_ M15 => e = e_ ∧ im_T g (d - 1) 282 0 [some (.ref 6952)] [] e M15 (im_r0 (fun  e_ M16 => e = e_ ∧ ((((¬ x8 = 40 → ((¬ x8 = 41 → ((¬ x8 = 42 → ((¬ x8 = 43 → ((49 ≤ x8 → K (.inl none) e M16) ∧ (x8 < 49 → im_T g (d - 1) 275 0 [some (.ref 6952), some (vI 2), some (vI x12), some (vI 2), some (vI (p3 + 1))] [] e M16 (im_r0 (fun  e_ M29 => e = e_ ∧ im_T g (d - 1) 275 0 [some (.ref 6952), some (vI 2), some (vI x12), some (vI 1), some (vI (p3 + 1))] [] e M29 (im_r0 (fun  e_ M30 => e = e_ ∧ K (.inl none) e M30))))))) ∧ (x8 = 43 → im_T g (d - 1) 275 0 [some (.ref 6952), some (vI 4), some (vI x12), some (vI 2), some (vI p3)] [] e M16 (im_r0 (fun  e_ M33 => e = e_ ∧ im_T g (d - 1) 275 0 [some (.ref 6952), some (vI 4), some (vI x12), some (vI 1), some (vI p3)] [] e M33 (im_r0 (fun  e_ M34 => e = e_ ∧ K (.inl none) e M34))))))) ∧ (x8 = 42 → im_T g (d - 1) 275 0 [some (.ref 6952), some (vI 3), some (vI x12), some (vI 1), some (vI (p3 + 1))] [] e M16 (im_r0 (fun  e_ M37 => e = e_ ∧ K (.inl none) e M37))))))))) ∧ ((((x8 = 40)) ∨ ((¬ x8 = 40) ∧ (x8 = 41))) → im_T g (d - 1) 275 0 [some (.ref 6952), some (vI 3), some (vI x12), some (vI 2), some (vI (p3 + 1))] [] e M16 (im_r0 (fun  e_ M25 => e = e_ ∧ im_T g (d - 1) 275 0 [some (.ref 6952), some (vI 3), some (vI x12), some (vI 1), some (vI (p3 + 1))] [] e M25 (im_r0 (fun  e_ M26 => e = e_ ∧ K (.inl none) e M26))))))))))) ∧ (x12 = (-1) → K (.inl none) e M11))))) ∧ (x8 = 0 → im_T g (d - 1) 285 0 [some (.ref 6952)] [] e M7 (im_r0 (fun  e_ M42 => e = e_ ∧ K (.inl none) e M42))))))))) : im_T g d 293 0 [some (.ref 6952), some (vI p1), some (vI p2), some (vI p3), none, none] [] e M K := by
  refine im_ld (q := 1) (i := 0) D293_0 rfl rfl rfl ?_
  refine im_rng (j := 15) sf_6952 (by decide) (by decide) (fun hr1 => ?_)
  refine im_gfI (q := 4) D293_1 (im_fl cn_293 fl_12_591) sf_6952 rfl rfl tI_12_15 rfl ?_
  refine im_iconst (q := 5) D293_4 ?_
  refine im_icmp (q := 8) (t := 18) D293_5 rfl hr1 (by decide) (fun hc2 => ?_) (fun hc2 => ?_)
  · replace hP := hP.1 hc2
    refine im_iconst (q := 19) D293_18 ?_
    refine im_st1 (q := 21) (i := 4) (L' := [some (.ref 6952), some (vI p1), some (vI p2), some (vI p3), some (vI 0), none]) D293_19 (Or.inr rfl) (Nat.le_of_ble_eq_true rfl) rfl ?_
    refine im_ld (q := 23) (i := 4) D293_21 rfl rfl rfl ?_
    refine im_ifc (q := 26) (t := 31) D293_23 rfl (by decide) (fun hc => absurd hc (show ¬ (¬ (0 : Int) = 0) by decide)) (fun _ => ?_)
    refine im_ld (q := 27) (i := 0) D293_26 rfl rfl rfl ?_
    refine im_callV (q := 30) (kd := 1) (y := 285) (n := 0) (ci := 12) (a := 6952) (vs := [.ref 6952]) (r := []) (L2 := [some (.ref 6952)]) D293_27 (im_cal cn_293 cl_12_639) (Or.inl rfl) rfl sf_6952 rfl rfl rfl rfl hd ⟨rfl, trivial⟩ ?_
    refine hP.mono ?_
    rintro _ e6 M5 ⟨rfl, rfl, hP⟩
    refine im_bkN ?_
    exact im_vret (q := 31) D293_30 rfl hP
  · replace hP := hP.2 (Decidable.not_not.mp hc2)
    refine im_ld (q := 9) (i := 0) D293_8 rfl rfl rfl ?_
    refine im_rng (j := 18) sf_6952 (by decide) (by decide) (fun hr3 => ?_)
    refine im_gfL (q := 12) D293_9 (im_fl cn_293 fl_12_597) sf_6952 rfl rfl tL_12_18 rfl ?_
    refine im_callS (q := 15) (kd := 0) (y := 294) (n := 1) (z := 12) (vs := [vL (M 6952 18)]) (r := []) (L2 := [some (vL (M 6952 18)), none, none]) D293_12 rfl (im_cal cn_293 cl_12_662) (Or.inl rfl) rfl rfl rfl rfl rfl hd ⟨rfl, trivial⟩ ?_
    refine hP.mono ?_
    rintro _ e44 M7 ⟨x8, rfl, rfl, hP⟩
    refine im_bkS ?_
    refine im_goto (q := 18) (t := 19) D293_15 rfl ?_
    refine im_st1 (q := 21) (i := 4) (L' := [some (.ref 6952), some (vI p1), some (vI p2), some (vI p3), some (vI x8), none]) D293_19 (Or.inr rfl) (Nat.le_of_ble_eq_true rfl) rfl ?_
    refine im_ld (q := 23) (i := 4) D293_21 rfl rfl rfl ?_
    obtain ⟨hg9, hP⟩ := hP
    refine im_ifc (q := 26) (t := 31) D293_23 rfl hg9 (fun hc10 => ?_) (fun hc10 => ?_)
    · replace hP := hP.1 hc10
      refine im_ld (q := 32) (i := 0) D293_31 rfl rfl rfl ?_
      refine im_ld (q := 34) (i := 4) D293_32 rfl rfl rfl ?_
      refine im_ld (q := 35) (i := 3) D293_34 rfl rfl rfl ?_
      refine im_callV (q := 38) (kd := 1) (y := 287) (n := 2) (ci := 12) (a := 6952) (vs := [.ref 6952, vI x8, vI p3]) (r := []) (L2 := [some (.ref 6952), some (vI x8), some (vI p3), none]) D293_35 (im_cal cn_293 cl_12_642) (Or.inl rfl) rfl sf_6952 rfl rfl rfl rfl hd ⟨rfl, rfl, rfl, trivial⟩ ?_
      refine hP.mono ?_
      rintro _ e41 M11 ⟨x12, rfl, rfl, hP⟩
      refine im_bkS ?_
      refine im_st1 (q := 40) (i := 5) (L' := [some (.ref 6952), some (vI p1), some (vI p2), some (vI p3), some (vI x8), some (vI x12)]) D293_38 (Or.inr rfl) (Nat.le_of_ble_eq_true rfl) rfl ?_
      refine im_ld (q := 42) (i := 5) D293_40 rfl rfl rfl ?_
      refine im_iconst (q := 43) D293_42 ?_
      obtain ⟨hg13, hP⟩ := hP
      refine im_icmp (q := 46) (t := 47) D293_43 rfl hg13 (by decide) (fun hc14 => ?_) (fun hc14 => ?_)
      · replace hP := hP.1 hc14
        refine im_ld (q := 48) (i := 0) D293_47 rfl rfl rfl ?_
        refine im_ld (q := 49) (i := 1) D293_48 rfl rfl rfl ?_
        refine im_ld (q := 50) (i := 2) D293_49 rfl rfl rfl ?_
        refine im_ld (q := 52) (i := 5) D293_50 rfl rfl rfl ?_
        refine im_callV (q := 55) (kd := 1) (y := 288) (n := 3) (ci := 12) (a := 6952) (vs := [.ref 6952, vI p1, vI p2, vI x12]) (r := []) (L2 := [some (.ref 6952), some (vI p1), some (vI p2), some (vI x12)]) D293_52 (im_cal cn_293 cl_12_645) (Or.inl rfl) rfl sf_6952 rfl rfl rfl rfl hd ⟨rfl, rfl, rfl, rfl, trivial⟩ ?_
        refine hP.mono ?_
        rintro _ e40 M15 ⟨rfl, rfl, hP⟩
        refine im_bkN ?_
        refine im_ld (q := 56) (i := 0) D293_55 rfl rfl rfl ?_
        refine im_callV (q := 59) (kd := 1) (y := 282) (n := 0) (ci := 12) (a := 6952) (vs := [.ref 6952]) (r := []) (L2 := [some (.ref 6952)]) D293_56 (im_cal cn_293 cl_12_649) (Or.inl rfl) rfl sf_6952 rfl rfl rfl rfl hd ⟨rfl, trivial⟩ ?_
        refine hP.mono ?_
        rintro _ e39 M16 ⟨rfl, rfl, hP⟩
        refine im_bkN ?_
        refine im_ld (q := 61) (i := 4) D293_59 rfl rfl rfl ?_
        refine im_bipush (q := 63) D293_61 rfl ?_
        obtain ⟨hP, hJ22⟩ := hP
        have kJ23 : (((x8 = 40)) ∨ ((¬ x8 = 40) ∧ (x8 = 41))) → im_T g d 293 73 [some (.ref 6952), none, none, some (vI p3), none, some (vI x12)] [] e M16 K := by
          intro  hx24
          have hP := hJ22  hx24
          refine im_ld (q := 74) (i := 0) D293_73 rfl rfl rfl ?_
          refine im_iconst (q := 75) D293_74 ?_
          refine im_ld (q := 77) (i := 5) D293_75 rfl rfl rfl ?_
          refine im_iconst (q := 78) D293_77 ?_
          refine im_ld (q := 79) (i := 3) D293_78 rfl rfl rfl ?_
          refine im_iconst (q := 80) D293_79 ?_
          refine im_iadd (q := 81) D293_80 ?_
          refine im_callV (q := 84) (kd := 1) (y := 275) (n := 4) (ci := 12) (a := 6952) (vs := [.ref 6952, vI 3, vI x12, vI 2, vI (p3 + 1)]) (r := []) (L2 := [some (.ref 6952), some (vI 3), some (vI x12), some (vI 2), some (vI (p3 + 1))]) D293_81 (im_cal cn_293 cl_12_652) (Or.inl rfl) rfl sf_6952 rfl rfl rfl rfl hd ⟨rfl, rfl, rfl, rfl, rfl, trivial⟩ ?_
          refine hP.mono ?_
          rintro _ e28 M25 ⟨rfl, rfl, hP⟩
          refine im_bkN ?_
          refine im_ld (q := 85) (i := 0) D293_84 rfl rfl rfl ?_
          refine im_iconst (q := 86) D293_85 ?_
          refine im_ld (q := 88) (i := 5) D293_86 rfl rfl rfl ?_
          refine im_iconst (q := 89) D293_88 ?_
          refine im_ld (q := 90) (i := 3) D293_89 rfl rfl rfl ?_
          refine im_iconst (q := 91) D293_90 ?_
          refine im_iadd (q := 92) D293_91 ?_
          refine im_callV (q := 95) (kd := 1) (y := 275) (n := 4) (ci := 12) (a := 6952) (vs := [.ref 6952, vI 3, vI x12, vI 1, vI (p3 + 1)]) (r := []) (L2 := [some (.ref 6952), some (vI 3), some (vI x12), some (vI 1), some (vI (p3 + 1))]) D293_92 (im_cal cn_293 cl_12_652) (Or.inl rfl) rfl sf_6952 rfl rfl rfl rfl hd ⟨rfl, rfl, rfl, rfl, rfl, trivial⟩ ?_
          refine hP.mono ?_
          rintro _ e27 M26 ⟨rfl, rfl, hP⟩
          refine im_bkN ?_
          refine im_goto (q := 98) (t := 176) D293_95 rfl ?_
          exact im_vret (q := 177) D293_176 rfl hP
        refine im_icmp (q := 66) (t := 73) D293_63 rfl hg9 (by decide) (fun hc17 => ?_) (fun hc17 => ?_)
        · exact (kJ23  (Or.inl hc17)).wk ⟨rfl, rfl, rfl, trivial⟩
        · replace hP := hP hc17
          refine im_ld (q := 68) (i := 4) D293_66 rfl rfl rfl ?_
          refine im_bipush (q := 70) D293_68 rfl ?_
          refine im_icmp (q := 73) (t := 98) D293_70 rfl hg9 (by decide) (fun hc18 => ?_) (fun hc18 => ?_)
          · replace hP := hP hc18
            refine im_ld (q := 100) (i := 4) D293_98 rfl rfl rfl ?_
            refine im_bipush (q := 102) D293_100 rfl ?_
            refine im_icmp (q := 105) (t := 119) D293_102 rfl hg9 (by decide) (fun hc19 => ?_) (fun hc19 => ?_)
            · replace hP := hP.1 hc19
              refine im_ld (q := 121) (i := 4) D293_119 rfl rfl rfl ?_
              refine im_bipush (q := 123) D293_121 rfl ?_
              refine im_icmp (q := 126) (t := 147) D293_123 rfl hg9 (by decide) (fun hc20 => ?_) (fun hc20 => ?_)
              · replace hP := hP.1 hc20
                refine im_ld (q := 149) (i := 4) D293_147 rfl rfl rfl ?_
                refine im_bipush (q := 151) D293_149 rfl ?_
                refine im_icmp (q := 154) (t := 176) D293_151 rfl hg9 (by decide) (fun hc21 => ?_) (fun hc21 => ?_)
                · replace hP := hP.1 hc21
                  exact im_vret (q := 177) D293_176 rfl hP
                · replace hP := hP.2 (Int.not_le.mp hc21)
                  refine im_ld (q := 155) (i := 0) D293_154 rfl rfl rfl ?_
                  refine im_iconst (q := 156) D293_155 ?_
                  refine im_ld (q := 158) (i := 5) D293_156 rfl rfl rfl ?_
                  refine im_iconst (q := 159) D293_158 ?_
                  refine im_ld (q := 160) (i := 3) D293_159 rfl rfl rfl ?_
                  refine im_iconst (q := 161) D293_160 ?_
                  refine im_iadd (q := 162) D293_161 ?_
                  refine im_callV (q := 165) (kd := 1) (y := 275) (n := 4) (ci := 12) (a := 6952) (vs := [.ref 6952, vI 2, vI x12, vI 2, vI (p3 + 1)]) (r := []) (L2 := [some (.ref 6952), some (vI 2), some (vI x12), some (vI 2), some (vI (p3 + 1))]) D293_162 (im_cal cn_293 cl_12_652) (Or.inl rfl) rfl sf_6952 rfl rfl rfl rfl hd ⟨rfl, rfl, rfl, rfl, rfl, trivial⟩ ?_
                  refine hP.mono ?_
                  rintro _ e32 M29 ⟨rfl, rfl, hP⟩
                  refine im_bkN ?_
                  refine im_ld (q := 166) (i := 0) D293_165 rfl rfl rfl ?_
                  refine im_iconst (q := 167) D293_166 ?_
                  refine im_ld (q := 169) (i := 5) D293_167 rfl rfl rfl ?_
                  refine im_iconst (q := 170) D293_169 ?_
                  refine im_ld (q := 171) (i := 3) D293_170 rfl rfl rfl ?_
                  refine im_iconst (q := 172) D293_171 ?_
                  refine im_iadd (q := 173) D293_172 ?_
                  refine im_callV (q := 176) (kd := 1) (y := 275) (n := 4) (ci := 12) (a := 6952) (vs := [.ref 6952, vI 2, vI x12, vI 1, vI (p3 + 1)]) (r := []) (L2 := [some (.ref 6952), some (vI 2), some (vI x12), some (vI 1), some (vI (p3 + 1))]) D293_173 (im_cal cn_293 cl_12_652) (Or.inl rfl) rfl sf_6952 rfl rfl rfl rfl hd ⟨rfl, rfl, rfl, rfl, rfl, trivial⟩ ?_
                  refine hP.mono ?_
                  rintro _ e31 M30 ⟨rfl, rfl, hP⟩
                  refine im_bkN ?_
                  exact im_vret (q := 177) D293_176 rfl hP
              · replace hP := hP.2 (Decidable.not_not.mp hc20)
                refine im_ld (q := 127) (i := 0) D293_126 rfl rfl rfl ?_
                refine im_iconst (q := 128) D293_127 ?_
                refine im_ld (q := 130) (i := 5) D293_128 rfl rfl rfl ?_
                refine im_iconst (q := 131) D293_130 ?_
                refine im_ld (q := 132) (i := 3) D293_131 rfl rfl rfl ?_
                refine im_callV (q := 135) (kd := 1) (y := 275) (n := 4) (ci := 12) (a := 6952) (vs := [.ref 6952, vI 4, vI x12, vI 2, vI p3]) (r := []) (L2 := [some (.ref 6952), some (vI 4), some (vI x12), some (vI 2), some (vI p3)]) D293_132 (im_cal cn_293 cl_12_652) (Or.inl rfl) rfl sf_6952 rfl rfl rfl rfl hd ⟨rfl, rfl, rfl, rfl, rfl, trivial⟩ ?_
                refine hP.mono ?_
                rintro _ e36 M33 ⟨rfl, rfl, hP⟩
                refine im_bkN ?_
                refine im_ld (q := 136) (i := 0) D293_135 rfl rfl rfl ?_
                refine im_iconst (q := 137) D293_136 ?_
                refine im_ld (q := 139) (i := 5) D293_137 rfl rfl rfl ?_
                refine im_iconst (q := 140) D293_139 ?_
                refine im_ld (q := 141) (i := 3) D293_140 rfl rfl rfl ?_
                refine im_callV (q := 144) (kd := 1) (y := 275) (n := 4) (ci := 12) (a := 6952) (vs := [.ref 6952, vI 4, vI x12, vI 1, vI p3]) (r := []) (L2 := [some (.ref 6952), some (vI 4), some (vI x12), some (vI 1), some (vI p3)]) D293_141 (im_cal cn_293 cl_12_652) (Or.inl rfl) rfl sf_6952 rfl rfl rfl rfl hd ⟨rfl, rfl, rfl, rfl, rfl, trivial⟩ ?_
                refine hP.mono ?_
                rintro _ e35 M34 ⟨rfl, rfl, hP⟩
                refine im_bkN ?_
                refine im_goto (q := 147) (t := 176) D293_144 rfl ?_
                exact im_vret (q := 177) D293_176 rfl hP
            · replace hP := hP.2 (Decidable.not_not.mp hc19)
              refine im_ld (q := 106) (i := 0) D293_105 rfl rfl rfl ?_
              refine im_iconst (q := 107) D293_106 ?_
              refine im_ld (q := 109) (i := 5) D293_107 rfl rfl rfl ?_
              refine im_iconst (q := 110) D293_109 ?_
              refine im_ld (q := 111) (i := 3) D293_110 rfl rfl rfl ?_
              refine im_iconst (q := 112) D293_111 ?_
              refine im_iadd (q := 113) D293_112 ?_
              refine im_callV (q := 116) (kd := 1) (y := 275) (n := 4) (ci := 12) (a := 6952) (vs := [.ref 6952, vI 3, vI x12, vI 1, vI (p3 + 1)]) (r := []) (L2 := [some (.ref 6952), some (vI 3), some (vI x12), some (vI 1), some (vI (p3 + 1))]) D293_113 (im_cal cn_293 cl_12_652) (Or.inl rfl) rfl sf_6952 rfl rfl rfl rfl hd ⟨rfl, rfl, rfl, rfl, rfl, trivial⟩ ?_
              refine hP.mono ?_
              rintro _ e38 M37 ⟨rfl, rfl, hP⟩
              refine im_bkN ?_
              refine im_goto (q := 119) (t := 176) D293_116 rfl ?_
              exact im_vret (q := 177) D293_176 rfl hP
          · exact (kJ23  (Or.inr ⟨hc17, (Decidable.not_not.mp hc18)⟩)).wk ⟨rfl, rfl, rfl, trivial⟩
      · replace hP := hP.2 (Decidable.not_not.mp hc14)
        exact im_vret (q := 47) D293_46 rfl hP
    · replace hP := hP.2 (Decidable.not_not.mp hc10)
      refine im_ld (q := 27) (i := 0) D293_26 rfl rfl rfl ?_
      refine im_callV (q := 30) (kd := 1) (y := 285) (n := 0) (ci := 12) (a := 6952) (vs := [.ref 6952]) (r := []) (L2 := [some (.ref 6952)]) D293_27 (im_cal cn_293 cl_12_639) (Or.inl rfl) rfl sf_6952 rfl rfl rfl rfl hd ⟨rfl, trivial⟩ ?_
      refine hP.mono ?_
      rintro _ e43 M42 ⟨rfl, rfl, hP⟩
      refine im_bkN ?_
      exact im_vret (q := 31) D293_30 rfl hP
set_option maxRecDepth 20000 in
set_option maxHeartbeats 4000000 in
theorem b_observationOf_0 {g : im_g} {d : Nat} {e : im_E} {M : im_M} {K : im_K} {p0 : Int} (hP : (im_i64 p0) ∧ ((∀ x8 : Int, (((¬ p0 = 6385252) ∧ (¬ p0 = 28530) ∧ (¬ p0 = 7237492) ∧ (¬ p0 = 426953896805) ∧ (¬ p0 = 1953658213) ∧ (¬ p0 = 439721161573) ∧ x8 = 0) ∨ ((¬ p0 = 6385252) ∧ (¬ p0 = 28530) ∧ (¬ p0 = 7237492) ∧ (¬ p0 = 426953896805) ∧ (¬ p0 = 1953658213) ∧ (p0 = 439721161573) ∧ x8 = 50) ∨ ((¬ p0 = 6385252) ∧ (¬ p0 = 28530) ∧ (¬ p0 = 7237492) ∧ (¬ p0 = 426953896805) ∧ (p0 = 1953658213) ∧ x8 = 49) ∨ ((¬ p0 = 6385252) ∧ (¬ p0 = 28530) ∧ (¬ p0 = 7237492) ∧ (p0 = 426953896805) ∧ x8 = 43) ∨ ((¬ p0 = 6385252) ∧ (¬ p0 = 28530) ∧ (p0 = 7237492) ∧ x8 = 42) ∨ ((¬ p0 = 6385252) ∧ (p0 = 28530) ∧ x8 = 41) ∨ ((p0 = 6385252) ∧ x8 = 40)) → ((∀ x18 : Int, (((x8 ≤ 0) ∧ (¬ p0 = 26469) ∧ (¬ p0 = 26484) ∧ (¬ p0 = 27749) ∧ (¬ p0 = 27764) ∧ (¬ p0 = 25969) ∧ x18 = 0) ∨ ((x8 ≤ 0) ∧ (¬ p0 = 26469) ∧ (¬ p0 = 26484) ∧ (¬ p0 = 27749) ∧ (¬ p0 = 27764) ∧ (p0 = 25969) ∧ x18 = 48) ∨ ((x8 ≤ 0) ∧ (¬ p0 = 26469) ∧ (¬ p0 = 26484) ∧ (¬ p0 = 27749) ∧ (p0 = 27764) ∧ x18 = 47) ∨ ((x8 ≤ 0) ∧ (¬ p0 = 26469) ∧ (¬ p0 = 26484) ∧ (p0 = 27749) ∧ x18 = 46) ∨ ((x8 ≤ 0) ∧ (¬ p0 = 26469) ∧ (p0 = 26484) ∧ x18 = 45) ∨ ((x8 ≤ 0) ∧ (p0 = 26469) ∧ x18 = 44) ∨ ((0 < x8) ∧ x18 = x8)) → K (.inl (some (vI x18))) e M))))) : im_T g d 294 0 [some (vL p0), none, none] [] e M K := by
  refine im_ld (q := 1) (i := 0) D294_0 rfl rfl rfl ?_
  refine im_ldc2 (q := 4) (n := 6385252) D294_1 rfl ?_
  obtain ⟨hg1, hP⟩ := hP
  have hJ9 := hP
  have kJ10 : ∀ x8 : Int, (((¬ p0 = 6385252) ∧ (¬ p0 = 28530) ∧ (¬ p0 = 7237492) ∧ (¬ p0 = 426953896805) ∧ (¬ p0 = 1953658213) ∧ (¬ p0 = 439721161573) ∧ x8 = 0) ∨ ((¬ p0 = 6385252) ∧ (¬ p0 = 28530) ∧ (¬ p0 = 7237492) ∧ (¬ p0 = 426953896805) ∧ (¬ p0 = 1953658213) ∧ (p0 = 439721161573) ∧ x8 = 50) ∨ ((¬ p0 = 6385252) ∧ (¬ p0 = 28530) ∧ (¬ p0 = 7237492) ∧ (¬ p0 = 426953896805) ∧ (p0 = 1953658213) ∧ x8 = 49) ∨ ((¬ p0 = 6385252) ∧ (¬ p0 = 28530) ∧ (¬ p0 = 7237492) ∧ (p0 = 426953896805) ∧ x8 = 43) ∨ ((¬ p0 = 6385252) ∧ (¬ p0 = 28530) ∧ (p0 = 7237492) ∧ x8 = 42) ∨ ((¬ p0 = 6385252) ∧ (p0 = 28530) ∧ x8 = 41) ∨ ((p0 = 6385252) ∧ x8 = 40)) → im_T g d 294 79 [some (vL p0), none, none] [vI x8] e M K := by
    intro x8 hx11
    have hP := hJ9 x8 hx11
    refine im_st1 (q := 80) (i := 2) (L' := [some (vL p0), none, some (vI x8)]) D294_79 (Or.inl ⟨_, rfl, rfl⟩) (Nat.le_of_ble_eq_true rfl) rfl ?_
    refine im_ld (q := 81) (i := 2) D294_80 rfl rfl rfl ?_
    have hJ19 := hP
    have kJ20 : ∀ x18 : Int, (((x8 ≤ 0) ∧ (¬ p0 = 26469) ∧ (¬ p0 = 26484) ∧ (¬ p0 = 27749) ∧ (¬ p0 = 27764) ∧ (¬ p0 = 25969) ∧ x18 = 0) ∨ ((x8 ≤ 0) ∧ (¬ p0 = 26469) ∧ (¬ p0 = 26484) ∧ (¬ p0 = 27749) ∧ (¬ p0 = 27764) ∧ (p0 = 25969) ∧ x18 = 48) ∨ ((x8 ≤ 0) ∧ (¬ p0 = 26469) ∧ (¬ p0 = 26484) ∧ (¬ p0 = 27749) ∧ (p0 = 27764) ∧ x18 = 47) ∨ ((x8 ≤ 0) ∧ (¬ p0 = 26469) ∧ (¬ p0 = 26484) ∧ (p0 = 27749) ∧ x18 = 46) ∨ ((x8 ≤ 0) ∧ (¬ p0 = 26469) ∧ (p0 = 26484) ∧ x18 = 45) ∨ ((x8 ≤ 0) ∧ (p0 = 26469) ∧ x18 = 44) ∨ ((0 < x8) ∧ x18 = x8)) → im_T g d 294 154 [none, none, none] [vI x18] e M K := by
      intro x18 hx21
      have hP := hJ19 x18 hx21
      exact im_iret (q := 155) D294_154 rfl hP
    refine im_ifc (q := 84) (t := 88) D294_81 rfl (by omega) (fun hc12 => ?_) (fun hc12 => ?_)
    · refine im_ld (q := 89) (i := 0) D294_88 rfl rfl rfl ?_
      refine im_ldc2 (q := 92) (n := 26469) D294_89 rfl ?_
      refine im_lif (q := 93) (q2 := 96) (t := 101) D294_92 D294_93 rfl hg1 (by decide) (fun hc13 => ?_) (fun hc13 => ?_)
      · refine im_ld (q := 102) (i := 0) D294_101 rfl rfl rfl ?_
        refine im_ldc2 (q := 105) (n := 26484) D294_102 rfl ?_
        refine im_lif (q := 106) (q2 := 109) (t := 114) D294_105 D294_106 rfl hg1 (by decide) (fun hc14 => ?_) (fun hc14 => ?_)
        · refine im_ld (q := 115) (i := 0) D294_114 rfl rfl rfl ?_
          refine im_ldc2 (q := 118) (n := 27749) D294_115 rfl ?_
          refine im_lif (q := 119) (q2 := 122) (t := 127) D294_118 D294_119 rfl hg1 (by decide) (fun hc15 => ?_) (fun hc15 => ?_)
          · refine im_ld (q := 128) (i := 0) D294_127 rfl rfl rfl ?_
            refine im_ldc2 (q := 131) (n := 27764) D294_128 rfl ?_
            refine im_lif (q := 132) (q2 := 135) (t := 140) D294_131 D294_132 rfl hg1 (by decide) (fun hc16 => ?_) (fun hc16 => ?_)
            · refine im_ld (q := 141) (i := 0) D294_140 rfl rfl rfl ?_
              refine im_ldc2 (q := 144) (n := 25969) D294_141 rfl ?_
              refine im_lif (q := 145) (q2 := 148) (t := 153) D294_144 D294_145 rfl hg1 (by decide) (fun hc17 => ?_) (fun hc17 => ?_)
              · refine im_iconst (q := 154) D294_153 ?_
                exact (kJ20 (0) (Or.inl ⟨hc12, hc13, hc14, hc15, hc16, hc17, rfl⟩)).wk trivial
              · refine im_bipush (q := 150) D294_148 rfl ?_
                refine im_goto (q := 153) (t := 154) D294_150 rfl ?_
                exact (kJ20 (48) (Or.inr (Or.inl ⟨hc12, hc13, hc14, hc15, hc16, (Decidable.not_not.mp hc17), rfl⟩))).wk trivial
            · refine im_bipush (q := 137) D294_135 rfl ?_
              refine im_goto (q := 140) (t := 154) D294_137 rfl ?_
              exact (kJ20 (47) (Or.inr (Or.inr (Or.inl ⟨hc12, hc13, hc14, hc15, (Decidable.not_not.mp hc16), rfl⟩)))).wk trivial
          · refine im_bipush (q := 124) D294_122 rfl ?_
            refine im_goto (q := 127) (t := 154) D294_124 rfl ?_
            exact (kJ20 (46) (Or.inr (Or.inr (Or.inr (Or.inl ⟨hc12, hc13, hc14, (Decidable.not_not.mp hc15), rfl⟩))))).wk trivial
        · refine im_bipush (q := 111) D294_109 rfl ?_
          refine im_goto (q := 114) (t := 154) D294_111 rfl ?_
          exact (kJ20 (45) (Or.inr (Or.inr (Or.inr (Or.inr (Or.inl ⟨hc12, hc13, (Decidable.not_not.mp hc14), rfl⟩)))))).wk trivial
      · refine im_bipush (q := 98) D294_96 rfl ?_
        refine im_goto (q := 101) (t := 154) D294_98 rfl ?_
        exact (kJ20 (44) (Or.inr (Or.inr (Or.inr (Or.inr (Or.inr (Or.inl ⟨hc12, (Decidable.not_not.mp hc13), rfl⟩))))))).wk trivial
    · refine im_ld (q := 85) (i := 2) D294_84 rfl rfl rfl ?_
      refine im_goto (q := 88) (t := 154) D294_85 rfl ?_
      exact (kJ20 (x8) (Or.inr (Or.inr (Or.inr (Or.inr (Or.inr (Or.inr ⟨(Int.not_le.mp hc12), rfl⟩))))))).wk trivial
  refine im_lif (q := 5) (q2 := 8) (t := 13) D294_4 D294_5 rfl hg1 (by decide) (fun hc2 => ?_) (fun hc2 => ?_)
  · refine im_ld (q := 14) (i := 0) D294_13 rfl rfl rfl ?_
    refine im_ldc2 (q := 17) (n := 28530) D294_14 rfl ?_
    refine im_lif (q := 18) (q2 := 21) (t := 26) D294_17 D294_18 rfl hg1 (by decide) (fun hc3 => ?_) (fun hc3 => ?_)
    · refine im_ld (q := 27) (i := 0) D294_26 rfl rfl rfl ?_
      refine im_ldc2 (q := 30) (n := 7237492) D294_27 rfl ?_
      refine im_lif (q := 31) (q2 := 34) (t := 39) D294_30 D294_31 rfl hg1 (by decide) (fun hc4 => ?_) (fun hc4 => ?_)
      · refine im_ld (q := 40) (i := 0) D294_39 rfl rfl rfl ?_
        refine im_ldc2 (q := 43) (n := 426953896805) D294_40 rfl ?_
        refine im_lif (q := 44) (q2 := 47) (t := 52) D294_43 D294_44 rfl hg1 (by decide) (fun hc5 => ?_) (fun hc5 => ?_)
        · refine im_ld (q := 53) (i := 0) D294_52 rfl rfl rfl ?_
          refine im_ldc2 (q := 56) (n := 1953658213) D294_53 rfl ?_
          refine im_lif (q := 57) (q2 := 60) (t := 65) D294_56 D294_57 rfl hg1 (by decide) (fun hc6 => ?_) (fun hc6 => ?_)
          · refine im_ld (q := 66) (i := 0) D294_65 rfl rfl rfl ?_
            refine im_ldc2 (q := 69) (n := 439721161573) D294_66 rfl ?_
            refine im_lif (q := 70) (q2 := 73) (t := 78) D294_69 D294_70 rfl hg1 (by decide) (fun hc7 => ?_) (fun hc7 => ?_)
            · refine im_iconst (q := 79) D294_78 ?_
              exact (kJ10 (0) (Or.inl ⟨hc2, hc3, hc4, hc5, hc6, hc7, rfl⟩)).wk ⟨rfl, trivial⟩
            · refine im_bipush (q := 75) D294_73 rfl ?_
              refine im_goto (q := 78) (t := 79) D294_75 rfl ?_
              exact (kJ10 (50) (Or.inr (Or.inl ⟨hc2, hc3, hc4, hc5, hc6, (Decidable.not_not.mp hc7), rfl⟩))).wk ⟨rfl, trivial⟩
          · refine im_bipush (q := 62) D294_60 rfl ?_
            refine im_goto (q := 65) (t := 79) D294_62 rfl ?_
            exact (kJ10 (49) (Or.inr (Or.inr (Or.inl ⟨hc2, hc3, hc4, hc5, (Decidable.not_not.mp hc6), rfl⟩)))).wk ⟨rfl, trivial⟩
        · refine im_bipush (q := 49) D294_47 rfl ?_
          refine im_goto (q := 52) (t := 79) D294_49 rfl ?_
          exact (kJ10 (43) (Or.inr (Or.inr (Or.inr (Or.inl ⟨hc2, hc3, hc4, (Decidable.not_not.mp hc5), rfl⟩))))).wk ⟨rfl, trivial⟩
      · refine im_bipush (q := 36) D294_34 rfl ?_
        refine im_goto (q := 39) (t := 79) D294_36 rfl ?_
        exact (kJ10 (42) (Or.inr (Or.inr (Or.inr (Or.inr (Or.inl ⟨hc2, hc3, (Decidable.not_not.mp hc4), rfl⟩)))))).wk ⟨rfl, trivial⟩
    · refine im_bipush (q := 23) D294_21 rfl ?_
      refine im_goto (q := 26) (t := 79) D294_23 rfl ?_
      exact (kJ10 (41) (Or.inr (Or.inr (Or.inr (Or.inr (Or.inr (Or.inl ⟨hc2, (Decidable.not_not.mp hc3), rfl⟩))))))).wk ⟨rfl, trivial⟩
  · refine im_bipush (q := 10) D294_8 rfl ?_
    refine im_goto (q := 13) (t := 79) D294_10 rfl ?_
    exact (kJ10 (40) (Or.inr (Or.inr (Or.inr (Or.inr (Or.inr (Or.inr ⟨(Decidable.not_not.mp hc2), rfl⟩))))))).wk ⟨rfl, trivial⟩
set_option maxRecDepth 20000 in
set_option maxHeartbeats 4000000 in
theorem b_readName_0 {g : im_g} {d : Nat} {e : im_E} {M : im_M} {K : im_K} {p1 p2 : Int} (hd : 1 ≤ d) (hP : (((M 6952 15) = 3 → (im_i32 p2) ∧ ((¬ p2 = 1 → ((¬ p2 = 2 → (0 ≤ p1 ∧ p1 < 5100) ∧ im_T g (d - 1) 282 0 [some (.ref 6952)] [] e (im_u M 6963 p1 (M 6952 18)) (im_r0 (fun  e_ M10 => e = e_ ∧ K (.inl none) e M10))) ∧ (p2 = 2 → (0 ≤ p1 ∧ p1 < 5100) ∧ im_T g (d - 1) 282 0 [some (.ref 6952)] [] e (im_u M 6962 p1 (M 6952 18)) (im_r0 (fun  e_ M13 => e = e_ ∧ K (.inl none) e M13))))) ∧ (p2 = 1 → (0 ≤ p1 ∧ p1 < 5100) ∧ im_T g (d - 1) 282 0 [some (.ref 6952)] [] e (im_u M 6961 p1 (M 6952 18)) (im_r0 (fun  e_ M16 => e = e_ ∧ K (.inl none) e M16))))) ∧ (¬ (M 6952 15) = 3 → im_T g (d - 1) 285 0 [some (.ref 6952)] [] e M (im_r0 (fun  e_ M18 => e = e_ ∧ K (.inl none) e M18))))) : im_T g d 295 0 [some (.ref 6952), some (vI p1), some (vI p2)] [] e M K := by
  refine im_ld (q := 1) (i := 0) D295_0 rfl rfl rfl ?_
  refine im_rng (j := 15) sf_6952 (by decide) (by decide) (fun hr1 => ?_)
  refine im_gfI (q := 4) D295_1 (im_fl cn_295 fl_12_591) sf_6952 rfl rfl tI_12_15 rfl ?_
  refine im_iconst (q := 5) D295_4 ?_
  refine im_icmp (q := 8) (t := 13) D295_5 rfl hr1 (by decide) (fun hc2 => ?_) (fun hc2 => ?_)
  · replace hP := hP.1 hc2
    refine im_ld (q := 14) (i := 2) D295_13 rfl rfl rfl ?_
    refine im_iconst (q := 15) D295_14 ?_
    obtain ⟨hg3, hP⟩ := hP
    refine im_icmp (q := 18) (t := 31) D295_15 rfl hg3 (by decide) (fun hc4 => ?_) (fun hc4 => ?_)
    · replace hP := hP.1 hc4
      refine im_ld (q := 32) (i := 2) D295_31 rfl rfl rfl ?_
      refine im_iconst (q := 33) D295_32 ?_
      refine im_icmp (q := 36) (t := 49) D295_33 rfl hg3 (by decide) (fun hc5 => ?_) (fun hc5 => ?_)
      · replace hP := hP.1 hc5
        refine im_ld (q := 50) (i := 0) D295_49 rfl rfl rfl ?_
        refine im_gfR (q := 53) (b := 6963) D295_50 (im_fl cn_295 fl_12_42) sf_6952 rfl rfl tR_12_24 rf_6952_24 ?_
        refine im_ld (q := 54) (i := 1) D295_53 rfl rfl rfl ?_
        refine im_ld (q := 55) (i := 0) D295_54 rfl rfl rfl ?_
        refine im_rng (j := 18) sf_6952 (by decide) (by decide) (fun hr6 => ?_)
        refine im_gfL (q := 58) D295_55 (im_fl cn_295 fl_12_597) sf_6952 rfl rfl tL_12_18 rfl ?_
        obtain ⟨hg9, hP⟩ := hP
        refine im_last (q := 59) D295_58 sf_6963 hg9.1 hg9.2 (by decide) hr6 ?_
        refine im_ld (q := 60) (i := 0) D295_59 rfl rfl rfl ?_
        refine im_callV (q := 63) (kd := 1) (y := 282) (n := 0) (ci := 12) (a := 6952) (vs := [.ref 6952]) (r := []) (L2 := [some (.ref 6952)]) D295_60 (im_cal cn_295 cl_12_649) (Or.inl rfl) rfl sf_6952 rfl rfl rfl rfl hd ⟨rfl, trivial⟩ ?_
        refine hP.mono ?_
        rintro _ e11 M10 ⟨rfl, rfl, hP⟩
        refine im_bkN ?_
        exact im_vret (q := 64) D295_63 rfl hP
      · replace hP := hP.2 (Decidable.not_not.mp hc5)
        refine im_ld (q := 37) (i := 0) D295_36 rfl rfl rfl ?_
        refine im_gfR (q := 40) (b := 6962) D295_37 (im_fl cn_295 fl_12_39) sf_6952 rfl rfl tR_12_23 rf_6952_23 ?_
        refine im_ld (q := 41) (i := 1) D295_40 rfl rfl rfl ?_
        refine im_ld (q := 42) (i := 0) D295_41 rfl rfl rfl ?_
        refine im_rng (j := 18) sf_6952 (by decide) (by decide) (fun hr7 => ?_)
        refine im_gfL (q := 45) D295_42 (im_fl cn_295 fl_12_597) sf_6952 rfl rfl tL_12_18 rfl ?_
        obtain ⟨hg12, hP⟩ := hP
        refine im_last (q := 46) D295_45 sf_6962 hg12.1 hg12.2 (by decide) hr7 ?_
        refine im_goto (q := 49) (t := 59) D295_46 rfl ?_
        refine im_ld (q := 60) (i := 0) D295_59 rfl rfl rfl ?_
        refine im_callV (q := 63) (kd := 1) (y := 282) (n := 0) (ci := 12) (a := 6952) (vs := [.ref 6952]) (r := []) (L2 := [some (.ref 6952)]) D295_60 (im_cal cn_295 cl_12_649) (Or.inl rfl) rfl sf_6952 rfl rfl rfl rfl hd ⟨rfl, trivial⟩ ?_
        refine hP.mono ?_
        rintro _ e14 M13 ⟨rfl, rfl, hP⟩
        refine im_bkN ?_
        exact im_vret (q := 64) D295_63 rfl hP
    · replace hP := hP.2 (Decidable.not_not.mp hc4)
      refine im_ld (q := 19) (i := 0) D295_18 rfl rfl rfl ?_
      refine im_gfR (q := 22) (b := 6961) D295_19 (im_fl cn_295 fl_12_36) sf_6952 rfl rfl tR_12_22 rf_6952_22 ?_
      refine im_ld (q := 23) (i := 1) D295_22 rfl rfl rfl ?_
      refine im_ld (q := 24) (i := 0) D295_23 rfl rfl rfl ?_
      refine im_rng (j := 18) sf_6952 (by decide) (by decide) (fun hr8 => ?_)
      refine im_gfL (q := 27) D295_24 (im_fl cn_295 fl_12_597) sf_6952 rfl rfl tL_12_18 rfl ?_
      obtain ⟨hg15, hP⟩ := hP
      refine im_last (q := 28) D295_27 sf_6961 hg15.1 hg15.2 (by decide) hr8 ?_
      refine im_goto (q := 31) (t := 59) D295_28 rfl ?_
      refine im_ld (q := 60) (i := 0) D295_59 rfl rfl rfl ?_
      refine im_callV (q := 63) (kd := 1) (y := 282) (n := 0) (ci := 12) (a := 6952) (vs := [.ref 6952]) (r := []) (L2 := [some (.ref 6952)]) D295_60 (im_cal cn_295 cl_12_649) (Or.inl rfl) rfl sf_6952 rfl rfl rfl rfl hd ⟨rfl, trivial⟩ ?_
      refine hP.mono ?_
      rintro _ e17 M16 ⟨rfl, rfl, hP⟩
      refine im_bkN ?_
      exact im_vret (q := 64) D295_63 rfl hP
  · replace hP := hP.2 hc2
    refine im_ld (q := 9) (i := 0) D295_8 rfl rfl rfl ?_
    refine im_callV (q := 12) (kd := 1) (y := 285) (n := 0) (ci := 12) (a := 6952) (vs := [.ref 6952]) (r := []) (L2 := [some (.ref 6952)]) D295_9 (im_cal cn_295 cl_12_639) (Or.inl rfl) rfl sf_6952 rfl rfl rfl rfl hd ⟨rfl, trivial⟩ ?_
    refine hP.mono ?_
    rintro _ e19 M18 ⟨rfl, rfl, hP⟩
    refine im_bkN ?_
    exact im_vret (q := 13) D295_12 rfl hP
set_option maxRecDepth 20000 in
set_option maxHeartbeats 4000000 in
theorem b_readCase_0 {g : im_g} {d : Nat} {e : im_E} {M : im_M} {K : im_K} {p1 p2 p3 : Int} (hd : 1 ≤ d) (hP : ((((¬ (M 6952 15) = 8 → (((M 6952 15) = 2 → (((M 6952 18) = 1667330917 → im_T g (d - 1) 287 0 [some (.ref 6952), some (vI 8), some (vI (p3 + 1)), none] [] e M (im_ri (fun x13 e_ M12 => e = e_ ∧ (im_i32 x13) ∧ ((((¬ x13 = (-1) → (im_i32 p2) ∧ ((p2 = 8 → im_T g (d - 1) 286 0 [some (.ref 6952), some (vI 8)] [] e M12 (im_r0 (fun  e_ M45 => e = e_ ∧ (((M45 6952 19) ≤ 0 → ((¬ p2 = 0 → (0 ≤ p1 ∧ p1 < 5100) ∧ (0 ≤ (M45 6966 p1) ∧ (M45 6966 p1) < 5100) ∧ im_T g (d - 1) 282 0 [some (.ref 6952)] [] e (im_u (im_u M45 6967 (M45 6966 p1) x13) 6966 p1 x13) (im_r0 (fun  e_ M52 => e = e_ ∧ im_T g (d - 1) 275 0 [some (.ref 6952), some (vI 8), some (vI p1), some (vI (p2 + 1)), some (vI p3)] [] e M52 (im_r0 (fun  e_ M53 => e = e_ ∧ im_T g (d - 1) 275 0 [some (.ref 6952), some (vI 1), some (vI x13), some (vI 2), some (vI (p3 + 2))] [] e M53 (im_r0 (fun  e_ M54 => e = e_ ∧ im_T g (d - 1) 275 0 [some (.ref 6952), some (vI 10), some (vI x13), some (vI 0), some (vI (p3 + 2))] [] e M54 (im_r0 (fun  e_ M55 => e = e_ ∧ K (.inl none) e M55))))))))) ∧ (p2 = 0 → (0 ≤ p1 ∧ p1 < 5100) ∧ im_T g (d - 1) 282 0 [some (.ref 6952)] [] e (im_u (im_u M45 6964 p1 x13) 6966 p1 x13) (im_r0 (fun  e_ M61 => e = e_ ∧ im_T g (d - 1) 275 0 [some (.ref 6952), some (vI 8), some (vI p1), some (vI (p2 + 1)), some (vI p3)] [] e M61 (im_r0 (fun  e_ M62 => e = e_ ∧ im_T g (d - 1) 275 0 [some (.ref 6952), some (vI 1), some (vI x13), some (vI 2), some (vI (p3 + 2))] [] e M62 (im_r0 (fun  e_ M63 => e = e_ ∧ im_T g (d - 1) 275 0 [some (.ref 6952), some (vI 10), some (vI x13), some (vI 0), some (vI (p3 + 2))] [] e M63 (im_r0 (fun  e_ M64 => e = e_ ∧ K (.inl none) e M64))))))))))) ∧ (0 < (M45 6952 19) → K (.inl none) e M45))))))))) ∧ ((((x13 = (-1))) ∨ ((¬ x13 = (-1)) ∧ (¬ p2 = 8))) → (((M12 6952 19) ≤ 0 → (im_i32 p2) ∧ ((¬ p2 = 0 → (0 ≤ p1 ∧ p1 < 5100) ∧ (0 ≤ (M12 6966 p1) ∧ (M12 6966 p1) < 5100) ∧ im_T g (d - 1) 282 0 [some (.ref 6952)] [] e (im_u (im_u M12 6967 (M12 6966 p1) x13) 6966 p1 x13) (im_r0 (fun  e_ M28 => e = e_ ∧ im_T g (d - 1) 275 0 [some (.ref 6952), some (vI 8), some (vI p1), some (vI (p2 + 1)), some (vI p3)] [] e M28 (im_r0 (fun  e_ M29 => e = e_ ∧ im_T g (d - 1) 275 0 [some (.ref 6952), some (vI 1), some (vI x13), some (vI 2), some (vI (p3 + 2))] [] e M29 (im_r0 (fun  e_ M30 => e = e_ ∧ im_T g (d - 1) 275 0 [some (.ref 6952), some (vI 10), some (vI x13), some (vI 0), some (vI (p3 + 2))] [] e M30 (im_r0 (fun  e_ M31 => e = e_ ∧ K (.inl none) e M31))))))))) ∧ (p2 = 0 → (0 ≤ p1 ∧ p1 < 5100) ∧ im_T g (d - 1) 282 0 [some (.ref 6952)] [] e (im_u (im_u M12 6964 p1 x13) 6966 p1 x13) (im_r0 (fun  e_ M37 => e = e_ ∧ im_T g (d - 1) 275 0 [some (.ref 6952), some (vI 8), some (vI p1), some (vI (p2 + 1)), some (vI p3)] [] e M37 (im_r0 (fun  e_ M38 => e = e_ ∧ im_T g (d - 1) 275 0 [some (.ref 6952), some (vI 1), some (vI x13), some (vI 2), some (vI (p3 + 2))] [] e M38 (im_r0 (fun  e_ M39 => e = e_ ∧ im_T g (d - 1) 275 0 [some (.ref 6952), some (vI 10), some (vI x13), some (vI 0), some (vI (p3 + 2))] [] e M39 (im_r0 (fun  e_ M40 => e = e_ ∧ K (.inl none) e M40))))))))))) ∧ (0 < (M12 6952 19) → K (.inl none) e M12))))))))))) ∧ ((M 6952 15) = 8 → im_T g (d - 1) 282 0 [some (.ref 6952)] [] e M (im_r0 (fun  e_ M71 => e = e_ ∧ K (.inl none) e M71))))) ∧ ((((¬ (M 6952 15) = 8) ∧ (¬ (M 6952 15) = 2)) ∨ ((¬ (M 6952 15) = 8) ∧ ((M 6952 15) = 2) ∧ (¬ (M 6952 18) = 1667330917))) → im_T g (d - 1) 285 0 [some (.ref 6952)] [] e M (im_r0 (fun  e_ M10 => e = e_ ∧ K (.inl none) e M10))))) : im_T g d 296 0 [some (.ref 6952), some (vI p1), some (vI p2), some (vI p3), none] [] e M K := by
  refine im_ld (q := 1) (i := 0) D296_0 rfl rfl rfl ?_
  refine im_rng (j := 15) sf_6952 (by decide) (by decide) (fun hr1 => ?_)
  refine im_gfI (q := 4) D296_1 (im_fl cn_296 fl_12_591) sf_6952 rfl rfl tI_12_15 rfl ?_
  refine im_bipush (q := 6) D296_4 rfl ?_
  obtain ⟨hP, hJ7⟩ := hP
  have kJ8 : (((¬ (M 6952 15) = 8) ∧ (¬ (M 6952 15) = 2)) ∨ ((¬ (M 6952 15) = 8) ∧ ((M 6952 15) = 2) ∧ (¬ (M 6952 18) = 1667330917))) → im_T g d 296 33 [some (.ref 6952), none, none, none, none] [] e M K := by
    intro  hx9
    have hP := hJ7  hx9
    refine im_ld (q := 34) (i := 0) D296_33 rfl rfl rfl ?_
    refine im_callV (q := 37) (kd := 1) (y := 285) (n := 0) (ci := 12) (a := 6952) (vs := [.ref 6952]) (r := []) (L2 := [some (.ref 6952)]) D296_34 (im_cal cn_296 cl_12_639) (Or.inl rfl) rfl sf_6952 rfl rfl rfl rfl hd ⟨rfl, trivial⟩ ?_
    refine hP.mono ?_
    rintro _ e11 M10 ⟨rfl, rfl, hP⟩
    refine im_bkN ?_
    exact im_vret (q := 38) D296_37 rfl hP
  refine im_icmp (q := 9) (t := 14) D296_6 rfl hr1 (by decide) (fun hc2 => ?_) (fun hc2 => ?_)
  · replace hP := hP.1 hc2
    refine im_ld (q := 15) (i := 0) D296_14 rfl rfl rfl ?_
    refine im_gfI (q := 18) D296_15 (im_fl cn_296 fl_12_591) sf_6952 rfl rfl tI_12_15 rfl ?_
    refine im_iconst (q := 19) D296_18 ?_
    refine im_icmp (q := 22) (t := 33) D296_19 rfl hr1 (by decide) (fun hc4 => ?_) (fun hc4 => ?_)
    · exact (kJ8  (Or.inl ⟨hc2, hc4⟩)).wk ⟨rfl, trivial⟩
    · replace hP := hP (Decidable.not_not.mp hc4)
      refine im_ld (q := 23) (i := 0) D296_22 rfl rfl rfl ?_
      refine im_rng (j := 18) sf_6952 (by decide) (by decide) (fun hr5 => ?_)
      refine im_gfL (q := 26) D296_23 (im_fl cn_296 fl_12_597) sf_6952 rfl rfl tL_12_18 rfl ?_
      refine im_ldc2 (q := 29) (n := 1667330917) D296_26 rfl ?_
      refine im_lif (q := 30) (q2 := 33) (t := 38) D296_29 D296_30 rfl hr5 (by decide) (fun hc6 => ?_) (fun hc6 => ?_)
      · replace hP := hP hc6
        refine im_ld (q := 39) (i := 0) D296_38 rfl rfl rfl ?_
        refine im_bipush (q := 41) D296_39 rfl ?_
        refine im_ld (q := 42) (i := 3) D296_41 rfl rfl rfl ?_
        refine im_iconst (q := 43) D296_42 ?_
        refine im_iadd (q := 44) D296_43 ?_
        refine im_callV (q := 47) (kd := 1) (y := 287) (n := 2) (ci := 12) (a := 6952) (vs := [.ref 6952, vI 8, vI (p3 + 1)]) (r := []) (L2 := [some (.ref 6952), some (vI 8), some (vI (p3 + 1)), none]) D296_44 (im_cal cn_296 cl_12_642) (Or.inl rfl) rfl sf_6952 rfl rfl rfl rfl hd ⟨rfl, rfl, rfl, trivial⟩ ?_
        refine hP.mono ?_
        rintro _ e70 M12 ⟨x13, rfl, rfl, hP⟩
        refine im_bkS ?_
        refine im_st1 (q := 49) (i := 4) (L' := [some (.ref 6952), some (vI p1), some (vI p2), some (vI p3), some (vI x13)]) D296_47 (Or.inr rfl) (Nat.le_of_ble_eq_true rfl) rfl ?_
        refine im_ld (q := 51) (i := 4) D296_49 rfl rfl rfl ?_
        refine im_iconst (q := 52) D296_51 ?_
        obtain ⟨hg14, hP⟩ := hP
        obtain ⟨hP, hJ18⟩ := hP
        have kJ19 : (((x13 = (-1))) ∨ ((¬ x13 = (-1)) ∧ (¬ p2 = 8))) → im_T g d 296 67 [some (.ref 6952), some (vI p1), some (vI p2), some (vI p3), some (vI x13)] [] e M12 K := by
          intro  hx20
          have hP := hJ18  hx20
          refine im_ld (q := 68) (i := 0) D296_67 rfl rfl rfl ?_
          refine im_rng (j := 19) sf_6952 (by decide) (by decide) (fun hr21 => ?_)
          refine im_gfI (q := 71) D296_68 (im_fl cn_296 fl_12_403) sf_6952 rfl rfl tI_12_19 rfl ?_
          refine im_ifc (q := 74) (t := 75) D296_71 rfl hr21 (fun hc22 => ?_) (fun hc22 => ?_)
          · replace hP := hP.1 hc22
            refine im_ld (q := 76) (i := 2) D296_75 rfl rfl rfl ?_
            obtain ⟨hg23, hP⟩ := hP
            refine im_ifc (q := 79) (t := 90) D296_76 rfl hg23 (fun hc24 => ?_) (fun hc24 => ?_)
            · replace hP := hP.1 hc24
              refine im_ld (q := 91) (i := 0) D296_90 rfl rfl rfl ?_
              refine im_gfR (q := 94) (b := 6967) D296_91 (im_fl cn_296 fl_12_54) sf_6952 rfl rfl tR_12_28 rf_6952_28 ?_
              refine im_ld (q := 95) (i := 0) D296_94 rfl rfl rfl ?_
              refine im_gfR (q := 98) (b := 6966) D296_95 (im_fl cn_296 fl_12_51) sf_6952 rfl rfl tR_12_27 rf_6952_27 ?_
              refine im_ld (q := 99) (i := 1) D296_98 rfl rfl rfl ?_
              obtain ⟨hg25, hP⟩ := hP
              refine im_rng (j := p1) sf_6966 hg25.1 hg25.2 (fun hr26 => ?_)
              refine im_iald (q := 100) D296_99 sf_6966 hg25.1 hg25.2 (by decide) rfl ?_
              refine im_ld (q := 102) (i := 4) D296_100 rfl rfl rfl ?_
              obtain ⟨hg27, hP⟩ := hP
              refine im_iast (q := 103) D296_102 sf_6967 hg27.1 hg27.2 (by decide) hg14 ?_
              refine im_ld (q := 104) (i := 0) D296_103 rfl rfl rfl ?_
              refine im_gfR (q := 107) (b := 6966) D296_104 (im_fl cn_296 fl_12_51) sf_6952 rfl rfl tR_12_27 rf_6952_27 ?_
              refine im_ld (q := 108) (i := 1) D296_107 rfl rfl rfl ?_
              refine im_ld (q := 110) (i := 4) D296_108 rfl rfl rfl ?_
              refine im_iast (q := 111) D296_110 sf_6966 hg25.1 hg25.2 (by decide) hg14 ?_
              refine im_ld (q := 112) (i := 0) D296_111 rfl rfl rfl ?_
              refine im_callV (q := 115) (kd := 1) (y := 282) (n := 0) (ci := 12) (a := 6952) (vs := [.ref 6952]) (r := []) (L2 := [some (.ref 6952)]) D296_112 (im_cal cn_296 cl_12_649) (Or.inl rfl) rfl sf_6952 rfl rfl rfl rfl hd ⟨rfl, trivial⟩ ?_
              refine hP.mono ?_
              rintro _ e35 M28 ⟨rfl, rfl, hP⟩
              refine im_bkN ?_
              refine im_ld (q := 116) (i := 0) D296_115 rfl rfl rfl ?_
              refine im_bipush (q := 118) D296_116 rfl ?_
              refine im_ld (q := 119) (i := 1) D296_118 rfl rfl rfl ?_
              refine im_ld (q := 120) (i := 2) D296_119 rfl rfl rfl ?_
              refine im_iconst (q := 121) D296_120 ?_
              refine im_iadd (q := 122) D296_121 ?_
              refine im_ld (q := 123) (i := 3) D296_122 rfl rfl rfl ?_
              refine im_callV (q := 126) (kd := 1) (y := 275) (n := 4) (ci := 12) (a := 6952) (vs := [.ref 6952, vI 8, vI p1, vI (p2 + 1), vI p3]) (r := []) (L2 := [some (.ref 6952), some (vI 8), some (vI p1), some (vI (p2 + 1)), some (vI p3)]) D296_123 (im_cal cn_296 cl_12_652) (Or.inl rfl) rfl sf_6952 rfl rfl rfl rfl hd ⟨rfl, rfl, rfl, rfl, rfl, trivial⟩ ?_
              refine hP.mono ?_
              rintro _ e34 M29 ⟨rfl, rfl, hP⟩
              refine im_bkN ?_
              refine im_ld (q := 127) (i := 0) D296_126 rfl rfl rfl ?_
              refine im_iconst (q := 128) D296_127 ?_
              refine im_ld (q := 130) (i := 4) D296_128 rfl rfl rfl ?_
              refine im_iconst (q := 131) D296_130 ?_
              refine im_ld (q := 132) (i := 3) D296_131 rfl rfl rfl ?_
              refine im_iconst (q := 133) D296_132 ?_
              refine im_iadd (q := 134) D296_133 ?_
              refine im_callV (q := 137) (kd := 1) (y := 275) (n := 4) (ci := 12) (a := 6952) (vs := [.ref 6952, vI 1, vI x13, vI 2, vI (p3 + 2)]) (r := []) (L2 := [some (.ref 6952), some (vI 1), some (vI x13), some (vI 2), some (vI (p3 + 2))]) D296_134 (im_cal cn_296 cl_12_652) (Or.inl rfl) rfl sf_6952 rfl rfl rfl rfl hd ⟨rfl, rfl, rfl, rfl, rfl, trivial⟩ ?_
              refine hP.mono ?_
              rintro _ e33 M30 ⟨rfl, rfl, hP⟩
              refine im_bkN ?_
              refine im_ld (q := 138) (i := 0) D296_137 rfl rfl rfl ?_
              refine im_bipush (q := 140) D296_138 rfl ?_
              refine im_ld (q := 142) (i := 4) D296_140 rfl rfl rfl ?_
              refine im_iconst (q := 143) D296_142 ?_
              refine im_ld (q := 144) (i := 3) D296_143 rfl rfl rfl ?_
              refine im_iconst (q := 145) D296_144 ?_
              refine im_iadd (q := 146) D296_145 ?_
              refine im_callV (q := 149) (kd := 1) (y := 275) (n := 4) (ci := 12) (a := 6952) (vs := [.ref 6952, vI 10, vI x13, vI 0, vI (p3 + 2)]) (r := []) (L2 := [some (.ref 6952), some (vI 10), some (vI x13), some (vI 0), some (vI (p3 + 2))]) D296_146 (im_cal cn_296 cl_12_652) (Or.inl rfl) rfl sf_6952 rfl rfl rfl rfl hd ⟨rfl, rfl, rfl, rfl, rfl, trivial⟩ ?_
              refine hP.mono ?_
              rintro _ e32 M31 ⟨rfl, rfl, hP⟩
              refine im_bkN ?_
              exact im_vret (q := 150) D296_149 rfl hP
            · replace hP := hP.2 (Decidable.not_not.mp hc24)
              refine im_ld (q := 80) (i := 0) D296_79 rfl rfl rfl ?_
              refine im_gfR (q := 83) (b := 6964) D296_80 (im_fl cn_296 fl_12_45) sf_6952 rfl rfl tR_12_25 rf_6952_25 ?_
              refine im_ld (q := 84) (i := 1) D296_83 rfl rfl rfl ?_
              refine im_ld (q := 86) (i := 4) D296_84 rfl rfl rfl ?_
              obtain ⟨hg36, hP⟩ := hP
              refine im_iast (q := 87) D296_86 sf_6964 hg36.1 hg36.2 (by decide) hg14 ?_
              refine im_goto (q := 90) (t := 103) D296_87 rfl ?_
              refine im_ld (q := 104) (i := 0) D296_103 rfl rfl rfl ?_
              refine im_gfR (q := 107) (b := 6966) D296_104 (im_fl cn_296 fl_12_51) sf_6952 rfl rfl tR_12_27 rf_6952_27 ?_
              refine im_ld (q := 108) (i := 1) D296_107 rfl rfl rfl ?_
              refine im_ld (q := 110) (i := 4) D296_108 rfl rfl rfl ?_
              refine im_iast (q := 111) D296_110 sf_6966 hg36.1 hg36.2 (by decide) hg14 ?_
              refine im_ld (q := 112) (i := 0) D296_111 rfl rfl rfl ?_
              refine im_callV (q := 115) (kd := 1) (y := 282) (n := 0) (ci := 12) (a := 6952) (vs := [.ref 6952]) (r := []) (L2 := [some (.ref 6952)]) D296_112 (im_cal cn_296 cl_12_649) (Or.inl rfl) rfl sf_6952 rfl rfl rfl rfl hd ⟨rfl, trivial⟩ ?_
              refine hP.mono ?_
              rintro _ e44 M37 ⟨rfl, rfl, hP⟩
              refine im_bkN ?_
              refine im_ld (q := 116) (i := 0) D296_115 rfl rfl rfl ?_
              refine im_bipush (q := 118) D296_116 rfl ?_
              refine im_ld (q := 119) (i := 1) D296_118 rfl rfl rfl ?_
              refine im_ld (q := 120) (i := 2) D296_119 rfl rfl rfl ?_
              refine im_iconst (q := 121) D296_120 ?_
              refine im_iadd (q := 122) D296_121 ?_
              refine im_ld (q := 123) (i := 3) D296_122 rfl rfl rfl ?_
              refine im_callV (q := 126) (kd := 1) (y := 275) (n := 4) (ci := 12) (a := 6952) (vs := [.ref 6952, vI 8, vI p1, vI (p2 + 1), vI p3]) (r := []) (L2 := [some (.ref 6952), some (vI 8), some (vI p1), some (vI (p2 + 1)), some (vI p3)]) D296_123 (im_cal cn_296 cl_12_652) (Or.inl rfl) rfl sf_6952 rfl rfl rfl rfl hd ⟨rfl, rfl, rfl, rfl, rfl, trivial⟩ ?_
              refine hP.mono ?_
              rintro _ e43 M38 ⟨rfl, rfl, hP⟩
              refine im_bkN ?_
              refine im_ld (q := 127) (i := 0) D296_126 rfl rfl rfl ?_
              refine im_iconst (q := 128) D296_127 ?_
              refine im_ld (q := 130) (i := 4) D296_128 rfl rfl rfl ?_
              refine im_iconst (q := 131) D296_130 ?_
              refine im_ld (q := 132) (i := 3) D296_131 rfl rfl rfl ?_
              refine im_iconst (q := 133) D296_132 ?_
              refine im_iadd (q := 134) D296_133 ?_
              refine im_callV (q := 137) (kd := 1) (y := 275) (n := 4) (ci := 12) (a := 6952) (vs := [.ref 6952, vI 1, vI x13, vI 2, vI (p3 + 2)]) (r := []) (L2 := [some (.ref 6952), some (vI 1), some (vI x13), some (vI 2), some (vI (p3 + 2))]) D296_134 (im_cal cn_296 cl_12_652) (Or.inl rfl) rfl sf_6952 rfl rfl rfl rfl hd ⟨rfl, rfl, rfl, rfl, rfl, trivial⟩ ?_
              refine hP.mono ?_
              rintro _ e42 M39 ⟨rfl, rfl, hP⟩
              refine im_bkN ?_
              refine im_ld (q := 138) (i := 0) D296_137 rfl rfl rfl ?_
              refine im_bipush (q := 140) D296_138 rfl ?_
              refine im_ld (q := 142) (i := 4) D296_140 rfl rfl rfl ?_
              refine im_iconst (q := 143) D296_142 ?_
              refine im_ld (q := 144) (i := 3) D296_143 rfl rfl rfl ?_
              refine im_iconst (q := 145) D296_144 ?_
              refine im_iadd (q := 146) D296_145 ?_
              refine im_callV (q := 149) (kd := 1) (y := 275) (n := 4) (ci := 12) (a := 6952) (vs := [.ref 6952, vI 10, vI x13, vI 0, vI (p3 + 2)]) (r := []) (L2 := [some (.ref 6952), some (vI 10), some (vI x13), some (vI 0), some (vI (p3 + 2))]) D296_146 (im_cal cn_296 cl_12_652) (Or.inl rfl) rfl sf_6952 rfl rfl rfl rfl hd ⟨rfl, rfl, rfl, rfl, rfl, trivial⟩ ?_
              refine hP.mono ?_
              rintro _ e41 M40 ⟨rfl, rfl, hP⟩
              refine im_bkN ?_
              exact im_vret (q := 150) D296_149 rfl hP
          · replace hP := hP.2 (Int.not_le.mp hc22)
            exact im_vret (q := 75) D296_74 rfl hP
        refine im_icmp (q := 55) (t := 67) D296_52 rfl hg14 (by decide) (fun hc15 => ?_) (fun hc15 => ?_)
        · exact (kJ19  (Or.inl hc15)).wk ⟨rfl, rfl, rfl, rfl, rfl, trivial⟩
        · replace hP := hP hc15
          refine im_ld (q := 56) (i := 2) D296_55 rfl rfl rfl ?_
          refine im_bipush (q := 58) D296_56 rfl ?_
          obtain ⟨hg16, hP⟩ := hP
          refine im_icmp (q := 61) (t := 67) D296_58 rfl hg16 (by decide) (fun hc17 => ?_) (fun hc17 => ?_)
          · exact (kJ19  (Or.inr ⟨hc15, hc17⟩)).wk ⟨rfl, rfl, rfl, rfl, rfl, trivial⟩
          · replace hP := hP (Decidable.not_not.mp hc17)
            refine im_ld (q := 62) (i := 0) D296_61 rfl rfl rfl ?_
            refine im_bipush (q := 64) D296_62 rfl ?_
            refine im_callV (q := 67) (kd := 1) (y := 286) (n := 1) (ci := 12) (a := 6952) (vs := [.ref 6952, vI 8]) (r := []) (L2 := [some (.ref 6952), some (vI 8)]) D296_64 (im_cal cn_296 cl_12_614) (Or.inl rfl) rfl sf_6952 rfl rfl rfl rfl hd ⟨rfl, rfl, trivial⟩ ?_
            refine hP.mono ?_
            rintro _ e69 M45 ⟨rfl, rfl, hP⟩
            refine im_bkN ?_
            refine im_ld (q := 68) (i := 0) D296_67 rfl rfl rfl ?_
            refine im_rng (j := 19) sf_6952 (by decide) (by decide) (fun hr46 => ?_)
            refine im_gfI (q := 71) D296_68 (im_fl cn_296 fl_12_403) sf_6952 rfl rfl tI_12_19 rfl ?_
            refine im_ifc (q := 74) (t := 75) D296_71 rfl hr46 (fun hc47 => ?_) (fun hc47 => ?_)
            · replace hP := hP.1 hc47
              refine im_ld (q := 76) (i := 2) D296_75 rfl rfl rfl ?_
              refine im_ifc (q := 79) (t := 90) D296_76 rfl hg16 (fun hc48 => ?_) (fun hc48 => ?_)
              · replace hP := hP.1 hc48
                refine im_ld (q := 91) (i := 0) D296_90 rfl rfl rfl ?_
                refine im_gfR (q := 94) (b := 6967) D296_91 (im_fl cn_296 fl_12_54) sf_6952 rfl rfl tR_12_28 rf_6952_28 ?_
                refine im_ld (q := 95) (i := 0) D296_94 rfl rfl rfl ?_
                refine im_gfR (q := 98) (b := 6966) D296_95 (im_fl cn_296 fl_12_51) sf_6952 rfl rfl tR_12_27 rf_6952_27 ?_
                refine im_ld (q := 99) (i := 1) D296_98 rfl rfl rfl ?_
                obtain ⟨hg49, hP⟩ := hP
                refine im_rng (j := p1) sf_6966 hg49.1 hg49.2 (fun hr50 => ?_)
                refine im_iald (q := 100) D296_99 sf_6966 hg49.1 hg49.2 (by decide) rfl ?_
                refine im_ld (q := 102) (i := 4) D296_100 rfl rfl rfl ?_
                obtain ⟨hg51, hP⟩ := hP
                refine im_iast (q := 103) D296_102 sf_6967 hg51.1 hg51.2 (by decide) hg14 ?_
                refine im_ld (q := 104) (i := 0) D296_103 rfl rfl rfl ?_
                refine im_gfR (q := 107) (b := 6966) D296_104 (im_fl cn_296 fl_12_51) sf_6952 rfl rfl tR_12_27 rf_6952_27 ?_
                refine im_ld (q := 108) (i := 1) D296_107 rfl rfl rfl ?_
                refine im_ld (q := 110) (i := 4) D296_108 rfl rfl rfl ?_
                refine im_iast (q := 111) D296_110 sf_6966 hg49.1 hg49.2 (by decide) hg14 ?_
                refine im_ld (q := 112) (i := 0) D296_111 rfl rfl rfl ?_
                refine im_callV (q := 115) (kd := 1) (y := 282) (n := 0) (ci := 12) (a := 6952) (vs := [.ref 6952]) (r := []) (L2 := [some (.ref 6952)]) D296_112 (im_cal cn_296 cl_12_649) (Or.inl rfl) rfl sf_6952 rfl rfl rfl rfl hd ⟨rfl, trivial⟩ ?_
                refine hP.mono ?_
                rintro _ e59 M52 ⟨rfl, rfl, hP⟩
                refine im_bkN ?_
                refine im_ld (q := 116) (i := 0) D296_115 rfl rfl rfl ?_
                refine im_bipush (q := 118) D296_116 rfl ?_
                refine im_ld (q := 119) (i := 1) D296_118 rfl rfl rfl ?_
                refine im_ld (q := 120) (i := 2) D296_119 rfl rfl rfl ?_
                refine im_iconst (q := 121) D296_120 ?_
                refine im_iadd (q := 122) D296_121 ?_
                refine im_ld (q := 123) (i := 3) D296_122 rfl rfl rfl ?_
                refine im_callV (q := 126) (kd := 1) (y := 275) (n := 4) (ci := 12) (a := 6952) (vs := [.ref 6952, vI 8, vI p1, vI (p2 + 1), vI p3]) (r := []) (L2 := [some (.ref 6952), some (vI 8), some (vI p1), some (vI (p2 + 1)), some (vI p3)]) D296_123 (im_cal cn_296 cl_12_652) (Or.inl rfl) rfl sf_6952 rfl rfl rfl rfl hd ⟨rfl, rfl, rfl, rfl, rfl, trivial⟩ ?_
                refine hP.mono ?_
                rintro _ e58 M53 ⟨rfl, rfl, hP⟩
                refine im_bkN ?_
                refine im_ld (q := 127) (i := 0) D296_126 rfl rfl rfl ?_
                refine im_iconst (q := 128) D296_127 ?_
                refine im_ld (q := 130) (i := 4) D296_128 rfl rfl rfl ?_
                refine im_iconst (q := 131) D296_130 ?_
                refine im_ld (q := 132) (i := 3) D296_131 rfl rfl rfl ?_
                refine im_iconst (q := 133) D296_132 ?_
                refine im_iadd (q := 134) D296_133 ?_
                refine im_callV (q := 137) (kd := 1) (y := 275) (n := 4) (ci := 12) (a := 6952) (vs := [.ref 6952, vI 1, vI x13, vI 2, vI (p3 + 2)]) (r := []) (L2 := [some (.ref 6952), some (vI 1), some (vI x13), some (vI 2), some (vI (p3 + 2))]) D296_134 (im_cal cn_296 cl_12_652) (Or.inl rfl) rfl sf_6952 rfl rfl rfl rfl hd ⟨rfl, rfl, rfl, rfl, rfl, trivial⟩ ?_
                refine hP.mono ?_
                rintro _ e57 M54 ⟨rfl, rfl, hP⟩
                refine im_bkN ?_
                refine im_ld (q := 138) (i := 0) D296_137 rfl rfl rfl ?_
                refine im_bipush (q := 140) D296_138 rfl ?_
                refine im_ld (q := 142) (i := 4) D296_140 rfl rfl rfl ?_
                refine im_iconst (q := 143) D296_142 ?_
                refine im_ld (q := 144) (i := 3) D296_143 rfl rfl rfl ?_
                refine im_iconst (q := 145) D296_144 ?_
                refine im_iadd (q := 146) D296_145 ?_
                refine im_callV (q := 149) (kd := 1) (y := 275) (n := 4) (ci := 12) (a := 6952) (vs := [.ref 6952, vI 10, vI x13, vI 0, vI (p3 + 2)]) (r := []) (L2 := [some (.ref 6952), some (vI 10), some (vI x13), some (vI 0), some (vI (p3 + 2))]) D296_146 (im_cal cn_296 cl_12_652) (Or.inl rfl) rfl sf_6952 rfl rfl rfl rfl hd ⟨rfl, rfl, rfl, rfl, rfl, trivial⟩ ?_
                refine hP.mono ?_
                rintro _ e56 M55 ⟨rfl, rfl, hP⟩
                refine im_bkN ?_
                exact im_vret (q := 150) D296_149 rfl hP
              · replace hP := hP.2 (Decidable.not_not.mp hc48)
                refine im_ld (q := 80) (i := 0) D296_79 rfl rfl rfl ?_
                refine im_gfR (q := 83) (b := 6964) D296_80 (im_fl cn_296 fl_12_45) sf_6952 rfl rfl tR_12_25 rf_6952_25 ?_
                refine im_ld (q := 84) (i := 1) D296_83 rfl rfl rfl ?_
                refine im_ld (q := 86) (i := 4) D296_84 rfl rfl rfl ?_
                obtain ⟨hg60, hP⟩ := hP
                refine im_iast (q := 87) D296_86 sf_6964 hg60.1 hg60.2 (by decide) hg14 ?_
                refine im_goto (q := 90) (t := 103) D296_87 rfl ?_
                refine im_ld (q := 104) (i := 0) D296_103 rfl rfl rfl ?_
                refine im_gfR (q := 107) (b := 6966) D296_104 (im_fl cn_296 fl_12_51) sf_6952 rfl rfl tR_12_27 rf_6952_27 ?_
                refine im_ld (q := 108) (i := 1) D296_107 rfl rfl rfl ?_
                refine im_ld (q := 110) (i := 4) D296_108 rfl rfl rfl ?_
                refine im_iast (q := 111) D296_110 sf_6966 hg60.1 hg60.2 (by decide) hg14 ?_
                refine im_ld (q := 112) (i := 0) D296_111 rfl rfl rfl ?_
                refine im_callV (q := 115) (kd := 1) (y := 282) (n := 0) (ci := 12) (a := 6952) (vs := [.ref 6952]) (r := []) (L2 := [some (.ref 6952)]) D296_112 (im_cal cn_296 cl_12_649) (Or.inl rfl) rfl sf_6952 rfl rfl rfl rfl hd ⟨rfl, trivial⟩ ?_
                refine hP.mono ?_
                rintro _ e68 M61 ⟨rfl, rfl, hP⟩
                refine im_bkN ?_
                refine im_ld (q := 116) (i := 0) D296_115 rfl rfl rfl ?_
                refine im_bipush (q := 118) D296_116 rfl ?_
                refine im_ld (q := 119) (i := 1) D296_118 rfl rfl rfl ?_
                refine im_ld (q := 120) (i := 2) D296_119 rfl rfl rfl ?_
                refine im_iconst (q := 121) D296_120 ?_
                refine im_iadd (q := 122) D296_121 ?_
                refine im_ld (q := 123) (i := 3) D296_122 rfl rfl rfl ?_
                refine im_callV (q := 126) (kd := 1) (y := 275) (n := 4) (ci := 12) (a := 6952) (vs := [.ref 6952, vI 8, vI p1, vI (p2 + 1), vI p3]) (r := []) (L2 := [some (.ref 6952), some (vI 8), some (vI p1), some (vI (p2 + 1)), some (vI p3)]) D296_123 (im_cal cn_296 cl_12_652) (Or.inl rfl) rfl sf_6952 rfl rfl rfl rfl hd ⟨rfl, rfl, rfl, rfl, rfl, trivial⟩ ?_
                refine hP.mono ?_
                rintro _ e67 M62 ⟨rfl, rfl, hP⟩
                refine im_bkN ?_
                refine im_ld (q := 127) (i := 0) D296_126 rfl rfl rfl ?_
                refine im_iconst (q := 128) D296_127 ?_
                refine im_ld (q := 130) (i := 4) D296_128 rfl rfl rfl ?_
                refine im_iconst (q := 131) D296_130 ?_
                refine im_ld (q := 132) (i := 3) D296_131 rfl rfl rfl ?_
                refine im_iconst (q := 133) D296_132 ?_
                refine im_iadd (q := 134) D296_133 ?_
                refine im_callV (q := 137) (kd := 1) (y := 275) (n := 4) (ci := 12) (a := 6952) (vs := [.ref 6952, vI 1, vI x13, vI 2, vI (p3 + 2)]) (r := []) (L2 := [some (.ref 6952), some (vI 1), some (vI x13), some (vI 2), some (vI (p3 + 2))]) D296_134 (im_cal cn_296 cl_12_652) (Or.inl rfl) rfl sf_6952 rfl rfl rfl rfl hd ⟨rfl, rfl, rfl, rfl, rfl, trivial⟩ ?_
                refine hP.mono ?_
                rintro _ e66 M63 ⟨rfl, rfl, hP⟩
                refine im_bkN ?_
                refine im_ld (q := 138) (i := 0) D296_137 rfl rfl rfl ?_
                refine im_bipush (q := 140) D296_138 rfl ?_
                refine im_ld (q := 142) (i := 4) D296_140 rfl rfl rfl ?_
                refine im_iconst (q := 143) D296_142 ?_
                refine im_ld (q := 144) (i := 3) D296_143 rfl rfl rfl ?_
                refine im_iconst (q := 145) D296_144 ?_
                refine im_iadd (q := 146) D296_145 ?_
                refine im_callV (q := 149) (kd := 1) (y := 275) (n := 4) (ci := 12) (a := 6952) (vs := [.ref 6952, vI 10, vI x13, vI 0, vI (p3 + 2)]) (r := []) (L2 := [some (.ref 6952), some (vI 10), some (vI x13), some (vI 0), some (vI (p3 + 2))]) D296_146 (im_cal cn_296 cl_12_652) (Or.inl rfl) rfl sf_6952 rfl rfl rfl rfl hd ⟨rfl, rfl, rfl, rfl, rfl, trivial⟩ ?_
                refine hP.mono ?_
                rintro _ e65 M64 ⟨rfl, rfl, hP⟩
                refine im_bkN ?_
                exact im_vret (q := 150) D296_149 rfl hP
            · replace hP := hP.2 (Int.not_le.mp hc47)
              exact im_vret (q := 75) D296_74 rfl hP
      · exact (kJ8  (Or.inr ⟨hc2, (Decidable.not_not.mp hc4), hc6⟩)).wk ⟨rfl, trivial⟩
  · replace hP := hP.2 (Decidable.not_not.mp hc2)
    refine im_ld (q := 10) (i := 0) D296_9 rfl rfl rfl ?_
    refine im_callV (q := 13) (kd := 1) (y := 282) (n := 0) (ci := 12) (a := 6952) (vs := [.ref 6952]) (r := []) (L2 := [some (.ref 6952)]) D296_10 (im_cal cn_296 cl_12_649) (Or.inl rfl) rfl sf_6952 rfl rfl rfl rfl hd ⟨rfl, trivial⟩ ?_
    refine hP.mono ?_
    rintro _ e72 M71 ⟨rfl, rfl, hP⟩
    refine im_bkN ?_
    exact im_vret (q := 14) D296_13 rfl hP
set_option maxRecDepth 20000 in
set_option maxHeartbeats 4000000 in
theorem b_readTime_0 {g : im_g} {d : Nat} {e : im_E} {M : im_M} {K : im_K} {p1 : Int} (hd : 1 ≤ d) (hP : ((¬ (M 6952 15) = 4 → (((M 6952 15) = 1 → im_T g (d - 1) 291 0 [some (.ref 6952), none, none, none, none] [] e M (im_ri (fun x7 e_ M6 => e = e_ ∧ im_T g (d - 1) 298 0 [some (.ref 6952), some (vI x7), none, none, none] [] e M6 (im_rl (fun x9 e_ M8 => e = e_ ∧ im_T g (d - 1) 268 0 [some (vL x9), none, some (vL 0), none, some (vL 1000000000000000), none] [] e (im_u M8 6952 7 (M 6952 7)) (im_ri (fun x11 e_ M10 => e = e_ ∧ (im_i32 x11) ∧ ((¬ x11 = 0 → (0 ≤ p1 ∧ p1 < 5100) ∧ (im_i64 x9) ∧ im_T g (d - 1) 282 0 [some (.ref 6952)] [] e (im_u M10 6969 p1 x9) (im_r0 (fun  e_ M16 => e = e_ ∧ K (.inl none) e M16))) ∧ (x11 = 0 → im_T g (d - 1) 286 0 [some (.ref 6952), some (vI 5)] [] e M10 (im_r0 (fun  e_ M18 => e = e_ ∧ K (.inl none) e M18))))))))))) ∧ (¬ (M 6952 15) = 1 → im_T g (d - 1) 285 0 [some (.ref 6952)] [] e M (im_r0 (fun  e_ M23 => e = e_ ∧ K (.inl none) e M23))))) ∧ ((M 6952 15) = 4 → (0 ≤ p1 ∧ p1 < 5100) ∧ im_T g (d - 1) 282 0 [some (.ref 6952)] [] e (im_u (im_u M 6970 p1 1) 6961 p1 (M 6952 18)) (im_r0 (fun  e_ M27 => e = e_ ∧ K (.inl none) e M27))))) : im_T g d 297 0 [some (.ref 6952), some (vI p1), none, none, none] [] e M K := by
  refine im_ld (q := 1) (i := 0) D297_0 rfl rfl rfl ?_
  refine im_rng (j := 15) sf_6952 (by decide) (by decide) (fun hr1 => ?_)
  refine im_gfI (q := 4) D297_1 (im_fl cn_297 fl_12_591) sf_6952 rfl rfl tI_12_15 rfl ?_
  refine im_iconst (q := 5) D297_4 ?_
  refine im_icmp (q := 8) (t := 30) D297_5 rfl hr1 (by decide) (fun hc2 => ?_) (fun hc2 => ?_)
  · replace hP := hP.1 hc2
    refine im_ld (q := 31) (i := 0) D297_30 rfl rfl rfl ?_
    refine im_gfI (q := 34) D297_31 (im_fl cn_297 fl_12_591) sf_6952 rfl rfl tI_12_15 rfl ?_
    refine im_iconst (q := 35) D297_34 ?_
    refine im_icmp (q := 38) (t := 43) D297_35 rfl hr1 (by decide) (fun hc4 => ?_) (fun hc4 => ?_)
    · replace hP := hP.1 hc4
      refine im_ld (q := 44) (i := 0) D297_43 rfl rfl rfl ?_
      refine im_rng (j := 7) sf_6952 (by decide) (by decide) (fun hr5 => ?_)
      refine im_gfI (q := 47) D297_44 (im_fl cn_297 fl_12_449) sf_6952 rfl rfl tI_12_7 rfl ?_
      refine im_st1 (q := 48) (i := 2) (L' := [some (.ref 6952), some (vI p1), some (vI (M 6952 7)), none, none]) D297_47 (Or.inl ⟨_, rfl, rfl⟩) (Nat.le_of_ble_eq_true rfl) rfl ?_
      refine im_ld (q := 49) (i := 0) D297_48 rfl rfl rfl ?_
      refine im_ld (q := 50) (i := 0) D297_49 rfl rfl rfl ?_
      refine im_callV (q := 53) (kd := 1) (y := 291) (n := 0) (ci := 12) (a := 6952) (vs := [.ref 6952]) (r := [.ref 6952]) (L2 := [some (.ref 6952), none, none, none, none]) D297_50 (im_cal cn_297 cl_12_659) (Or.inl rfl) rfl sf_6952 rfl rfl rfl rfl hd ⟨rfl, trivial⟩ ?_
      refine hP.mono ?_
      rintro _ e22 M6 ⟨x7, rfl, rfl, hP⟩
      refine im_bkS ?_
      refine im_callV (q := 56) (kd := 1) (y := 298) (n := 1) (ci := 12) (a := 6952) (vs := [.ref 6952, vI x7]) (r := []) (L2 := [some (.ref 6952), some (vI x7), none, none, none]) D297_53 (im_cal cn_297 cl_12_668) (Or.inl rfl) rfl sf_6952 rfl rfl rfl rfl hd ⟨rfl, rfl, trivial⟩ ?_
      refine hP.mono ?_
      rintro _ e21 M8 ⟨x9, rfl, rfl, hP⟩
      refine im_bkS ?_
      refine im_st2 (q := 57) (i := 3) (L' := [some (.ref 6952), some (vI p1), some (vI (M 6952 7)), some (vL x9), none]) D297_56 (Or.inl ⟨_, rfl, rfl⟩) (Nat.le_of_ble_eq_true rfl) rfl ?_
      refine im_ld (q := 58) (i := 0) D297_57 rfl rfl rfl ?_
      refine im_ld (q := 59) (i := 2) D297_58 rfl rfl rfl ?_
      refine im_pfI (q := 62) D297_59 (im_fl cn_297 fl_12_449) sf_6952 rfl rfl ti_12_7 hr5 ?_
      refine im_ld (q := 63) (i := 3) D297_62 rfl rfl rfl ?_
      refine im_lconst (q := 64) (z := 0) D297_63 rfl ?_
      refine im_ldc2 (q := 67) (n := 1000000000000000) D297_64 rfl ?_
      refine im_callS (q := 70) (kd := 0) (y := 268) (n := 3) (z := 12) (vs := [vL x9, vL 0, vL 1000000000000000]) (r := []) (L2 := [some (vL x9), none, some (vL 0), none, some (vL 1000000000000000), none]) D297_67 rfl (im_cal cn_297 cl_12_428) (Or.inl rfl) rfl rfl rfl rfl rfl hd ⟨rfl, rfl, rfl, trivial⟩ ?_
      refine hP.mono ?_
      rintro _ e20 M10 ⟨x11, rfl, rfl, hP⟩
      refine im_bkS ?_
      obtain ⟨hg12, hP⟩ := hP
      refine im_ifc (q := 73) (t := 79) D297_70 rfl hg12 (fun hc13 => ?_) (fun hc13 => ?_)
      · replace hP := hP.1 hc13
        refine im_ld (q := 80) (i := 0) D297_79 rfl rfl rfl ?_
        refine im_gfR (q := 83) (b := 6969) D297_80 (im_fl cn_297 fl_12_60) sf_6952 rfl rfl tR_12_30 rf_6952_30 ?_
        refine im_ld (q := 84) (i := 1) D297_83 rfl rfl rfl ?_
        refine im_ld (q := 85) (i := 3) D297_84 rfl rfl rfl ?_
        obtain ⟨hg14, hP⟩ := hP
        obtain ⟨hg15, hP⟩ := hP
        refine im_last (q := 86) D297_85 sf_6969 hg14.1 hg14.2 (by decide) hg15 ?_
        refine im_ld (q := 87) (i := 0) D297_86 rfl rfl rfl ?_
        refine im_callV (q := 90) (kd := 1) (y := 282) (n := 0) (ci := 12) (a := 6952) (vs := [.ref 6952]) (r := []) (L2 := [some (.ref 6952)]) D297_87 (im_cal cn_297 cl_12_649) (Or.inl rfl) rfl sf_6952 rfl rfl rfl rfl hd ⟨rfl, trivial⟩ ?_
        refine hP.mono ?_
        rintro _ e17 M16 ⟨rfl, rfl, hP⟩
        refine im_bkN ?_
        exact im_vret (q := 91) D297_90 rfl hP
      · replace hP := hP.2 (Decidable.not_not.mp hc13)
        refine im_ld (q := 74) (i := 0) D297_73 rfl rfl rfl ?_
        refine im_iconst (q := 75) D297_74 ?_
        refine im_callV (q := 78) (kd := 1) (y := 286) (n := 1) (ci := 12) (a := 6952) (vs := [.ref 6952, vI 5]) (r := []) (L2 := [some (.ref 6952), some (vI 5)]) D297_75 (im_cal cn_297 cl_12_614) (Or.inl rfl) rfl sf_6952 rfl rfl rfl rfl hd ⟨rfl, rfl, trivial⟩ ?_
        refine hP.mono ?_
        rintro _ e19 M18 ⟨rfl, rfl, hP⟩
        refine im_bkN ?_
        exact im_vret (q := 79) D297_78 rfl hP
    · replace hP := hP.2 hc4
      refine im_ld (q := 39) (i := 0) D297_38 rfl rfl rfl ?_
      refine im_callV (q := 42) (kd := 1) (y := 285) (n := 0) (ci := 12) (a := 6952) (vs := [.ref 6952]) (r := []) (L2 := [some (.ref 6952)]) D297_39 (im_cal cn_297 cl_12_639) (Or.inl rfl) rfl sf_6952 rfl rfl rfl rfl hd ⟨rfl, trivial⟩ ?_
      refine hP.mono ?_
      rintro _ e24 M23 ⟨rfl, rfl, hP⟩
      refine im_bkN ?_
      exact im_vret (q := 43) D297_42 rfl hP
  · replace hP := hP.2 (Decidable.not_not.mp hc2)
    refine im_ld (q := 9) (i := 0) D297_8 rfl rfl rfl ?_
    refine im_gfR (q := 12) (b := 6970) D297_9 (im_fl cn_297 fl_12_63) sf_6952 rfl rfl tR_12_31 rf_6952_31 ?_
    refine im_ld (q := 13) (i := 1) D297_12 rfl rfl rfl ?_
    refine im_iconst (q := 14) D297_13 ?_
    obtain ⟨hg25, hP⟩ := hP
    refine im_zast (q := 15) D297_14 sf_6970 hg25.1 hg25.2 (by decide) (by decide) ?_
    refine im_ld (q := 16) (i := 0) D297_15 rfl rfl rfl ?_
    refine im_gfR (q := 19) (b := 6961) D297_16 (im_fl cn_297 fl_12_36) sf_6952 rfl rfl tR_12_22 rf_6952_22 ?_
    refine im_ld (q := 20) (i := 1) D297_19 rfl rfl rfl ?_
    refine im_ld (q := 21) (i := 0) D297_20 rfl rfl rfl ?_
    refine im_rng (j := 18) sf_6952 (by decide) (by decide) (fun hr26 => ?_)
    refine im_gfL (q := 24) D297_21 (im_fl cn_297 fl_12_597) sf_6952 rfl rfl tL_12_18 (im_rdn _ _ _ _ (by decide)) ?_
    refine im_last (q := 25) D297_24 sf_6961 hg25.1 hg25.2 (by decide) (im_rgc hr26 (im_rdn _ _ _ _ (by decide))) ?_
    refine im_ld (q := 26) (i := 0) D297_25 rfl rfl rfl ?_
    refine im_callV (q := 29) (kd := 1) (y := 282) (n := 0) (ci := 12) (a := 6952) (vs := [.ref 6952]) (r := []) (L2 := [some (.ref 6952)]) D297_26 (im_cal cn_297 cl_12_649) (Or.inl rfl) rfl sf_6952 rfl rfl rfl rfl hd ⟨rfl, trivial⟩ ?_
    refine hP.mono ?_
    rintro _ e28 M27 ⟨rfl, rfl, hP⟩
    refine im_bkN ?_
    exact im_vret (q := 30) D297_29 rfl hP
set_option maxRecDepth 20000 in
set_option maxHeartbeats 4000000 in
theorem b_readAction_0 {g : im_g} {d : Nat} {e : im_E} {M : im_M} {K : im_K} {p1 p2 : Int} (hd : 1 ≤ d) (hP : ((((((M 6952 15) = 2) ∧ ((M 6952 18) = 28259031251642740)) ∨ (((M 6952 15) = 2) ∧ (¬ (M 6952 18) = 28259031251642740) ∧ ((M 6952 18) = 109300196926309)) ∨ (((M 6952 15) = 2) ∧ (¬ (M 6952 18) = 28259031251642740) ∧ (¬ (M 6952 18) = 109300196926309) ∧ ((M 6952 18) = 121424973489785))) → ((∀ x17 : Int, (((¬ (M 6952 18) = 28259031251642740) ∧ (¬ (M 6952 18) = 109300196926309) ∧ x17 = 10) ∨ ((¬ (M 6952 18) = 28259031251642740) ∧ ((M 6952 18) = 109300196926309) ∧ x17 = 9) ∨ (((M 6952 18) = 28259031251642740) ∧ x17 = 8)) → (0 ≤ p1 ∧ p1 < 5100) ∧ im_T g (d - 1) 282 0 [some (.ref 6952)] [] e (im_u M 6960 p1 x17) (im_r0 (fun  e_ M22 => e = e_ ∧ ((¬ (M22 6960 p1) = 8 → ((¬ (M22 6960 p1) = 9 → im_T g (d - 1) 275 0 [some (.ref 6952), some (vI 3), some (vI p1), some (vI 1), some (vI p2)] [] e M22 (im_r0 (fun  e_ M28 => e = e_ ∧ K (.inl none) e M28))) ∧ ((M22 6960 p1) = 9 → im_T g (d - 1) 275 0 [some (.ref 6952), some (vI 12), some (vI p1), some (vI 0), some (vI p2)] [] e (im_u M22 6971 p1 (M22 6952 37)) (im_r0 (fun  e_ M30 => e = e_ ∧ im_T g (d - 1) 275 0 [some (.ref 6952), some (vI 11), some (vI p1), some (vI 0), some (vI p2)] [] e M30 (im_r0 (fun  e_ M31 => e = e_ ∧ im_T g (d - 1) 275 0 [some (.ref 6952), some (vI 4), some (vI p1), some (vI 2), some (vI p2)] [] e M31 (im_r0 (fun  e_ M32 => e = e_ ∧ im_T g (d - 1) 275 0 [some (.ref 6952), some (vI 4), some (vI p1), some (vI 1), some (vI p2)] [] e M32 (im_r0 (fun  e_ M33 => e = e_ ∧ K (.inl none) e M33))))))))))) ∧ ((M22 6960 p1) = 8 → im_T g (d - 1) 275 0 [some (.ref 6952), some (vI 2), some (vI p1), some (vI 1), some (vI p2)] [] e M22 (im_r0 (fun  e_ M38 => e = e_ ∧ im_T g (d - 1) 275 0 [some (.ref 6952), some (vI 4), some (vI p1), some (vI 3), some (vI p2)] [] e M38 (im_r0 (fun  e_ M39 => e = e_ ∧ im_T g (d - 1) 275 0 [some (.ref 6952), some (vI 4), some (vI p1), some (vI 2), some (vI p2)] [] e M39 (im_r0 (fun  e_ M40 => e = e_ ∧ im_T g (d - 1) 275 0 [some (.ref 6952), some (vI 4), some (vI p1), some (vI 1), some (vI p2)] [] e M40 (im_r0 (fun  e_ M41 => e = e_ ∧ K (.inl none) e M41))))))))))))))) ∧ ((((¬ (M 6952 15) = 2)) ∨ (((M 6952 15) = 2) ∧ (¬ (M 6952 18) = 28259031251642740) ∧ (¬ (M 6952 18) = 109300196926309) ∧ (¬ (M 6952 18) = 121424973489785))) → im_T g (d - 1) 285 0 [some (.ref 6952)] [] e M (im_r0 (fun  e_ M51 => e = e_ ∧ K (.inl none) e M51))))) : im_T g d 299 0 [some (.ref 6952), some (vI p1), some (vI p2), none] [] e M K := by
  refine im_ld (q := 1) (i := 0) D299_0 rfl rfl rfl ?_
  refine im_rng (j := 15) sf_6952 (by decide) (by decide) (fun hr1 => ?_)
  refine im_gfI (q := 4) D299_1 (im_fl cn_299 fl_12_591) sf_6952 rfl rfl tI_12_15 rfl ?_
  refine im_iconst (q := 5) D299_4 ?_
  obtain ⟨hJ9, hJ47⟩ := hP
  have kJ10 : ((((M 6952 15) = 2) ∧ ((M 6952 18) = 28259031251642740)) ∨ (((M 6952 15) = 2) ∧ (¬ (M 6952 18) = 28259031251642740) ∧ ((M 6952 18) = 109300196926309)) ∨ (((M 6952 15) = 2) ∧ (¬ (M 6952 18) = 28259031251642740) ∧ (¬ (M 6952 18) = 109300196926309) ∧ ((M 6952 18) = 121424973489785))) → im_T g d 299 41 [some (.ref 6952), some (vI p1), some (vI p2), none] [] e M K := by
    intro  hx11
    have hP := hJ9  hx11
    refine im_iconst (q := 42) D299_41 ?_
    refine im_goto (q := 45) (t := 46) D299_42 rfl ?_
    refine im_st1 (q := 47) (i := 3) (L' := [some (.ref 6952), some (vI p1), some (vI p2), some (vI 1)]) D299_46 (Or.inl ⟨_, rfl, rfl⟩) (Nat.le_of_ble_eq_true rfl) rfl ?_
    refine im_ld (q := 48) (i := 3) D299_47 rfl rfl rfl ?_
    refine im_ifc (q := 51) (t := 56) D299_48 rfl (by decide) (fun _ => ?_) (fun hc => absurd (show ¬ (1 : Int) = 0 by decide) hc)
    refine im_ld (q := 57) (i := 0) D299_56 rfl rfl rfl ?_
    refine im_gfR (q := 60) (b := 6960) D299_57 (im_fl cn_299 fl_12_33) sf_6952 rfl rfl tR_12_21 rf_6952_21 ?_
    refine im_ld (q := 61) (i := 1) D299_60 rfl rfl rfl ?_
    refine im_ld (q := 62) (i := 0) D299_61 rfl rfl rfl ?_
    refine im_rng (j := 18) sf_6952 (by decide) (by decide) (fun hr13 => ?_)
    refine im_gfL (q := 65) D299_62 (im_fl cn_299 fl_12_597) sf_6952 rfl rfl tL_12_18 rfl ?_
    refine im_ldc2 (q := 68) (n := 28259031251642740) D299_65 rfl ?_
    have hJ18 := hP
    have kJ19 : ∀ x17 : Int, (((¬ (M 6952 18) = 28259031251642740) ∧ (¬ (M 6952 18) = 109300196926309) ∧ x17 = 10) ∨ ((¬ (M 6952 18) = 28259031251642740) ∧ ((M 6952 18) = 109300196926309) ∧ x17 = 9) ∨ (((M 6952 18) = 28259031251642740) ∧ x17 = 8)) → im_T g d 299 95 [some (.ref 6952), some (vI p1), some (vI p2), none] [vI x17, vI p1, .ref 6960] e M K := by
      intro x17 hx20
      have hP := hJ18 x17 hx20
      obtain ⟨hg21, hP⟩ := hP
      refine im_iast (q := 96) D299_95 sf_6960 hg21.1 hg21.2 (by decide) (by omega) ?_
      refine im_ld (q := 97) (i := 0) D299_96 rfl rfl rfl ?_
      refine im_callV (q := 100) (kd := 1) (y := 282) (n := 0) (ci := 12) (a := 6952) (vs := [.ref 6952]) (r := []) (L2 := [some (.ref 6952)]) D299_97 (im_cal cn_299 cl_12_649) (Or.inl rfl) rfl sf_6952 rfl rfl rfl rfl hd ⟨rfl, trivial⟩ ?_
      refine hP.mono ?_
      rintro _ e46 M22 ⟨rfl, rfl, hP⟩
      refine im_bkN ?_
      refine im_ld (q := 101) (i := 0) D299_100 rfl rfl rfl ?_
      refine im_gfR (q := 104) (b := 6960) D299_101 (im_fl cn_299 fl_12_33) sf_6952 rfl rfl tR_12_21 rf_6952_21 ?_
      refine im_ld (q := 105) (i := 1) D299_104 rfl rfl rfl ?_
      refine im_rng (j := p1) sf_6960 hg21.1 hg21.2 (fun hr23 => ?_)
      refine im_iald (q := 106) D299_105 sf_6960 hg21.1 hg21.2 (by decide) rfl ?_
      refine im_bipush (q := 108) D299_106 rfl ?_
      refine im_icmp (q := 111) (t := 146) D299_108 rfl hr23 (by decide) (fun hc24 => ?_) (fun hc24 => ?_)
      · replace hP := hP.1 hc24
        refine im_ld (q := 147) (i := 0) D299_146 rfl rfl rfl ?_
        refine im_gfR (q := 150) (b := 6960) D299_147 (im_fl cn_299 fl_12_33) sf_6952 rfl rfl tR_12_21 rf_6952_21 ?_
        refine im_ld (q := 151) (i := 1) D299_150 rfl rfl rfl ?_
        refine im_iald (q := 152) D299_151 sf_6960 hg21.1 hg21.2 (by decide) rfl ?_
        refine im_bipush (q := 154) D299_152 rfl ?_
        refine im_icmp (q := 157) (t := 204) D299_154 rfl hr23 (by decide) (fun hc26 => ?_) (fun hc26 => ?_)
        · replace hP := hP.1 hc26
          refine im_ld (q := 205) (i := 0) D299_204 rfl rfl rfl ?_
          refine im_iconst (q := 206) D299_205 ?_
          refine im_ld (q := 207) (i := 1) D299_206 rfl rfl rfl ?_
          refine im_iconst (q := 208) D299_207 ?_
          refine im_ld (q := 209) (i := 2) D299_208 rfl rfl rfl ?_
          refine im_callV (q := 212) (kd := 1) (y := 275) (n := 4) (ci := 12) (a := 6952) (vs := [.ref 6952, vI 3, vI p1, vI 1, vI p2]) (r := []) (L2 := [some (.ref 6952), some (vI 3), some (vI p1), some (vI 1), some (vI p2)]) D299_209 (im_cal cn_299 cl_12_652) (Or.inl rfl) rfl sf_6952 rfl rfl rfl rfl hd ⟨rfl, rfl, rfl, rfl, rfl, trivial⟩ ?_
          refine hP.mono ?_
          rintro _ e29 M28 ⟨rfl, rfl, hP⟩
          refine im_bkN ?_
          exact im_vret (q := 213) D299_212 rfl hP
        · replace hP := hP.2 (Decidable.not_not.mp hc26)
          refine im_ld (q := 158) (i := 0) D299_157 rfl rfl rfl ?_
          refine im_gfR (q := 161) (b := 6971) D299_158 (im_fl cn_299 fl_12_67) sf_6952 rfl rfl tR_12_32 rf_6952_32 ?_
          refine im_ld (q := 162) (i := 1) D299_161 rfl rfl rfl ?_
          refine im_ld (q := 163) (i := 0) D299_162 rfl rfl rfl ?_
          refine im_rng (j := 37) sf_6952 (by decide) (by decide) (fun hr27 => ?_)
          refine im_gfI (q := 166) D299_163 (im_fl cn_299 fl_12_665) sf_6952 rfl rfl tI_12_37 rfl ?_
          refine im_iast (q := 167) D299_166 sf_6971 hg21.1 hg21.2 (by decide) hr27 ?_
          refine im_ld (q := 168) (i := 0) D299_167 rfl rfl rfl ?_
          refine im_bipush (q := 170) D299_168 rfl ?_
          refine im_ld (q := 171) (i := 1) D299_170 rfl rfl rfl ?_
          refine im_iconst (q := 172) D299_171 ?_
          refine im_ld (q := 173) (i := 2) D299_172 rfl rfl rfl ?_
          refine im_callV (q := 176) (kd := 1) (y := 275) (n := 4) (ci := 12) (a := 6952) (vs := [.ref 6952, vI 12, vI p1, vI 0, vI p2]) (r := []) (L2 := [some (.ref 6952), some (vI 12), some (vI p1), some (vI 0), some (vI p2)]) D299_173 (im_cal cn_299 cl_12_652) (Or.inl rfl) rfl sf_6952 rfl rfl rfl rfl hd ⟨rfl, rfl, rfl, rfl, rfl, trivial⟩ ?_
          refine hP.mono ?_
          rintro _ e37 M30 ⟨rfl, rfl, hP⟩
          refine im_bkN ?_
          refine im_ld (q := 177) (i := 0) D299_176 rfl rfl rfl ?_
          refine im_bipush (q := 179) D299_177 rfl ?_
          refine im_ld (q := 180) (i := 1) D299_179 rfl rfl rfl ?_
          refine im_iconst (q := 181) D299_180 ?_
          refine im_ld (q := 182) (i := 2) D299_181 rfl rfl rfl ?_
          refine im_callV (q := 185) (kd := 1) (y := 275) (n := 4) (ci := 12) (a := 6952) (vs := [.ref 6952, vI 11, vI p1, vI 0, vI p2]) (r := []) (L2 := [some (.ref 6952), some (vI 11), some (vI p1), some (vI 0), some (vI p2)]) D299_182 (im_cal cn_299 cl_12_652) (Or.inl rfl) rfl sf_6952 rfl rfl rfl rfl hd ⟨rfl, rfl, rfl, rfl, rfl, trivial⟩ ?_
          refine hP.mono ?_
          rintro _ e36 M31 ⟨rfl, rfl, hP⟩
          refine im_bkN ?_
          refine im_ld (q := 186) (i := 0) D299_185 rfl rfl rfl ?_
          refine im_iconst (q := 187) D299_186 ?_
          refine im_ld (q := 188) (i := 1) D299_187 rfl rfl rfl ?_
          refine im_iconst (q := 189) D299_188 ?_
          refine im_ld (q := 190) (i := 2) D299_189 rfl rfl rfl ?_
          refine im_callV (q := 193) (kd := 1) (y := 275) (n := 4) (ci := 12) (a := 6952) (vs := [.ref 6952, vI 4, vI p1, vI 2, vI p2]) (r := []) (L2 := [some (.ref 6952), some (vI 4), some (vI p1), some (vI 2), some (vI p2)]) D299_190 (im_cal cn_299 cl_12_652) (Or.inl rfl) rfl sf_6952 rfl rfl rfl rfl hd ⟨rfl, rfl, rfl, rfl, rfl, trivial⟩ ?_
          refine hP.mono ?_
          rintro _ e35 M32 ⟨rfl, rfl, hP⟩
          refine im_bkN ?_
          refine im_ld (q := 194) (i := 0) D299_193 rfl rfl rfl ?_
          refine im_iconst (q := 195) D299_194 ?_
          refine im_ld (q := 196) (i := 1) D299_195 rfl rfl rfl ?_
          refine im_iconst (q := 197) D299_196 ?_
          refine im_ld (q := 198) (i := 2) D299_197 rfl rfl rfl ?_
          refine im_callV (q := 201) (kd := 1) (y := 275) (n := 4) (ci := 12) (a := 6952) (vs := [.ref 6952, vI 4, vI p1, vI 1, vI p2]) (r := []) (L2 := [some (.ref 6952), some (vI 4), some (vI p1), some (vI 1), some (vI p2)]) D299_198 (im_cal cn_299 cl_12_652) (Or.inl rfl) rfl sf_6952 rfl rfl rfl rfl hd ⟨rfl, rfl, rfl, rfl, rfl, trivial⟩ ?_
          refine hP.mono ?_
          rintro _ e34 M33 ⟨rfl, rfl, hP⟩
          refine im_bkN ?_
          refine im_goto (q := 204) (t := 212) D299_201 rfl ?_
          exact im_vret (q := 213) D299_212 rfl hP
      · replace hP := hP.2 (Decidable.not_not.mp hc24)
        refine im_ld (q := 112) (i := 0) D299_111 rfl rfl rfl ?_
        refine im_iconst (q := 113) D299_112 ?_
        refine im_ld (q := 114) (i := 1) D299_113 rfl rfl rfl ?_
        refine im_iconst (q := 115) D299_114 ?_
        refine im_ld (q := 116) (i := 2) D299_115 rfl rfl rfl ?_
        refine im_callV (q := 119) (kd := 1) (y := 275) (n := 4) (ci := 12) (a := 6952) (vs := [.ref 6952, vI 2, vI p1, vI 1, vI p2]) (r := []) (L2 := [some (.ref 6952), some (vI 2), some (vI p1), some (vI 1), some (vI p2)]) D299_116 (im_cal cn_299 cl_12_652) (Or.inl rfl) rfl sf_6952 rfl rfl rfl rfl hd ⟨rfl, rfl, rfl, rfl, rfl, trivial⟩ ?_
        refine hP.mono ?_
        rintro _ e45 M38 ⟨rfl, rfl, hP⟩
        refine im_bkN ?_
        refine im_ld (q := 120) (i := 0) D299_119 rfl rfl rfl ?_
        refine im_iconst (q := 121) D299_120 ?_
        refine im_ld (q := 122) (i := 1) D299_121 rfl rfl rfl ?_
        refine im_iconst (q := 123) D299_122 ?_
        refine im_ld (q := 124) (i := 2) D299_123 rfl rfl rfl ?_
        refine im_callV (q := 127) (kd := 1) (y := 275) (n := 4) (ci := 12) (a := 6952) (vs := [.ref 6952, vI 4, vI p1, vI 3, vI p2]) (r := []) (L2 := [some (.ref 6952), some (vI 4), some (vI p1), some (vI 3), some (vI p2)]) D299_124 (im_cal cn_299 cl_12_652) (Or.inl rfl) rfl sf_6952 rfl rfl rfl rfl hd ⟨rfl, rfl, rfl, rfl, rfl, trivial⟩ ?_
        refine hP.mono ?_
        rintro _ e44 M39 ⟨rfl, rfl, hP⟩
        refine im_bkN ?_
        refine im_ld (q := 128) (i := 0) D299_127 rfl rfl rfl ?_
        refine im_iconst (q := 129) D299_128 ?_
        refine im_ld (q := 130) (i := 1) D299_129 rfl rfl rfl ?_
        refine im_iconst (q := 131) D299_130 ?_
        refine im_ld (q := 132) (i := 2) D299_131 rfl rfl rfl ?_
        refine im_callV (q := 135) (kd := 1) (y := 275) (n := 4) (ci := 12) (a := 6952) (vs := [.ref 6952, vI 4, vI p1, vI 2, vI p2]) (r := []) (L2 := [some (.ref 6952), some (vI 4), some (vI p1), some (vI 2), some (vI p2)]) D299_132 (im_cal cn_299 cl_12_652) (Or.inl rfl) rfl sf_6952 rfl rfl rfl rfl hd ⟨rfl, rfl, rfl, rfl, rfl, trivial⟩ ?_
        refine hP.mono ?_
        rintro _ e43 M40 ⟨rfl, rfl, hP⟩
        refine im_bkN ?_
        refine im_ld (q := 136) (i := 0) D299_135 rfl rfl rfl ?_
        refine im_iconst (q := 137) D299_136 ?_
        refine im_ld (q := 138) (i := 1) D299_137 rfl rfl rfl ?_
        refine im_iconst (q := 139) D299_138 ?_
        refine im_ld (q := 140) (i := 2) D299_139 rfl rfl rfl ?_
        refine im_callV (q := 143) (kd := 1) (y := 275) (n := 4) (ci := 12) (a := 6952) (vs := [.ref 6952, vI 4, vI p1, vI 1, vI p2]) (r := []) (L2 := [some (.ref 6952), some (vI 4), some (vI p1), some (vI 1), some (vI p2)]) D299_140 (im_cal cn_299 cl_12_652) (Or.inl rfl) rfl sf_6952 rfl rfl rfl rfl hd ⟨rfl, rfl, rfl, rfl, rfl, trivial⟩ ?_
        refine hP.mono ?_
        rintro _ e42 M41 ⟨rfl, rfl, hP⟩
        refine im_bkN ?_
        refine im_goto (q := 146) (t := 212) D299_143 rfl ?_
        exact im_vret (q := 213) D299_212 rfl hP
    refine im_lif (q := 69) (q2 := 72) (t := 77) D299_68 D299_69 rfl hr13 (by decide) (fun hc14 => ?_) (fun hc14 => ?_)
    · refine im_ld (q := 78) (i := 0) D299_77 rfl rfl rfl ?_
      refine im_gfL (q := 81) D299_78 (im_fl cn_299 fl_12_597) sf_6952 rfl rfl tL_12_18 rfl ?_
      refine im_ldc2 (q := 84) (n := 109300196926309) D299_81 rfl ?_
      refine im_lif (q := 85) (q2 := 88) (t := 93) D299_84 D299_85 rfl hr13 (by decide) (fun hc16 => ?_) (fun hc16 => ?_)
      · refine im_bipush (q := 95) D299_93 rfl ?_
        exact (kJ19 (10) (Or.inl ⟨hc14, hc16, rfl⟩)).wk ⟨rfl, rfl, rfl, trivial⟩
      · refine im_bipush (q := 90) D299_88 rfl ?_
        refine im_goto (q := 93) (t := 95) D299_90 rfl ?_
        exact (kJ19 (9) (Or.inr (Or.inl ⟨hc14, (Decidable.not_not.mp hc16), rfl⟩))).wk ⟨rfl, rfl, rfl, trivial⟩
    · refine im_bipush (q := 74) D299_72 rfl ?_
      refine im_goto (q := 77) (t := 95) D299_74 rfl ?_
      exact (kJ19 (8) (Or.inr (Or.inr ⟨(Decidable.not_not.mp hc14), rfl⟩))).wk ⟨rfl, rfl, rfl, trivial⟩
  have kJ48 : (((¬ (M 6952 15) = 2)) ∨ (((M 6952 15) = 2) ∧ (¬ (M 6952 18) = 28259031251642740) ∧ (¬ (M 6952 18) = 109300196926309) ∧ (¬ (M 6952 18) = 121424973489785))) → im_T g d 299 45 [some (.ref 6952), some (vI p1), some (vI p2), none] [] e M K := by
    intro  hx49
    have hP := hJ47  hx49
    refine im_iconst (q := 46) D299_45 ?_
    refine im_st1 (q := 47) (i := 3) (L' := [some (.ref 6952), some (vI p1), some (vI p2), some (vI 0)]) D299_46 (Or.inl ⟨_, rfl, rfl⟩) (Nat.le_of_ble_eq_true rfl) rfl ?_
    refine im_ld (q := 48) (i := 3) D299_47 rfl rfl rfl ?_
    refine im_ifc (q := 51) (t := 56) D299_48 rfl (by decide) (fun hc => absurd hc (show ¬ (¬ (0 : Int) = 0) by decide)) (fun _ => ?_)
    refine im_ld (q := 52) (i := 0) D299_51 rfl rfl rfl ?_
    refine im_callV (q := 55) (kd := 1) (y := 285) (n := 0) (ci := 12) (a := 6952) (vs := [.ref 6952]) (r := []) (L2 := [some (.ref 6952)]) D299_52 (im_cal cn_299 cl_12_639) (Or.inl rfl) rfl sf_6952 rfl rfl rfl rfl hd ⟨rfl, trivial⟩ ?_
    refine hP.mono ?_
    rintro _ e52 M51 ⟨rfl, rfl, hP⟩
    refine im_bkN ?_
    exact im_vret (q := 56) D299_55 rfl hP
  refine im_icmp (q := 8) (t := 45) D299_5 rfl hr1 (by decide) (fun hc2 => ?_) (fun hc2 => ?_)
  · exact (kJ48  (Or.inl hc2)).wk ⟨rfl, rfl, rfl, trivial⟩
  · refine im_ld (q := 9) (i := 0) D299_8 rfl rfl rfl ?_
    refine im_rng (j := 18) sf_6952 (by decide) (by decide) (fun hr3 => ?_)
    refine im_gfL (q := 12) D299_9 (im_fl cn_299 fl_12_597) sf_6952 rfl rfl tL_12_18 rfl ?_
    refine im_ldc2 (q := 15) (n := 28259031251642740) D299_12 rfl ?_
    refine im_lif (q := 16) (q2 := 19) (t := 41) D299_15 D299_16 rfl hr3 (by decide) (fun hc4 => ?_) (fun hc4 => ?_)
    · exact (kJ10  (Or.inl ⟨(Decidable.not_not.mp hc2), hc4⟩)).wk ⟨rfl, rfl, rfl, trivial⟩
    · refine im_ld (q := 20) (i := 0) D299_19 rfl rfl rfl ?_
      refine im_gfL (q := 23) D299_20 (im_fl cn_299 fl_12_597) sf_6952 rfl rfl tL_12_18 rfl ?_
      refine im_ldc2 (q := 26) (n := 109300196926309) D299_23 rfl ?_
      refine im_lif (q := 27) (q2 := 30) (t := 41) D299_26 D299_27 rfl hr3 (by decide) (fun hc6 => ?_) (fun hc6 => ?_)
      · exact (kJ10  (Or.inr (Or.inl ⟨(Decidable.not_not.mp hc2), hc4, hc6⟩))).wk ⟨rfl, rfl, rfl, trivial⟩
      · refine im_ld (q := 31) (i := 0) D299_30 rfl rfl rfl ?_
        refine im_gfL (q := 34) D299_31 (im_fl cn_299 fl_12_597) sf_6952 rfl rfl tL_12_18 rfl ?_
        refine im_ldc2 (q := 37) (n := 121424973489785) D299_34 rfl ?_
        refine im_lif (q := 38) (q2 := 41) (t := 45) D299_37 D299_38 rfl hr3 (by decide) (fun hc8 => ?_) (fun hc8 => ?_)
        · exact (kJ48  (Or.inr ⟨(Decidable.not_not.mp hc2), hc4, hc6, hc8⟩)).wk ⟨rfl, rfl, rfl, trivial⟩
        · exact (kJ10  (Or.inr (Or.inr ⟨(Decidable.not_not.mp hc2), hc4, hc6, (Decidable.not_not.mp hc8)⟩))).wk ⟨rfl, rfl, rfl, trivial⟩
set_option maxRecDepth 20000 in
set_option maxHeartbeats 4000000 in
theorem b_readBound_0 {g : im_g} {d : Nat} {e : im_E} {M : im_M} {K : im_K} {p1 p2 : Int} (hd : 1 ≤ d) (hP : (((((M 6952 15) = 8 → (im_i32 p2) ∧ ((0 < p2 → im_T g (d - 1) 282 0 [some (.ref 6952)] [] e M (im_r0 (fun  e_ M26 => e = e_ ∧ K (.inl none) e M26))))))) ∧ ((((¬ (M 6952 15) = 8)) ∨ (((M 6952 15) = 8) ∧ (p2 ≤ 0))) → (((M 6952 15) = 1 → (im_i32 p2) ∧ ((¬ p2 = 4 → im_T g (d - 1) 291 0 [some (.ref 6952), none, none, none, none] [] e M (im_ri (fun x14 e_ M13 => e = e_ ∧ (0 ≤ (M 6952 37) ∧ (M 6952 37) < 20400) ∧ (im_i32 x14) ∧ im_T g (d - 1) 282 0 [some (.ref 6952)] [] e (im_u M13 6973 (M 6952 37) x14) (im_r0 (fun  e_ M17 => e = e_ ∧ im_T g (d - 1) 275 0 [some (.ref 6952), some (vI 13), some (vI p1), some (vI p2), some (vI 0)] [] e M17 (im_r0 (fun  e_ M18 => e = e_ ∧ K (.inl none) e M18))))))) ∧ (p2 = 4 → im_T g (d - 1) 286 0 [some (.ref 6952), some (vI 8)] [] e M (im_r0 (fun  e_ M22 => e = e_ ∧ K (.inl none) e M22))))) ∧ (¬ (M 6952 15) = 1 → im_T g (d - 1) 285 0 [some (.ref 6952)] [] e M (im_r0 (fun  e_ M24 => e = e_ ∧ K (.inl none) e M24))))))) : im_T g d 300 0 [some (.ref 6952), some (vI p1), some (vI p2)] [] e M K := by
  refine im_ld (q := 1) (i := 0) D300_0 rfl rfl rfl ?_
  refine im_rng (j := 15) sf_6952 (by decide) (by decide) (fun hr1 => ?_)
  refine im_gfI (q := 4) D300_1 (im_fl cn_300 fl_12_591) sf_6952 rfl rfl tI_12_15 rfl ?_
  refine im_bipush (q := 6) D300_4 rfl ?_
  obtain ⟨hP, hJ5⟩ := hP
  have kJ6 : (((¬ (M 6952 15) = 8)) ∨ (((M 6952 15) = 8) ∧ (p2 ≤ 0))) → im_T g d 300 18 [some (.ref 6952), some (vI p1), some (vI p2)] [] e M K := by
    intro  hx7
    have hP := hJ5  hx7
    refine im_ld (q := 19) (i := 0) D300_18 rfl rfl rfl ?_
    refine im_gfI (q := 22) D300_19 (im_fl cn_300 fl_12_591) sf_6952 rfl rfl tI_12_15 rfl ?_
    refine im_iconst (q := 23) D300_22 ?_
    refine im_icmp (q := 26) (t := 31) D300_23 rfl hr1 (by decide) (fun hc9 => ?_) (fun hc9 => ?_)
    · replace hP := hP.1 hc9
      refine im_ld (q := 32) (i := 2) D300_31 rfl rfl rfl ?_
      refine im_iconst (q := 33) D300_32 ?_
      obtain ⟨hg10, hP⟩ := hP
      refine im_icmp (q := 36) (t := 43) D300_33 rfl hg10 (by decide) (fun hc11 => ?_) (fun hc11 => ?_)
      · replace hP := hP.1 hc11
        refine im_ld (q := 44) (i := 0) D300_43 rfl rfl rfl ?_
        refine im_gfR (q := 47) (b := 6973) D300_44 (im_fl cn_300 fl_12_73) sf_6952 rfl rfl tR_12_34 rf_6952_34 ?_
        refine im_ld (q := 48) (i := 0) D300_47 rfl rfl rfl ?_
        refine im_rng (j := 37) sf_6952 (by decide) (by decide) (fun hr12 => ?_)
        refine im_gfI (q := 51) D300_48 (im_fl cn_300 fl_12_665) sf_6952 rfl rfl tI_12_37 rfl ?_
        refine im_ld (q := 52) (i := 0) D300_51 rfl rfl rfl ?_
        refine im_callV (q := 55) (kd := 1) (y := 291) (n := 0) (ci := 12) (a := 6952) (vs := [.ref 6952]) (r := [vI (M 6952 37), .ref 6973]) (L2 := [some (.ref 6952), none, none, none, none]) D300_52 (im_cal cn_300 cl_12_659) (Or.inl rfl) rfl sf_6952 rfl rfl rfl rfl hd ⟨rfl, trivial⟩ ?_
        refine hP.mono ?_
        rintro _ e21 M13 ⟨x14, rfl, rfl, hP⟩
        refine im_bkS ?_
        obtain ⟨hg15, hP⟩ := hP
        obtain ⟨hg16, hP⟩ := hP
        refine im_iast (q := 56) D300_55 sf_6973 hg15.1 hg15.2 (by decide) hg16 ?_
        refine im_ld (q := 57) (i := 0) D300_56 rfl rfl rfl ?_
        refine im_callV (q := 60) (kd := 1) (y := 282) (n := 0) (ci := 12) (a := 6952) (vs := [.ref 6952]) (r := []) (L2 := [some (.ref 6952)]) D300_57 (im_cal cn_300 cl_12_649) (Or.inl rfl) rfl sf_6952 rfl rfl rfl rfl hd ⟨rfl, trivial⟩ ?_
        refine hP.mono ?_
        rintro _ e20 M17 ⟨rfl, rfl, hP⟩
        refine im_bkN ?_
        refine im_ld (q := 61) (i := 0) D300_60 rfl rfl rfl ?_
        refine im_bipush (q := 63) D300_61 rfl ?_
        refine im_ld (q := 64) (i := 1) D300_63 rfl rfl rfl ?_
        refine im_ld (q := 65) (i := 2) D300_64 rfl rfl rfl ?_
        refine im_iconst (q := 66) D300_65 ?_
        refine im_callV (q := 69) (kd := 1) (y := 275) (n := 4) (ci := 12) (a := 6952) (vs := [.ref 6952, vI 13, vI p1, vI p2, vI 0]) (r := []) (L2 := [some (.ref 6952), some (vI 13), some (vI p1), some (vI p2), some (vI 0)]) D300_66 (im_cal cn_300 cl_12_652) (Or.inl rfl) rfl sf_6952 rfl rfl rfl rfl hd ⟨rfl, rfl, rfl, rfl, rfl, trivial⟩ ?_
        refine hP.mono ?_
        rintro _ e19 M18 ⟨rfl, rfl, hP⟩
        refine im_bkN ?_
        exact im_vret (q := 70) D300_69 rfl hP
      · replace hP := hP.2 (Decidable.not_not.mp hc11)
        refine im_ld (q := 37) (i := 0) D300_36 rfl rfl rfl ?_
        refine im_bipush (q := 39) D300_37 rfl ?_
        refine im_callV (q := 42) (kd := 1) (y := 286) (n := 1) (ci := 12) (a := 6952) (vs := [.ref 6952, vI 8]) (r := []) (L2 := [some (.ref 6952), some (vI 8)]) D300_39 (im_cal cn_300 cl_12_614) (Or.inl rfl) rfl sf_6952 rfl rfl rfl rfl hd ⟨rfl, rfl, trivial⟩ ?_
        refine hP.mono ?_
        rintro _ e23 M22 ⟨rfl, rfl, hP⟩
        refine im_bkN ?_
        exact im_vret (q := 43) D300_42 rfl hP
    · replace hP := hP.2 hc9
      refine im_ld (q := 27) (i := 0) D300_26 rfl rfl rfl ?_
      refine im_callV (q := 30) (kd := 1) (y := 285) (n := 0) (ci := 12) (a := 6952) (vs := [.ref 6952]) (r := []) (L2 := [some (.ref 6952)]) D300_27 (im_cal cn_300 cl_12_639) (Or.inl rfl) rfl sf_6952 rfl rfl rfl rfl hd ⟨rfl, trivial⟩ ?_
      refine hP.mono ?_
      rintro _ e25 M24 ⟨rfl, rfl, hP⟩
      refine im_bkN ?_
      exact im_vret (q := 31) D300_30 rfl hP
  refine im_icmp (q := 9) (t := 18) D300_6 rfl hr1 (by decide) (fun hc2 => ?_) (fun hc2 => ?_)
  · exact (kJ6  (Or.inl hc2)).wk ⟨rfl, rfl, rfl, trivial⟩
  · replace hP := hP (Decidable.not_not.mp hc2)
    refine im_ld (q := 10) (i := 2) D300_9 rfl rfl rfl ?_
    obtain ⟨hg3, hP⟩ := hP
    refine im_ifc (q := 13) (t := 18) D300_10 rfl hg3 (fun hc4 => ?_) (fun hc4 => ?_)
    · exact (kJ6  (Or.inr ⟨(Decidable.not_not.mp hc2), hc4⟩)).wk ⟨rfl, rfl, rfl, trivial⟩
    · replace hP := hP (Int.not_le.mp hc4)
      refine im_ld (q := 14) (i := 0) D300_13 rfl rfl rfl ?_
      refine im_callV (q := 17) (kd := 1) (y := 282) (n := 0) (ci := 12) (a := 6952) (vs := [.ref 6952]) (r := []) (L2 := [some (.ref 6952)]) D300_14 (im_cal cn_300 cl_12_649) (Or.inl rfl) rfl sf_6952 rfl rfl rfl rfl hd ⟨rfl, trivial⟩ ?_
      refine hP.mono ?_
      rintro _ e27 M26 ⟨rfl, rfl, hP⟩
      refine im_bkN ?_
      exact im_vret (q := 18) D300_17 rfl hP
set_option maxRecDepth 20000 in
set_option maxHeartbeats 4000000 in
theorem b_readSecond_0 {g : im_g} {d : Nat} {e : im_E} {M : im_M} {K : im_K} {p1 p2 : Int} (hd : 1 ≤ d) (hP : (((M 6952 15) = 1 → im_T g (d - 1) 291 0 [some (.ref 6952), none, none, none, none] [] e M (im_ri (fun x5 e_ M4 => e = e_ ∧ (0 ≤ (M 6952 37) ∧ (M 6952 37) < 20400) ∧ (im_i32 x5) ∧ (0 ≤ (M4 6952 37) ∧ (M4 6952 37) < 20400) ∧ im_T g (d - 1) 302 0 [some (.ref 6952), some (vI ((im_u M4 6974 (M 6952 37) x5) 6974 (M4 6952 37))), some (vI (M4 6973 (M4 6952 37)))] [] e (im_u M4 6974 (M 6952 37) x5) (im_ri (fun x14 e_ M13 => e = e_ ∧ (im_i32 x14) ∧ ((0 ≤ x14 → (im_i32 ((M13 6952 37) + 1)) ∧ (0 ≤ p1 ∧ p1 < 5100) ∧ (im_i32 (p2 + 1)) ∧ im_T g (d - 1) 282 0 [some (.ref 6952)] [] e (im_u (im_u M13 6952 37 ((M13 6952 37) + 1)) 6972 p1 (p2 + 1)) (im_r0 (fun  e_ M21 => e = e_ ∧ im_T g (d - 1) 275 0 [some (.ref 6952), some (vI 12), some (vI p1), some (vI (p2 + 1)), some (vI 0)] [] e M21 (im_r0 (fun  e_ M22 => e = e_ ∧ K (.inl none) e M22))))) ∧ (x14 < 0 → im_T g (d - 1) 286 0 [some (.ref 6952), some (vI 6)] [] e M13 (im_r0 (fun  e_ M25 => e = e_ ∧ K (.inl none) e M25))))))))) ∧ (¬ (M 6952 15) = 1 → im_T g (d - 1) 285 0 [some (.ref 6952)] [] e M (im_r0 (fun  e_ M29 => e = e_ ∧ K (.inl none) e M29))))) : im_T g d 301 0 [some (.ref 6952), some (vI p1), some (vI p2)] [] e M K := by
  refine im_ld (q := 1) (i := 0) D301_0 rfl rfl rfl ?_
  refine im_rng (j := 15) sf_6952 (by decide) (by decide) (fun hr1 => ?_)
  refine im_gfI (q := 4) D301_1 (im_fl cn_301 fl_12_591) sf_6952 rfl rfl tI_12_15 rfl ?_
  refine im_iconst (q := 5) D301_4 ?_
  refine im_icmp (q := 8) (t := 13) D301_5 rfl hr1 (by decide) (fun hc2 => ?_) (fun hc2 => ?_)
  · replace hP := hP.1 hc2
    refine im_ld (q := 14) (i := 0) D301_13 rfl rfl rfl ?_
    refine im_gfR (q := 17) (b := 6974) D301_14 (im_fl cn_301 fl_12_76) sf_6952 rfl rfl tR_12_35 rf_6952_35 ?_
    refine im_ld (q := 18) (i := 0) D301_17 rfl rfl rfl ?_
    refine im_rng (j := 37) sf_6952 (by decide) (by decide) (fun hr3 => ?_)
    refine im_gfI (q := 21) D301_18 (im_fl cn_301 fl_12_665) sf_6952 rfl rfl tI_12_37 rfl ?_
    refine im_ld (q := 22) (i := 0) D301_21 rfl rfl rfl ?_
    refine im_callV (q := 25) (kd := 1) (y := 291) (n := 0) (ci := 12) (a := 6952) (vs := [.ref 6952]) (r := [vI (M 6952 37), .ref 6974]) (L2 := [some (.ref 6952), none, none, none, none]) D301_22 (im_cal cn_301 cl_12_659) (Or.inl rfl) rfl sf_6952 rfl rfl rfl rfl hd ⟨rfl, trivial⟩ ?_
    refine hP.mono ?_
    rintro _ e28 M4 ⟨x5, rfl, rfl, hP⟩
    refine im_bkS ?_
    obtain ⟨hg6, hP⟩ := hP
    obtain ⟨hg7, hP⟩ := hP
    refine im_iast (q := 26) D301_25 sf_6974 hg6.1 hg6.2 (by decide) hg7 ?_
    refine im_ld (q := 27) (i := 0) D301_26 rfl rfl rfl ?_
    refine im_ld (q := 28) (i := 0) D301_27 rfl rfl rfl ?_
    refine im_gfR (q := 31) (b := 6974) D301_28 (im_fl cn_301 fl_12_76) sf_6952 rfl rfl tR_12_35 rf_6952_35 ?_
    refine im_ld (q := 32) (i := 0) D301_31 rfl rfl rfl ?_
    refine im_rng (j := 37) sf_6952 (by decide) (by decide) (fun hr8 => ?_)
    refine im_gfI (q := 35) D301_32 (im_fl cn_301 fl_12_665) sf_6952 rfl rfl tI_12_37 (im_rdn _ _ _ _ (by decide)) ?_
    obtain ⟨hg9, hP⟩ := hP
    refine im_rng (j := (M4 6952 37)) sf_6974 hg9.1 hg9.2 (fun hr10 => ?_)
    refine im_iald (q := 36) D301_35 sf_6974 hg9.1 hg9.2 (by decide) rfl ?_
    refine im_ld (q := 37) (i := 0) D301_36 rfl rfl rfl ?_
    refine im_gfR (q := 40) (b := 6973) D301_37 (im_fl cn_301 fl_12_73) sf_6952 rfl rfl tR_12_34 rf_6952_34 ?_
    refine im_ld (q := 41) (i := 0) D301_40 rfl rfl rfl ?_
    refine im_gfI (q := 44) D301_41 (im_fl cn_301 fl_12_665) sf_6952 rfl rfl tI_12_37 (im_rdn _ _ _ _ (by decide)) ?_
    refine im_rng (j := (M4 6952 37)) sf_6973 hg9.1 hg9.2 (fun hr12 => ?_)
    refine im_iald (q := 45) D301_44 sf_6973 hg9.1 hg9.2 (by decide) (im_rdn _ _ _ _ (by decide)) ?_
    refine im_callV (q := 48) (kd := 1) (y := 302) (n := 2) (ci := 12) (a := 6952) (vs := [.ref 6952, vI ((im_u M4 6974 (M 6952 37) x5) 6974 (M4 6952 37)), vI (M4 6973 (M4 6952 37))]) (r := []) (L2 := [some (.ref 6952), some (vI ((im_u M4 6974 (M 6952 37) x5) 6974 (M4 6952 37))), some (vI (M4 6973 (M4 6952 37)))]) D301_45 (im_cal cn_301 cl_12_674) (Or.inl rfl) rfl sf_6952 rfl rfl rfl rfl hd ⟨rfl, rfl, rfl, trivial⟩ ?_
    refine hP.mono ?_
    rintro _ e27 M13 ⟨x14, rfl, rfl, hP⟩
    refine im_bkS ?_
    obtain ⟨hg15, hP⟩ := hP
    refine im_ifc (q := 51) (t := 58) D301_48 rfl hg15 (fun hc16 => ?_) (fun hc16 => ?_)
    · replace hP := hP.1 hc16
      refine im_ld (q := 59) (i := 0) D301_58 rfl rfl rfl ?_
      refine im_dup (q := 60) D301_59 rfl ?_
      refine im_rng (j := 37) sf_6952 (by decide) (by decide) (fun hr17 => ?_)
      refine im_gfI (q := 63) D301_60 (im_fl cn_301 fl_12_665) sf_6952 rfl rfl tI_12_37 rfl ?_
      refine im_iconst (q := 64) D301_63 ?_
      refine im_iadd (q := 65) D301_64 ?_
      obtain ⟨hg18, hP⟩ := hP
      refine im_pfI (q := 68) D301_65 (im_fl cn_301 fl_12_665) sf_6952 rfl rfl ti_12_37 hg18 ?_
      refine im_ld (q := 69) (i := 0) D301_68 rfl rfl rfl ?_
      refine im_gfR (q := 72) (b := 6972) D301_69 (im_fl cn_301 fl_12_70) sf_6952 rfl rfl tR_12_33 rf_6952_33 ?_
      refine im_ld (q := 73) (i := 1) D301_72 rfl rfl rfl ?_
      refine im_ld (q := 74) (i := 2) D301_73 rfl rfl rfl ?_
      refine im_iconst (q := 75) D301_74 ?_
      refine im_iadd (q := 76) D301_75 ?_
      obtain ⟨hg19, hP⟩ := hP
      obtain ⟨hg20, hP⟩ := hP
      refine im_iast (q := 77) D301_76 sf_6972 hg19.1 hg19.2 (by decide) hg20 ?_
      refine im_ld (q := 78) (i := 0) D301_77 rfl rfl rfl ?_
      refine im_callV (q := 81) (kd := 1) (y := 282) (n := 0) (ci := 12) (a := 6952) (vs := [.ref 6952]) (r := []) (L2 := [some (.ref 6952)]) D301_78 (im_cal cn_301 cl_12_649) (Or.inl rfl) rfl sf_6952 rfl rfl rfl rfl hd ⟨rfl, trivial⟩ ?_
      refine hP.mono ?_
      rintro _ e24 M21 ⟨rfl, rfl, hP⟩
      refine im_bkN ?_
      refine im_ld (q := 82) (i := 0) D301_81 rfl rfl rfl ?_
      refine im_bipush (q := 84) D301_82 rfl ?_
      refine im_ld (q := 85) (i := 1) D301_84 rfl rfl rfl ?_
      refine im_ld (q := 86) (i := 2) D301_85 rfl rfl rfl ?_
      refine im_iconst (q := 87) D301_86 ?_
      refine im_iadd (q := 88) D301_87 ?_
      refine im_iconst (q := 89) D301_88 ?_
      refine im_callV (q := 92) (kd := 1) (y := 275) (n := 4) (ci := 12) (a := 6952) (vs := [.ref 6952, vI 12, vI p1, vI (p2 + 1), vI 0]) (r := []) (L2 := [some (.ref 6952), some (vI 12), some (vI p1), some (vI (p2 + 1)), some (vI 0)]) D301_89 (im_cal cn_301 cl_12_652) (Or.inl rfl) rfl sf_6952 rfl rfl rfl rfl hd ⟨rfl, rfl, rfl, rfl, rfl, trivial⟩ ?_
      refine hP.mono ?_
      rintro _ e23 M22 ⟨rfl, rfl, hP⟩
      refine im_bkN ?_
      exact im_vret (q := 93) D301_92 rfl hP
    · replace hP := hP.2 (Int.not_le.mp hc16)
      refine im_ld (q := 52) (i := 0) D301_51 rfl rfl rfl ?_
      refine im_bipush (q := 54) D301_52 rfl ?_
      refine im_callV (q := 57) (kd := 1) (y := 286) (n := 1) (ci := 12) (a := 6952) (vs := [.ref 6952, vI 6]) (r := []) (L2 := [some (.ref 6952), some (vI 6)]) D301_54 (im_cal cn_301 cl_12_614) (Or.inl rfl) rfl sf_6952 rfl rfl rfl rfl hd ⟨rfl, rfl, trivial⟩ ?_
      refine hP.mono ?_
      rintro _ e26 M25 ⟨rfl, rfl, hP⟩
      refine im_bkN ?_
      exact im_vret (q := 58) D301_57 rfl hP
  · replace hP := hP.2 hc2
    refine im_ld (q := 9) (i := 0) D301_8 rfl rfl rfl ?_
    refine im_callV (q := 12) (kd := 1) (y := 285) (n := 0) (ci := 12) (a := 6952) (vs := [.ref 6952]) (r := []) (L2 := [some (.ref 6952)]) D301_9 (im_cal cn_301 cl_12_639) (Or.inl rfl) rfl sf_6952 rfl rfl rfl rfl hd ⟨rfl, trivial⟩ ?_
    refine hP.mono ?_
    rintro _ e30 M29 ⟨rfl, rfl, hP⟩
    refine im_bkN ?_
    exact im_vret (q := 13) D301_12 rfl hP

/-! blocks of the class -/
theorem D54_0 {g : im_g} : im_D g 54 0 (.aload_n 0) 1 := im_D.of (by decide +kernel)
theorem D54_1 {g : im_g} : im_D g 54 1 (.iload_n 1) 2 := im_D.of (by decide +kernel)
theorem D54_2 {g : im_g} : im_D g 54 2 (.invokevirtual 159) 5 := im_D.of (by decide +kernel)
theorem D54_5 {g : im_g} : im_D g 54 5 (.bipush 100) 7 := im_D.of (by decide +kernel)
theorem D54_7 {g : im_g} : im_D g 54 7 (.if_icmp .gt 36) 10 := im_D.of (by decide +kernel)
theorem D54_10 {g : im_g} : im_D g 54 10 (.aload_n 0) 11 := im_D.of (by decide +kernel)
theorem D54_11 {g : im_g} : im_D g 54 11 (.getfield 39) 14 := im_D.of (by decide +kernel)
theorem D54_14 {g : im_g} : im_D g 54 14 (.sipush 1000) 17 := im_D.of (by decide +kernel)
theorem D54_17 {g : im_g} : im_D g 54 17 (.if_icmp .ge 26) 20 := im_D.of (by decide +kernel)
theorem D54_20 {g : im_g} : im_D g 54 20 (.aload_n 0) 21 := im_D.of (by decide +kernel)
theorem D54_21 {g : im_g} : im_D g 54 21 (.getfield 25) 24 := im_D.of (by decide +kernel)
theorem D54_24 {g : im_g} : im_D g 54 24 (.getfield 70) 27 := im_D.of (by decide +kernel)
theorem D54_27 {g : im_g} : im_D g 54 27 (.aload_n 0) 28 := im_D.of (by decide +kernel)
theorem D54_28 {g : im_g} : im_D g 54 28 (.getfield 39) 31 := im_D.of (by decide +kernel)
theorem D54_31 {g : im_g} : im_D g 54 31 (.iadd) 32 := im_D.of (by decide +kernel)
theorem D54_32 {g : im_g} : im_D g 54 32 (.aload_n 0) 33 := im_D.of (by decide +kernel)
theorem D54_33 {g : im_g} : im_D g 54 33 (.getfield 25) 36 := im_D.of (by decide +kernel)
theorem D54_36 {g : im_g} : im_D g 54 36 (.getfield 78) 39 := im_D.of (by decide +kernel)
theorem D54_39 {g : im_g} : im_D g 54 39 (.arraylength) 40 := im_D.of (by decide +kernel)
theorem D54_40 {g : im_g} : im_D g 54 40 (.if_icmp .lt 7) 43 := im_D.of (by decide +kernel)
theorem D54_43 {g : im_g} : im_D g 54 43 (.iconst 1) 44 := im_D.of (by decide +kernel)
theorem D54_44 {g : im_g} : im_D g 54 44 (.goto 4) 47 := im_D.of (by decide +kernel)
theorem D54_47 {g : im_g} : im_D g 54 47 (.iconst 0) 48 := im_D.of (by decide +kernel)
theorem D54_48 {g : im_g} : im_D g 54 48 (.ireturn) 49 := im_D.of (by decide +kernel)
theorem D55_0 {g : im_g} : im_D g 55 0 (.iload_n 1) 1 := im_D.of (by decide +kernel)
theorem D55_1 {g : im_g} : im_D g 55 1 (.iconst (-1)) 2 := im_D.of (by decide +kernel)
theorem D55_2 {g : im_g} : im_D g 55 2 (.if_icmp .ne 7) 5 := im_D.of (by decide +kernel)
theorem D55_5 {g : im_g} : im_D g 55 5 (.iconst 0) 6 := im_D.of (by decide +kernel)
theorem D55_6 {g : im_g} : im_D g 55 6 (.goto 14) 9 := im_D.of (by decide +kernel)
theorem D55_9 {g : im_g} : im_D g 55 9 (.aload_n 0) 10 := im_D.of (by decide +kernel)
theorem D55_10 {g : im_g} : im_D g 55 10 (.getfield 25) 13 := im_D.of (by decide +kernel)
theorem D55_13 {g : im_g} : im_D g 55 13 (.getfield 156) 16 := im_D.of (by decide +kernel)
theorem D55_16 {g : im_g} : im_D g 55 16 (.iload_n 1) 17 := im_D.of (by decide +kernel)
theorem D55_17 {g : im_g} : im_D g 55 17 (.iaload) 18 := im_D.of (by decide +kernel)
theorem D55_18 {g : im_g} : im_D g 55 18 (.iconst 1) 19 := im_D.of (by decide +kernel)
theorem D55_19 {g : im_g} : im_D g 55 19 (.iadd) 20 := im_D.of (by decide +kernel)
theorem D55_20 {g : im_g} : im_D g 55 20 (.ireturn) 21 := im_D.of (by decide +kernel)
theorem D56_0 {g : im_g} : im_D g 56 0 (.aload_n 0) 1 := im_D.of (by decide +kernel)
theorem D56_1 {g : im_g} : im_D g 56 1 (.getfield 25) 4 := im_D.of (by decide +kernel)
theorem D56_4 {g : im_g} : im_D g 56 4 (.getfield 70) 7 := im_D.of (by decide +kernel)
theorem D56_7 {g : im_g} : im_D g 56 7 (.aload_n 0) 8 := im_D.of (by decide +kernel)
theorem D56_8 {g : im_g} : im_D g 56 8 (.getfield 39) 11 := im_D.of (by decide +kernel)
theorem D56_11 {g : im_g} : im_D g 56 11 (.iadd) 12 := im_D.of (by decide +kernel)
theorem D56_12 {g : im_g} : im_D g 56 12 (.istore_n 3) 13 := im_D.of (by decide +kernel)
theorem D56_13 {g : im_g} : im_D g 56 13 (.aload_n 0) 14 := im_D.of (by decide +kernel)
theorem D56_14 {g : im_g} : im_D g 56 14 (.dup) 15 := im_D.of (by decide +kernel)
theorem D56_15 {g : im_g} : im_D g 56 15 (.getfield 39) 18 := im_D.of (by decide +kernel)
theorem D56_18 {g : im_g} : im_D g 56 18 (.iconst 1) 19 := im_D.of (by decide +kernel)
theorem D56_19 {g : im_g} : im_D g 56 19 (.iadd) 20 := im_D.of (by decide +kernel)
theorem D56_20 {g : im_g} : im_D g 56 20 (.putfield 39) 23 := im_D.of (by decide +kernel)
theorem D56_23 {g : im_g} : im_D g 56 23 (.aload_n 0) 24 := im_D.of (by decide +kernel)
theorem D56_24 {g : im_g} : im_D g 56 24 (.getfield 25) 27 := im_D.of (by decide +kernel)
theorem D56_27 {g : im_g} : im_D g 56 27 (.getfield 78) 30 := im_D.of (by decide +kernel)
theorem D56_30 {g : im_g} : im_D g 56 30 (.iload_n 3) 31 := im_D.of (by decide +kernel)
theorem D56_31 {g : im_g} : im_D g 56 31 (.iload_n 1) 32 := im_D.of (by decide +kernel)
theorem D56_32 {g : im_g} : im_D g 56 32 (.iastore) 33 := im_D.of (by decide +kernel)
theorem D56_33 {g : im_g} : im_D g 56 33 (.aload_n 0) 34 := im_D.of (by decide +kernel)
theorem D56_34 {g : im_g} : im_D g 56 34 (.getfield 25) 37 := im_D.of (by decide +kernel)
theorem D56_37 {g : im_g} : im_D g 56 37 (.getfield 156) 40 := im_D.of (by decide +kernel)
theorem D56_40 {g : im_g} : im_D g 56 40 (.iload_n 3) 41 := im_D.of (by decide +kernel)
theorem D56_41 {g : im_g} : im_D g 56 41 (.aload_n 0) 42 := im_D.of (by decide +kernel)
theorem D56_42 {g : im_g} : im_D g 56 42 (.iload_n 2) 43 := im_D.of (by decide +kernel)
theorem D56_43 {g : im_g} : im_D g 56 43 (.invokevirtual 159) 46 := im_D.of (by decide +kernel)
theorem D56_46 {g : im_g} : im_D g 56 46 (.iastore) 47 := im_D.of (by decide +kernel)
theorem D56_47 {g : im_g} : im_D g 56 47 (.aload_n 0) 48 := im_D.of (by decide +kernel)
theorem D56_48 {g : im_g} : im_D g 56 48 (.getfield 25) 51 := im_D.of (by decide +kernel)
theorem D56_51 {g : im_g} : im_D g 56 51 (.getfield 162) 54 := im_D.of (by decide +kernel)
theorem D56_54 {g : im_g} : im_D g 56 54 (.iload_n 3) 55 := im_D.of (by decide +kernel)
theorem D56_55 {g : im_g} : im_D g 56 55 (.iload_n 2) 56 := im_D.of (by decide +kernel)
theorem D56_56 {g : im_g} : im_D g 56 56 (.iconst (-1)) 57 := im_D.of (by decide +kernel)
theorem D56_57 {g : im_g} : im_D g 56 57 (.if_icmp .ne 7) 60 := im_D.of (by decide +kernel)
theorem D56_60 {g : im_g} : im_D g 56 60 (.iconst 0) 61 := im_D.of (by decide +kernel)
theorem D56_61 {g : im_g} : im_D g 56 61 (.goto 12) 64 := im_D.of (by decide +kernel)
theorem D56_64 {g : im_g} : im_D g 56 64 (.aload_n 0) 65 := im_D.of (by decide +kernel)
theorem D56_65 {g : im_g} : im_D g 56 65 (.getfield 25) 68 := im_D.of (by decide +kernel)
theorem D56_68 {g : im_g} : im_D g 56 68 (.getfield 162) 71 := im_D.of (by decide +kernel)
theorem D56_71 {g : im_g} : im_D g 56 71 (.iload_n 2) 72 := im_D.of (by decide +kernel)
theorem D56_72 {g : im_g} : im_D g 56 72 (.iaload) 73 := im_D.of (by decide +kernel)
theorem D56_73 {g : im_g} : im_D g 56 73 (.iload_n 1) 74 := im_D.of (by decide +kernel)
theorem D56_74 {g : im_g} : im_D g 56 74 (.iconst 3) 75 := im_D.of (by decide +kernel)
theorem D56_75 {g : im_g} : im_D g 56 75 (.if_icmp .ne 7) 78 := im_D.of (by decide +kernel)
theorem D56_78 {g : im_g} : im_D g 56 78 (.iconst 1) 79 := im_D.of (by decide +kernel)
theorem D56_79 {g : im_g} : im_D g 56 79 (.goto 4) 82 := im_D.of (by decide +kernel)
theorem D56_82 {g : im_g} : im_D g 56 82 (.iconst 0) 83 := im_D.of (by decide +kernel)
theorem D56_83 {g : im_g} : im_D g 56 83 (.iadd) 84 := im_D.of (by decide +kernel)
theorem D56_84 {g : im_g} : im_D g 56 84 (.iastore) 85 := im_D.of (by decide +kernel)
theorem D56_85 {g : im_g} : im_D g 56 85 (.aload_n 0) 86 := im_D.of (by decide +kernel)
theorem D56_86 {g : im_g} : im_D g 56 86 (.getfield 25) 89 := im_D.of (by decide +kernel)
theorem D56_89 {g : im_g} : im_D g 56 89 (.getfield 138) 92 := im_D.of (by decide +kernel)
theorem D56_92 {g : im_g} : im_D g 56 92 (.iload_n 3) 93 := im_D.of (by decide +kernel)
theorem D56_93 {g : im_g} : im_D g 56 93 (.iconst 0) 94 := im_D.of (by decide +kernel)
theorem D56_94 {g : im_g} : im_D g 56 94 (.iastore) 95 := im_D.of (by decide +kernel)
theorem D56_95 {g : im_g} : im_D g 56 95 (.aload_n 0) 96 := im_D.of (by decide +kernel)
theorem D56_96 {g : im_g} : im_D g 56 96 (.getfield 25) 99 := im_D.of (by decide +kernel)
theorem D56_99 {g : im_g} : im_D g 56 99 (.getfield 144) 102 := im_D.of (by decide +kernel)
theorem D56_102 {g : im_g} : im_D g 56 102 (.iload_n 3) 103 := im_D.of (by decide +kernel)
theorem D56_103 {g : im_g} : im_D g 56 103 (.lconst 0) 104 := im_D.of (by decide +kernel)
theorem D56_104 {g : im_g} : im_D g 56 104 (.lastore) 105 := im_D.of (by decide +kernel)
theorem D56_105 {g : im_g} : im_D g 56 105 (.aload_n 0) 106 := im_D.of (by decide +kernel)
theorem D56_106 {g : im_g} : im_D g 56 106 (.getfield 25) 109 := im_D.of (by decide +kernel)
theorem D56_109 {g : im_g} : im_D g 56 109 (.getfield 165) 112 := im_D.of (by decide +kernel)
theorem D56_112 {g : im_g} : im_D g 56 112 (.iload_n 3) 113 := im_D.of (by decide +kernel)
theorem D56_113 {g : im_g} : im_D g 56 113 (.lconst 0) 114 := im_D.of (by decide +kernel)
theorem D56_114 {g : im_g} : im_D g 56 114 (.lastore) 115 := im_D.of (by decide +kernel)
theorem D56_115 {g : im_g} : im_D g 56 115 (.aload_n 0) 116 := im_D.of (by decide +kernel)
theorem D56_116 {g : im_g} : im_D g 56 116 (.getfield 25) 119 := im_D.of (by decide +kernel)
theorem D56_119 {g : im_g} : im_D g 56 119 (.getfield 168) 122 := im_D.of (by decide +kernel)
theorem D56_122 {g : im_g} : im_D g 56 122 (.iload_n 3) 123 := im_D.of (by decide +kernel)
theorem D56_123 {g : im_g} : im_D g 56 123 (.lconst 0) 124 := im_D.of (by decide +kernel)
theorem D56_124 {g : im_g} : im_D g 56 124 (.lastore) 125 := im_D.of (by decide +kernel)
theorem D56_125 {g : im_g} : im_D g 56 125 (.iload_n 3) 126 := im_D.of (by decide +kernel)
theorem D56_126 {g : im_g} : im_D g 56 126 (.ireturn) 127 := im_D.of (by decide +kernel)
theorem D57_0 {g : im_g} : im_D g 57 0 (.aload_n 0) 1 := im_D.of (by decide +kernel)
theorem D57_1 {g : im_g} : im_D g 57 1 (.dup) 2 := im_D.of (by decide +kernel)
theorem D57_2 {g : im_g} : im_D g 57 2 (.getfield 43) 5 := im_D.of (by decide +kernel)
theorem D57_5 {g : im_g} : im_D g 57 5 (.aload_n 0) 6 := im_D.of (by decide +kernel)
theorem D57_6 {g : im_g} : im_D g 57 6 (.getfield 25) 9 := im_D.of (by decide +kernel)
theorem D57_9 {g : im_g} : im_D g 57 9 (.aload_n 0) 10 := im_D.of (by decide +kernel)
theorem D57_10 {g : im_g} : im_D g 57 10 (.getfield 25) 13 := im_D.of (by decide +kernel)
theorem D57_13 {g : im_g} : im_D g 57 13 (.getfield 75) 16 := im_D.of (by decide +kernel)
theorem D57_16 {g : im_g} : im_D g 57 16 (.aload_n 0) 17 := im_D.of (by decide +kernel)
theorem D57_17 {g : im_g} : im_D g 57 17 (.getfield 43) 20 := im_D.of (by decide +kernel)
theorem D57_20 {g : im_g} : im_D g 57 20 (.iadd) 21 := im_D.of (by decide +kernel)
theorem D57_21 {g : im_g} : im_D g 57 21 (.aload_n 0) 22 := im_D.of (by decide +kernel)
theorem D57_22 {g : im_g} : im_D g 57 22 (.getfield 29) 25 := im_D.of (by decide +kernel)
theorem D57_25 {g : im_g} : im_D g 57 25 (.getfield 171) 28 := im_D.of (by decide +kernel)
theorem D57_28 {g : im_g} : im_D g 57 28 (.invokevirtual 174) 31 := im_D.of (by decide +kernel)
theorem D57_31 {g : im_g} : im_D g 57 31 (.iadd) 32 := im_D.of (by decide +kernel)
theorem D57_32 {g : im_g} : im_D g 57 32 (.putfield 43) 35 := im_D.of (by decide +kernel)
theorem D57_35 {g : im_g} : im_D g 57 35 (.return_) 36 := im_D.of (by decide +kernel)
theorem D58_0 {g : im_g} : im_D g 58 0 (.iload_n 1) 1 := im_D.of (by decide +kernel)
theorem D58_1 {g : im_g} : im_D g 58 1 (.ifCond .lt 17) 4 := im_D.of (by decide +kernel)
theorem D58_4 {g : im_g} : im_D g 58 4 (.iload_n 1) 5 := im_D.of (by decide +kernel)
theorem D58_5 {g : im_g} : im_D g 58 5 (.aload_n 2) 6 := im_D.of (by decide +kernel)
theorem D58_6 {g : im_g} : im_D g 58 6 (.getfield 48) 9 := im_D.of (by decide +kernel)
theorem D58_9 {g : im_g} : im_D g 58 9 (.iadd) 10 := im_D.of (by decide +kernel)
theorem D58_10 {g : im_g} : im_D g 58 10 (.aload_n 0) 11 := im_D.of (by decide +kernel)
theorem D58_11 {g : im_g} : im_D g 58 11 (.getfield 38) 14 := im_D.of (by decide +kernel)
theorem D58_14 {g : im_g} : im_D g 58 14 (.arraylength) 15 := im_D.of (by decide +kernel)
theorem D58_15 {g : im_g} : im_D g 58 15 (.if_icmp .lt 5) 18 := im_D.of (by decide +kernel)
theorem D58_18 {g : im_g} : im_D g 58 18 (.iconst 0) 19 := im_D.of (by decide +kernel)
theorem D58_19 {g : im_g} : im_D g 58 19 (.ireturn) 20 := im_D.of (by decide +kernel)
theorem D58_20 {g : im_g} : im_D g 58 20 (.aload_n 0) 21 := im_D.of (by decide +kernel)
theorem D58_21 {g : im_g} : im_D g 58 21 (.getfield 38) 24 := im_D.of (by decide +kernel)
theorem D58_24 {g : im_g} : im_D g 58 24 (.iload_n 1) 25 := im_D.of (by decide +kernel)
theorem D58_25 {g : im_g} : im_D g 58 25 (.aload_n 2) 26 := im_D.of (by decide +kernel)
theorem D58_26 {g : im_g} : im_D g 58 26 (.getfield 53) 29 := im_D.of (by decide +kernel)
theorem D58_29 {g : im_g} : im_D g 58 29 (.aload_n 2) 30 := im_D.of (by decide +kernel)
theorem D58_30 {g : im_g} : im_D g 58 30 (.getfield 48) 33 := im_D.of (by decide +kernel)
theorem D58_33 {g : im_g} : im_D g 58 33 (.imul) 34 := im_D.of (by decide +kernel)
theorem D58_34 {g : im_g} : im_D g 58 34 (.iastore) 35 := im_D.of (by decide +kernel)
theorem D58_35 {g : im_g} : im_D g 58 35 (.iconst 0) 36 := im_D.of (by decide +kernel)
theorem D58_36 {g : im_g} : im_D g 58 36 (.istore_n 3) 37 := im_D.of (by decide +kernel)
theorem D58_37 {g : im_g} : im_D g 58 37 (.iload_n 3) 38 := im_D.of (by decide +kernel)
theorem D58_38 {g : im_g} : im_D g 58 38 (.aload_n 2) 39 := im_D.of (by decide +kernel)
theorem D58_39 {g : im_g} : im_D g 58 39 (.getfield 48) 42 := im_D.of (by decide +kernel)
theorem D58_42 {g : im_g} : im_D g 58 42 (.if_icmp .ge 25) 45 := im_D.of (by decide +kernel)
theorem D58_45 {g : im_g} : im_D g 58 45 (.aload_n 0) 46 := im_D.of (by decide +kernel)
theorem D58_46 {g : im_g} : im_D g 58 46 (.getfield 38) 49 := im_D.of (by decide +kernel)
theorem D58_49 {g : im_g} : im_D g 58 49 (.iload_n 1) 50 := im_D.of (by decide +kernel)
theorem D58_50 {g : im_g} : im_D g 58 50 (.iconst 1) 51 := im_D.of (by decide +kernel)
theorem D58_51 {g : im_g} : im_D g 58 51 (.iadd) 52 := im_D.of (by decide +kernel)
theorem D58_52 {g : im_g} : im_D g 58 52 (.iload_n 3) 53 := im_D.of (by decide +kernel)
theorem D58_53 {g : im_g} : im_D g 58 53 (.iadd) 54 := im_D.of (by decide +kernel)
theorem D58_54 {g : im_g} : im_D g 58 54 (.aload_n 2) 55 := im_D.of (by decide +kernel)
theorem D58_55 {g : im_g} : im_D g 58 55 (.getfield 56) 58 := im_D.of (by decide +kernel)
theorem D58_58 {g : im_g} : im_D g 58 58 (.iload_n 3) 59 := im_D.of (by decide +kernel)
theorem D58_59 {g : im_g} : im_D g 58 59 (.iaload) 60 := im_D.of (by decide +kernel)
theorem D58_60 {g : im_g} : im_D g 58 60 (.iastore) 61 := im_D.of (by decide +kernel)
theorem D58_61 {g : im_g} : im_D g 58 61 (.iinc 3 1) 64 := im_D.of (by decide +kernel)
theorem D58_64 {g : im_g} : im_D g 58 64 (.goto (-27)) 67 := im_D.of (by decide +kernel)
theorem D58_67 {g : im_g} : im_D g 58 67 (.iconst 1) 68 := im_D.of (by decide +kernel)
theorem D58_68 {g : im_g} : im_D g 58 68 (.aload_n 2) 69 := im_D.of (by decide +kernel)
theorem D58_69 {g : im_g} : im_D g 58 69 (.getfield 48) 72 := im_D.of (by decide +kernel)
theorem D58_72 {g : im_g} : im_D g 58 72 (.iadd) 73 := im_D.of (by decide +kernel)
theorem D58_73 {g : im_g} : im_D g 58 73 (.ireturn) 74 := im_D.of (by decide +kernel)
theorem D59_0 {g : im_g} : im_D g 59 0 (.aload_n 0) 1 := im_D.of (by decide +kernel)
theorem D59_1 {g : im_g} : im_D g 59 1 (.getfield 25) 4 := im_D.of (by decide +kernel)
theorem D59_4 {g : im_g} : im_D g 59 4 (.getfield 78) 7 := im_D.of (by decide +kernel)
theorem D59_7 {g : im_g} : im_D g 59 7 (.iload_n 1) 8 := im_D.of (by decide +kernel)
theorem D59_8 {g : im_g} : im_D g 59 8 (.iaload) 9 := im_D.of (by decide +kernel)
theorem D59_9 {g : im_g} : im_D g 59 9 (.invokestatic 81) 12 := im_D.of (by decide +kernel)
theorem D59_12 {g : im_g} : im_D g 59 12 (.astore_n 2) 13 := im_D.of (by decide +kernel)
theorem D59_13 {g : im_g} : im_D g 59 13 (.aload_n 2) 14 := im_D.of (by decide +kernel)
theorem D59_14 {g : im_g} : im_D g 59 14 (.invokevirtual 85) 17 := im_D.of (by decide +kernel)
theorem D59_17 {g : im_g} : im_D g 59 17 (.iconst 1) 18 := im_D.of (by decide +kernel)
theorem D59_18 {g : im_g} : im_D g 59 18 (.isub) 19 := im_D.of (by decide +kernel)
theorem D59_19 {g : im_g} : im_D g 59 19 (.istore_n 3) 20 := im_D.of (by decide +kernel)
theorem D59_20 {g : im_g} : im_D g 59 20 (.iload_n 3) 21 := im_D.of (by decide +kernel)
theorem D59_21 {g : im_g} : im_D g 59 21 (.ifCond .lt 19) 24 := im_D.of (by decide +kernel)
theorem D59_24 {g : im_g} : im_D g 59 24 (.aload_n 0) 25 := im_D.of (by decide +kernel)
theorem D59_25 {g : im_g} : im_D g 59 25 (.aload_n 2) 26 := im_D.of (by decide +kernel)
theorem D59_26 {g : im_g} : im_D g 59 26 (.iload_n 3) 27 := im_D.of (by decide +kernel)
theorem D59_27 {g : im_g} : im_D g 59 27 (.invokevirtual 90) 30 := im_D.of (by decide +kernel)
theorem D59_30 {g : im_g} : im_D g 59 30 (.iload_n 1) 31 := im_D.of (by decide +kernel)
theorem D59_31 {g : im_g} : im_D g 59 31 (.invokevirtual 49) 34 := im_D.of (by decide +kernel)
theorem D59_34 {g : im_g} : im_D g 59 34 (.iinc 3 (-1)) 37 := im_D.of (by decide +kernel)
theorem D59_37 {g : im_g} : im_D g 59 37 (.goto (-17)) 40 := im_D.of (by decide +kernel)
theorem D59_40 {g : im_g} : im_D g 59 40 (.return_) 41 := im_D.of (by decide +kernel)
theorem D60_0 {g : im_g} : im_D g 60 0 (.iload_n 0) 1 := im_D.of (by decide +kernel)
theorem D60_1 {g : im_g} : im_D g 60 1 (.tableswitch 207 1 31 #[139, 143, 147, 151, 155, 159, 163, 183, 183, 183, 183, 159, 207, 207, 167, 171, 175, 175, 179, 159, 187, 187, 187, 187, 187, 207, 207, 195, 199, 203, 191]) 2 := im_D.of (by decide +kernel)
theorem D60_140 {g : im_g} : im_D g 60 140 (.ldc_w 477) 143 := im_D.of (by decide +kernel)
theorem D60_143 {g : im_g} : im_D g 60 143 (.areturn) 144 := im_D.of (by decide +kernel)
theorem D60_144 {g : im_g} : im_D g 60 144 (.ldc_w 479) 147 := im_D.of (by decide +kernel)
theorem D60_147 {g : im_g} : im_D g 60 147 (.areturn) 148 := im_D.of (by decide +kernel)
theorem D60_148 {g : im_g} : im_D g 60 148 (.ldc_w 481) 151 := im_D.of (by decide +kernel)
theorem D60_151 {g : im_g} : im_D g 60 151 (.areturn) 152 := im_D.of (by decide +kernel)
theorem D60_152 {g : im_g} : im_D g 60 152 (.ldc_w 483) 155 := im_D.of (by decide +kernel)
theorem D60_155 {g : im_g} : im_D g 60 155 (.areturn) 156 := im_D.of (by decide +kernel)
theorem D60_156 {g : im_g} : im_D g 60 156 (.ldc_w 485) 159 := im_D.of (by decide +kernel)
theorem D60_159 {g : im_g} : im_D g 60 159 (.areturn) 160 := im_D.of (by decide +kernel)
theorem D60_160 {g : im_g} : im_D g 60 160 (.ldc_w 487) 163 := im_D.of (by decide +kernel)
theorem D60_163 {g : im_g} : im_D g 60 163 (.areturn) 164 := im_D.of (by decide +kernel)
theorem D60_164 {g : im_g} : im_D g 60 164 (.ldc_w 489) 167 := im_D.of (by decide +kernel)
theorem D60_167 {g : im_g} : im_D g 60 167 (.areturn) 168 := im_D.of (by decide +kernel)
theorem D60_168 {g : im_g} : im_D g 60 168 (.ldc_w 491) 171 := im_D.of (by decide +kernel)
theorem D60_171 {g : im_g} : im_D g 60 171 (.areturn) 172 := im_D.of (by decide +kernel)
theorem D60_172 {g : im_g} : im_D g 60 172 (.ldc_w 493) 175 := im_D.of (by decide +kernel)
theorem D60_175 {g : im_g} : im_D g 60 175 (.areturn) 176 := im_D.of (by decide +kernel)
theorem D60_176 {g : im_g} : im_D g 60 176 (.ldc_w 495) 179 := im_D.of (by decide +kernel)
theorem D60_179 {g : im_g} : im_D g 60 179 (.areturn) 180 := im_D.of (by decide +kernel)
theorem D60_180 {g : im_g} : im_D g 60 180 (.ldc_w 497) 183 := im_D.of (by decide +kernel)
theorem D60_183 {g : im_g} : im_D g 60 183 (.areturn) 184 := im_D.of (by decide +kernel)
theorem D60_184 {g : im_g} : im_D g 60 184 (.ldc_w 499) 187 := im_D.of (by decide +kernel)
theorem D60_187 {g : im_g} : im_D g 60 187 (.areturn) 188 := im_D.of (by decide +kernel)
theorem D60_188 {g : im_g} : im_D g 60 188 (.ldc_w 499) 191 := im_D.of (by decide +kernel)
theorem D60_191 {g : im_g} : im_D g 60 191 (.areturn) 192 := im_D.of (by decide +kernel)
theorem D60_192 {g : im_g} : im_D g 60 192 (.ldc_w 501) 195 := im_D.of (by decide +kernel)
theorem D60_195 {g : im_g} : im_D g 60 195 (.areturn) 196 := im_D.of (by decide +kernel)
theorem D60_196 {g : im_g} : im_D g 60 196 (.ldc_w 503) 199 := im_D.of (by decide +kernel)
theorem D60_199 {g : im_g} : im_D g 60 199 (.areturn) 200 := im_D.of (by decide +kernel)
theorem D60_200 {g : im_g} : im_D g 60 200 (.ldc_w 505) 203 := im_D.of (by decide +kernel)
theorem D60_203 {g : im_g} : im_D g 60 203 (.areturn) 204 := im_D.of (by decide +kernel)
theorem D60_204 {g : im_g} : im_D g 60 204 (.ldc_w 485) 207 := im_D.of (by decide +kernel)
theorem D60_207 {g : im_g} : im_D g 60 207 (.areturn) 208 := im_D.of (by decide +kernel)
theorem D60_208 {g : im_g} : im_D g 60 208 (.ldc_w 507) 211 := im_D.of (by decide +kernel)
theorem D60_211 {g : im_g} : im_D g 60 211 (.areturn) 212 := im_D.of (by decide +kernel)
theorem D61_0 {g : im_g} : im_D g 61 0 (.aload_n 0) 1 := im_D.of (by decide +kernel)
theorem D61_1 {g : im_g} : im_D g 61 1 (.getfield 29) 4 := im_D.of (by decide +kernel)
theorem D61_4 {g : im_g} : im_D g 61 4 (.getfield 56) 7 := im_D.of (by decide +kernel)
theorem D61_7 {g : im_g} : im_D g 61 7 (.bipush 40) 9 := im_D.of (by decide +kernel)
theorem D61_9 {g : im_g} : im_D g 61 9 (.if_icmp .ne 15) 12 := im_D.of (by decide +kernel)
theorem D61_12 {g : im_g} : im_D g 61 12 (.aload_n 0) 13 := im_D.of (by decide +kernel)
theorem D61_13 {g : im_g} : im_D g 61 13 (.dup) 14 := im_D.of (by decide +kernel)
theorem D61_14 {g : im_g} : im_D g 61 14 (.getfield 46) 17 := im_D.of (by decide +kernel)
theorem D61_17 {g : im_g} : im_D g 61 17 (.iconst 1) 18 := im_D.of (by decide +kernel)
theorem D61_18 {g : im_g} : im_D g 61 18 (.isub) 19 := im_D.of (by decide +kernel)
theorem D61_19 {g : im_g} : im_D g 61 19 (.putfield 46) 22 := im_D.of (by decide +kernel)
theorem D61_22 {g : im_g} : im_D g 61 22 (.iconst 0) 23 := im_D.of (by decide +kernel)
theorem D61_23 {g : im_g} : im_D g 61 23 (.ireturn) 24 := im_D.of (by decide +kernel)
theorem D61_24 {g : im_g} : im_D g 61 24 (.aload_n 0) 25 := im_D.of (by decide +kernel)
theorem D61_25 {g : im_g} : im_D g 61 25 (.getfield 29) 28 := im_D.of (by decide +kernel)
theorem D61_28 {g : im_g} : im_D g 61 28 (.getfield 56) 31 := im_D.of (by decide +kernel)
theorem D61_31 {g : im_g} : im_D g 61 31 (.bipush 31) 33 := im_D.of (by decide +kernel)
theorem D61_33 {g : im_g} : im_D g 61 33 (.if_icmp .eq 5) 36 := im_D.of (by decide +kernel)
theorem D61_36 {g : im_g} : im_D g 61 36 (.iconst 4) 37 := im_D.of (by decide +kernel)
theorem D61_37 {g : im_g} : im_D g 61 37 (.ireturn) 38 := im_D.of (by decide +kernel)
theorem D61_38 {g : im_g} : im_D g 61 38 (.aload_n 0) 39 := im_D.of (by decide +kernel)
theorem D61_39 {g : im_g} : im_D g 61 39 (.iload_n 1) 40 := im_D.of (by decide +kernel)
theorem D61_40 {g : im_g} : im_D g 61 40 (.invokevirtual 132) 43 := im_D.of (by decide +kernel)
theorem D61_43 {g : im_g} : im_D g 61 43 (.ifCond .eq 6) 46 := im_D.of (by decide +kernel)
theorem D61_46 {g : im_g} : im_D g 61 46 (.bipush 7) 48 := im_D.of (by decide +kernel)
theorem D61_48 {g : im_g} : im_D g 61 48 (.ireturn) 49 := im_D.of (by decide +kernel)
theorem D61_49 {g : im_g} : im_D g 61 49 (.aload_n 0) 50 := im_D.of (by decide +kernel)
theorem D61_50 {g : im_g} : im_D g 61 50 (.getfield 25) 53 := im_D.of (by decide +kernel)
theorem D61_53 {g : im_g} : im_D g 61 53 (.getfield 138) 56 := im_D.of (by decide +kernel)
theorem D61_56 {g : im_g} : im_D g 61 56 (.iload_n 1) 57 := im_D.of (by decide +kernel)
theorem D61_57 {g : im_g} : im_D g 61 57 (.iaload) 58 := im_D.of (by decide +kernel)
theorem D61_58 {g : im_g} : im_D g 61 58 (.bipush 8) 60 := im_D.of (by decide +kernel)
theorem D61_60 {g : im_g} : im_D g 61 60 (.if_icmp .lt 6) 63 := im_D.of (by decide +kernel)
theorem D61_63 {g : im_g} : im_D g 61 63 (.bipush 8) 65 := im_D.of (by decide +kernel)
theorem D61_65 {g : im_g} : im_D g 61 65 (.ireturn) 66 := im_D.of (by decide +kernel)
theorem D61_66 {g : im_g} : im_D g 61 66 (.aload_n 0) 67 := im_D.of (by decide +kernel)
theorem D61_67 {g : im_g} : im_D g 61 67 (.getfield 25) 70 := im_D.of (by decide +kernel)
theorem D61_70 {g : im_g} : im_D g 61 70 (.getfield 138) 73 := im_D.of (by decide +kernel)
theorem D61_73 {g : im_g} : im_D g 61 73 (.iload_n 1) 74 := im_D.of (by decide +kernel)
theorem D61_74 {g : im_g} : im_D g 61 74 (.dup2) 75 := im_D.of (by decide +kernel)
theorem D61_75 {g : im_g} : im_D g 61 75 (.iaload) 76 := im_D.of (by decide +kernel)
theorem D61_76 {g : im_g} : im_D g 61 76 (.iconst 1) 77 := im_D.of (by decide +kernel)
theorem D61_77 {g : im_g} : im_D g 61 77 (.iadd) 78 := im_D.of (by decide +kernel)
theorem D61_78 {g : im_g} : im_D g 61 78 (.iastore) 79 := im_D.of (by decide +kernel)
theorem D61_79 {g : im_g} : im_D g 61 79 (.aload_n 0) 80 := im_D.of (by decide +kernel)
theorem D61_80 {g : im_g} : im_D g 61 80 (.aload_n 0) 81 := im_D.of (by decide +kernel)
theorem D61_81 {g : im_g} : im_D g 61 81 (.bipush 31) 83 := im_D.of (by decide +kernel)
theorem D61_83 {g : im_g} : im_D g 61 83 (.iload_n 1) 84 := im_D.of (by decide +kernel)
theorem D61_84 {g : im_g} : im_D g 61 84 (.invokevirtual 135) 87 := im_D.of (by decide +kernel)
theorem D61_87 {g : im_g} : im_D g 61 87 (.invokevirtual 152) 90 := im_D.of (by decide +kernel)
theorem D61_90 {g : im_g} : im_D g 61 90 (.iconst 0) 91 := im_D.of (by decide +kernel)
theorem D61_91 {g : im_g} : im_D g 61 91 (.ireturn) 92 := im_D.of (by decide +kernel)
theorem D62_0 {g : im_g} : im_D g 62 0 (.aload_n 0) 1 := im_D.of (by decide +kernel)
theorem D62_1 {g : im_g} : im_D g 62 1 (.getfield 29) 4 := im_D.of (by decide +kernel)
theorem D62_4 {g : im_g} : im_D g 62 4 (.getfield 56) 7 := im_D.of (by decide +kernel)
theorem D62_7 {g : im_g} : im_D g 62 7 (.bipush 28) 9 := im_D.of (by decide +kernel)
theorem D62_9 {g : im_g} : im_D g 62 9 (.if_icmp .lt 15) 12 := im_D.of (by decide +kernel)
theorem D62_12 {g : im_g} : im_D g 62 12 (.aload_n 0) 13 := im_D.of (by decide +kernel)
theorem D62_13 {g : im_g} : im_D g 62 13 (.getfield 29) 16 := im_D.of (by decide +kernel)
theorem D62_16 {g : im_g} : im_D g 62 16 (.getfield 56) 19 := im_D.of (by decide +kernel)
theorem D62_19 {g : im_g} : im_D g 62 19 (.bipush 30) 21 := im_D.of (by decide +kernel)
theorem D62_21 {g : im_g} : im_D g 62 21 (.if_icmp .le 5) 24 := im_D.of (by decide +kernel)
theorem D62_24 {g : im_g} : im_D g 62 24 (.iconst 4) 25 := im_D.of (by decide +kernel)
theorem D62_25 {g : im_g} : im_D g 62 25 (.ireturn) 26 := im_D.of (by decide +kernel)
theorem D62_26 {g : im_g} : im_D g 62 26 (.aload_n 0) 27 := im_D.of (by decide +kernel)
theorem D62_27 {g : im_g} : im_D g 62 27 (.dup) 28 := im_D.of (by decide +kernel)
theorem D62_28 {g : im_g} : im_D g 62 28 (.getfield 46) 31 := im_D.of (by decide +kernel)
theorem D62_31 {g : im_g} : im_D g 62 31 (.iconst 1) 32 := im_D.of (by decide +kernel)
theorem D62_32 {g : im_g} : im_D g 62 32 (.isub) 33 := im_D.of (by decide +kernel)
theorem D62_33 {g : im_g} : im_D g 62 33 (.putfield 46) 36 := im_D.of (by decide +kernel)
theorem D62_36 {g : im_g} : im_D g 62 36 (.aload_n 0) 37 := im_D.of (by decide +kernel)
theorem D62_37 {g : im_g} : im_D g 62 37 (.getfield 25) 40 := im_D.of (by decide +kernel)
theorem D62_40 {g : im_g} : im_D g 62 40 (.getfield 78) 43 := im_D.of (by decide +kernel)
theorem D62_43 {g : im_g} : im_D g 62 43 (.iload_n 1) 44 := im_D.of (by decide +kernel)
theorem D62_44 {g : im_g} : im_D g 62 44 (.aload_n 0) 45 := im_D.of (by decide +kernel)
theorem D62_45 {g : im_g} : im_D g 62 45 (.getfield 29) 48 := im_D.of (by decide +kernel)
theorem D62_48 {g : im_g} : im_D g 62 48 (.getfield 56) 51 := im_D.of (by decide +kernel)
theorem D62_51 {g : im_g} : im_D g 62 51 (.iastore) 52 := im_D.of (by decide +kernel)
theorem D62_52 {g : im_g} : im_D g 62 52 (.aload_n 0) 53 := im_D.of (by decide +kernel)
theorem D62_53 {g : im_g} : im_D g 62 53 (.iload_n 1) 54 := im_D.of (by decide +kernel)
theorem D62_54 {g : im_g} : im_D g 62 54 (.invokevirtual 152) 57 := im_D.of (by decide +kernel)
theorem D62_57 {g : im_g} : im_D g 62 57 (.iconst 0) 58 := im_D.of (by decide +kernel)
theorem D62_58 {g : im_g} : im_D g 62 58 (.ireturn) 59 := im_D.of (by decide +kernel)
theorem D63_0 {g : im_g} : im_D g 63 0 (.aload_n 0) 1 := im_D.of (by decide +kernel)
theorem D63_1 {g : im_g} : im_D g 63 1 (.getfield 29) 4 := im_D.of (by decide +kernel)
theorem D63_4 {g : im_g} : im_D g 63 4 (.getfield 56) 7 := im_D.of (by decide +kernel)
theorem D63_7 {g : im_g} : im_D g 63 7 (.bipush 34) 9 := im_D.of (by decide +kernel)
theorem D63_9 {g : im_g} : im_D g 63 9 (.if_icmp .eq 17) 12 := im_D.of (by decide +kernel)
theorem D63_12 {g : im_g} : im_D g 63 12 (.aload_n 0) 13 := im_D.of (by decide +kernel)
theorem D63_13 {g : im_g} : im_D g 63 13 (.getfield 29) 16 := im_D.of (by decide +kernel)
theorem D63_16 {g : im_g} : im_D g 63 16 (.getfield 56) 19 := im_D.of (by decide +kernel)
theorem D63_19 {g : im_g} : im_D g 63 19 (.bipush 35) 21 := im_D.of (by decide +kernel)
theorem D63_21 {g : im_g} : im_D g 63 21 (.if_icmp .eq 5) 24 := im_D.of (by decide +kernel)
theorem D63_24 {g : im_g} : im_D g 63 24 (.iconst 4) 25 := im_D.of (by decide +kernel)
theorem D63_25 {g : im_g} : im_D g 63 25 (.ireturn) 26 := im_D.of (by decide +kernel)
theorem D63_26 {g : im_g} : im_D g 63 26 (.aload_n 0) 27 := im_D.of (by decide +kernel)
theorem D63_27 {g : im_g} : im_D g 63 27 (.dup) 28 := im_D.of (by decide +kernel)
theorem D63_28 {g : im_g} : im_D g 63 28 (.getfield 46) 31 := im_D.of (by decide +kernel)
theorem D63_31 {g : im_g} : im_D g 63 31 (.iconst 1) 32 := im_D.of (by decide +kernel)
theorem D63_32 {g : im_g} : im_D g 63 32 (.isub) 33 := im_D.of (by decide +kernel)
theorem D63_33 {g : im_g} : im_D g 63 33 (.putfield 46) 36 := im_D.of (by decide +kernel)
theorem D63_36 {g : im_g} : im_D g 63 36 (.aload_n 0) 37 := im_D.of (by decide +kernel)
theorem D63_37 {g : im_g} : im_D g 63 37 (.getfield 29) 40 := im_D.of (by decide +kernel)
theorem D63_40 {g : im_g} : im_D g 63 40 (.getfield 56) 43 := im_D.of (by decide +kernel)
theorem D63_43 {g : im_g} : im_D g 63 43 (.bipush 35) 45 := im_D.of (by decide +kernel)
theorem D63_45 {g : im_g} : im_D g 63 45 (.if_icmp .ne 21) 48 := im_D.of (by decide +kernel)
theorem D63_48 {g : im_g} : im_D g 63 48 (.aload_n 0) 49 := im_D.of (by decide +kernel)
theorem D63_49 {g : im_g} : im_D g 63 49 (.getfield 25) 52 := im_D.of (by decide +kernel)
theorem D63_52 {g : im_g} : im_D g 63 52 (.getfield 165) 55 := im_D.of (by decide +kernel)
theorem D63_55 {g : im_g} : im_D g 63 55 (.iload_n 1) 56 := im_D.of (by decide +kernel)
theorem D63_56 {g : im_g} : im_D g 63 56 (.aload_n 0) 57 := im_D.of (by decide +kernel)
theorem D63_57 {g : im_g} : im_D g 63 57 (.getfield 29) 60 := im_D.of (by decide +kernel)
theorem D63_60 {g : im_g} : im_D g 63 60 (.getfield 148) 63 := im_D.of (by decide +kernel)
theorem D63_63 {g : im_g} : im_D g 63 63 (.lastore) 64 := im_D.of (by decide +kernel)
theorem D63_64 {g : im_g} : im_D g 63 64 (.iconst 0) 65 := im_D.of (by decide +kernel)
theorem D63_65 {g : im_g} : im_D g 63 65 (.ireturn) 66 := im_D.of (by decide +kernel)
theorem D63_66 {g : im_g} : im_D g 63 66 (.aload_n 0) 67 := im_D.of (by decide +kernel)
theorem D63_67 {g : im_g} : im_D g 63 67 (.getfield 25) 70 := im_D.of (by decide +kernel)
theorem D63_70 {g : im_g} : im_D g 63 70 (.getfield 144) 73 := im_D.of (by decide +kernel)
theorem D63_73 {g : im_g} : im_D g 63 73 (.iload_n 1) 74 := im_D.of (by decide +kernel)
theorem D63_74 {g : im_g} : im_D g 63 74 (.aload_n 0) 75 := im_D.of (by decide +kernel)
theorem D63_75 {g : im_g} : im_D g 63 75 (.getfield 29) 78 := im_D.of (by decide +kernel)
theorem D63_78 {g : im_g} : im_D g 63 78 (.getfield 171) 81 := im_D.of (by decide +kernel)
theorem D63_81 {g : im_g} : im_D g 63 81 (.invokevirtual 178) 84 := im_D.of (by decide +kernel)
theorem D63_84 {g : im_g} : im_D g 63 84 (.lastore) 85 := im_D.of (by decide +kernel)
theorem D63_85 {g : im_g} : im_D g 63 85 (.aload_n 0) 86 := im_D.of (by decide +kernel)
theorem D63_86 {g : im_g} : im_D g 63 86 (.getfield 25) 89 := im_D.of (by decide +kernel)
theorem D63_89 {g : im_g} : im_D g 63 89 (.getfield 144) 92 := im_D.of (by decide +kernel)
theorem D63_92 {g : im_g} : im_D g 63 92 (.iload_n 1) 93 := im_D.of (by decide +kernel)
theorem D63_93 {g : im_g} : im_D g 63 93 (.laload) 94 := im_D.of (by decide +kernel)
theorem D63_94 {g : im_g} : im_D g 63 94 (.ldc2_w 182) 97 := im_D.of (by decide +kernel)
theorem D63_97 {g : im_g} : im_D g 63 97 (.lcmp) 98 := im_D.of (by decide +kernel)
theorem D63_98 {g : im_g} : im_D g 63 98 (.ifCond .ne 7) 101 := im_D.of (by decide +kernel)
theorem D63_101 {g : im_g} : im_D g 63 101 (.iconst 5) 102 := im_D.of (by decide +kernel)
theorem D63_102 {g : im_g} : im_D g 63 102 (.goto 4) 105 := im_D.of (by decide +kernel)
theorem D63_105 {g : im_g} : im_D g 63 105 (.iconst 0) 106 := im_D.of (by decide +kernel)
theorem D63_106 {g : im_g} : im_D g 63 106 (.ireturn) 107 := im_D.of (by decide +kernel)
theorem D64_0 {g : im_g} : im_D g 64 0 (.aload_n 0) 1 := im_D.of (by decide +kernel)
theorem D64_1 {g : im_g} : im_D g 64 1 (.getfield 15) 4 := im_D.of (by decide +kernel)
theorem D64_4 {g : im_g} : im_D g 64 4 (.ifCond .lt 11) 7 := im_D.of (by decide +kernel)
theorem D64_7 {g : im_g} : im_D g 64 7 (.aload_n 0) 8 := im_D.of (by decide +kernel)
theorem D64_8 {g : im_g} : im_D g 64 8 (.getfield 19) 11 := im_D.of (by decide +kernel)
theorem D64_11 {g : im_g} : im_D g 64 11 (.iconst 2) 12 := im_D.of (by decide +kernel)
theorem D64_12 {g : im_g} : im_D g 64 12 (.if_icmp .le 7) 15 := im_D.of (by decide +kernel)
theorem D64_15 {g : im_g} : im_D g 64 15 (.ldc2_w 27) 18 := im_D.of (by decide +kernel)
theorem D64_18 {g : im_g} : im_D g 64 18 (.lreturn) 19 := im_D.of (by decide +kernel)
theorem D64_19 {g : im_g} : im_D g 64 19 (.lconst 0) 20 := im_D.of (by decide +kernel)
theorem D64_20 {g : im_g} : im_D g 64 20 (.lstore_n 1) 21 := im_D.of (by decide +kernel)
theorem D64_21 {g : im_g} : im_D g 64 21 (.aload_n 0) 22 := im_D.of (by decide +kernel)
theorem D64_22 {g : im_g} : im_D g 64 22 (.getfield 19) 25 := im_D.of (by decide +kernel)
theorem D64_25 {g : im_g} : im_D g 64 25 (.iconst 1) 26 := im_D.of (by decide +kernel)
theorem D64_26 {g : im_g} : im_D g 64 26 (.isub) 27 := im_D.of (by decide +kernel)
theorem D64_27 {g : im_g} : im_D g 64 27 (.istore_n 3) 28 := im_D.of (by decide +kernel)
theorem D64_28 {g : im_g} : im_D g 64 28 (.iload_n 3) 29 := im_D.of (by decide +kernel)
theorem D64_29 {g : im_g} : im_D g 64 29 (.ifCond .lt 23) 32 := im_D.of (by decide +kernel)
theorem D64_32 {g : im_g} : im_D g 64 32 (.lload_n 1) 33 := im_D.of (by decide +kernel)
theorem D64_33 {g : im_g} : im_D g 64 33 (.ldc2_w 25) 36 := im_D.of (by decide +kernel)
theorem D64_36 {g : im_g} : im_D g 64 36 (.lmul) 37 := im_D.of (by decide +kernel)
theorem D64_37 {g : im_g} : im_D g 64 37 (.aload_n 0) 38 := im_D.of (by decide +kernel)
theorem D64_38 {g : im_g} : im_D g 64 38 (.getfield 9) 41 := im_D.of (by decide +kernel)
theorem D64_41 {g : im_g} : im_D g 64 41 (.iload_n 3) 42 := im_D.of (by decide +kernel)
theorem D64_42 {g : im_g} : im_D g 64 42 (.iaload) 43 := im_D.of (by decide +kernel)
theorem D64_43 {g : im_g} : im_D g 64 43 (.i2l) 44 := im_D.of (by decide +kernel)
theorem D64_44 {g : im_g} : im_D g 64 44 (.ladd) 45 := im_D.of (by decide +kernel)
theorem D64_45 {g : im_g} : im_D g 64 45 (.lstore_n 1) 46 := im_D.of (by decide +kernel)
theorem D64_46 {g : im_g} : im_D g 64 46 (.iinc 3 (-1)) 49 := im_D.of (by decide +kernel)
theorem D64_49 {g : im_g} : im_D g 64 49 (.goto (-21)) 52 := im_D.of (by decide +kernel)
theorem D64_52 {g : im_g} : im_D g 64 52 (.lload_n 1) 53 := im_D.of (by decide +kernel)
theorem D64_53 {g : im_g} : im_D g 64 53 (.ldc2_w 29) 56 := im_D.of (by decide +kernel)
theorem D64_56 {g : im_g} : im_D g 64 56 (.lcmp) 57 := im_D.of (by decide +kernel)
theorem D64_57 {g : im_g} : im_D g 64 57 (.ifCond .gt 7) 60 := im_D.of (by decide +kernel)
theorem D64_60 {g : im_g} : im_D g 64 60 (.lload_n 1) 61 := im_D.of (by decide +kernel)
theorem D64_61 {g : im_g} : im_D g 64 61 (.goto 6) 64 := im_D.of (by decide +kernel)
theorem D64_64 {g : im_g} : im_D g 64 64 (.ldc2_w 27) 67 := im_D.of (by decide +kernel)
theorem D64_67 {g : im_g} : im_D g 64 67 (.lreturn) 68 := im_D.of (by decide +kernel)
theorem D65_0 {g : im_g} : im_D g 65 0 (.aload_n 0) 1 := im_D.of (by decide +kernel)
theorem D65_1 {g : im_g} : im_D g 65 1 (.getfield 29) 4 := im_D.of (by decide +kernel)
theorem D65_4 {g : im_g} : im_D g 65 4 (.getfield 56) 7 := im_D.of (by decide +kernel)
theorem D65_7 {g : im_g} : im_D g 65 7 (.bipush 40) 9 := im_D.of (by decide +kernel)
theorem D65_9 {g : im_g} : im_D g 65 9 (.if_icmp .ne 29) 12 := im_D.of (by decide +kernel)
theorem D65_12 {g : im_g} : im_D g 65 12 (.aload_n 0) 13 := im_D.of (by decide +kernel)
theorem D65_13 {g : im_g} : im_D g 65 13 (.getfield 25) 16 := im_D.of (by decide +kernel)
theorem D65_16 {g : im_g} : im_D g 65 16 (.getfield 168) 19 := im_D.of (by decide +kernel)
theorem D65_19 {g : im_g} : im_D g 65 19 (.iload_n 1) 20 := im_D.of (by decide +kernel)
theorem D65_20 {g : im_g} : im_D g 65 20 (.laload) 21 := im_D.of (by decide +kernel)
theorem D65_21 {g : im_g} : im_D g 65 21 (.lconst 0) 22 := im_D.of (by decide +kernel)
theorem D65_22 {g : im_g} : im_D g 65 22 (.lcmp) 23 := im_D.of (by decide +kernel)
theorem D65_23 {g : im_g} : im_D g 65 23 (.ifCond .le 15) 26 := im_D.of (by decide +kernel)
theorem D65_26 {g : im_g} : im_D g 65 26 (.aload_n 0) 27 := im_D.of (by decide +kernel)
theorem D65_27 {g : im_g} : im_D g 65 27 (.dup) 28 := im_D.of (by decide +kernel)
theorem D65_28 {g : im_g} : im_D g 65 28 (.getfield 46) 31 := im_D.of (by decide +kernel)
theorem D65_31 {g : im_g} : im_D g 65 31 (.iconst 1) 32 := im_D.of (by decide +kernel)
theorem D65_32 {g : im_g} : im_D g 65 32 (.isub) 33 := im_D.of (by decide +kernel)
theorem D65_33 {g : im_g} : im_D g 65 33 (.putfield 46) 36 := im_D.of (by decide +kernel)
theorem D65_36 {g : im_g} : im_D g 65 36 (.iconst 0) 37 := im_D.of (by decide +kernel)
theorem D65_37 {g : im_g} : im_D g 65 37 (.ireturn) 38 := im_D.of (by decide +kernel)
theorem D65_38 {g : im_g} : im_D g 65 38 (.aload_n 0) 39 := im_D.of (by decide +kernel)
theorem D65_39 {g : im_g} : im_D g 65 39 (.getfield 29) 42 := im_D.of (by decide +kernel)
theorem D65_42 {g : im_g} : im_D g 65 42 (.getfield 56) 45 := im_D.of (by decide +kernel)
theorem D65_45 {g : im_g} : im_D g 65 45 (.bipush 34) 47 := im_D.of (by decide +kernel)
theorem D65_47 {g : im_g} : im_D g 65 47 (.if_icmp .eq 5) 50 := im_D.of (by decide +kernel)
theorem D65_50 {g : im_g} : im_D g 65 50 (.iconst 4) 51 := im_D.of (by decide +kernel)
theorem D65_51 {g : im_g} : im_D g 65 51 (.ireturn) 52 := im_D.of (by decide +kernel)
theorem D65_52 {g : im_g} : im_D g 65 52 (.aload_n 0) 53 := im_D.of (by decide +kernel)
theorem D65_53 {g : im_g} : im_D g 65 53 (.getfield 25) 56 := im_D.of (by decide +kernel)
theorem D65_56 {g : im_g} : im_D g 65 56 (.getfield 168) 59 := im_D.of (by decide +kernel)
theorem D65_59 {g : im_g} : im_D g 65 59 (.iload_n 1) 60 := im_D.of (by decide +kernel)
theorem D65_60 {g : im_g} : im_D g 65 60 (.laload) 61 := im_D.of (by decide +kernel)
theorem D65_61 {g : im_g} : im_D g 65 61 (.ldc2_w 184) 64 := im_D.of (by decide +kernel)
theorem D65_64 {g : im_g} : im_D g 65 64 (.lcmp) 65 := im_D.of (by decide +kernel)
theorem D65_65 {g : im_g} : im_D g 65 65 (.ifCond .lt 6) 68 := im_D.of (by decide +kernel)
theorem D65_68 {g : im_g} : im_D g 65 68 (.bipush 8) 70 := im_D.of (by decide +kernel)
theorem D65_70 {g : im_g} : im_D g 65 70 (.ireturn) 71 := im_D.of (by decide +kernel)
theorem D65_71 {g : im_g} : im_D g 65 71 (.aload_n 0) 72 := im_D.of (by decide +kernel)
theorem D65_72 {g : im_g} : im_D g 65 72 (.getfield 25) 75 := im_D.of (by decide +kernel)
theorem D65_75 {g : im_g} : im_D g 65 75 (.getfield 168) 78 := im_D.of (by decide +kernel)
theorem D65_78 {g : im_g} : im_D g 65 78 (.iload_n 1) 79 := im_D.of (by decide +kernel)
theorem D65_79 {g : im_g} : im_D g 65 79 (.laload) 80 := im_D.of (by decide +kernel)
theorem D65_80 {g : im_g} : im_D g 65 80 (.lconst 0) 81 := im_D.of (by decide +kernel)
theorem D65_81 {g : im_g} : im_D g 65 81 (.lcmp) 82 := im_D.of (by decide +kernel)
theorem D65_82 {g : im_g} : im_D g 65 82 (.ifCond .ne 24) 85 := im_D.of (by decide +kernel)
theorem D65_85 {g : im_g} : im_D g 65 85 (.aload_n 0) 86 := im_D.of (by decide +kernel)
theorem D65_86 {g : im_g} : im_D g 65 86 (.getfield 25) 89 := im_D.of (by decide +kernel)
theorem D65_89 {g : im_g} : im_D g 65 89 (.getfield 138) 92 := im_D.of (by decide +kernel)
theorem D65_92 {g : im_g} : im_D g 65 92 (.iload_n 1) 93 := im_D.of (by decide +kernel)
theorem D65_93 {g : im_g} : im_D g 65 93 (.aload_n 0) 94 := im_D.of (by decide +kernel)
theorem D65_94 {g : im_g} : im_D g 65 94 (.getfield 25) 97 := im_D.of (by decide +kernel)
theorem D65_97 {g : im_g} : im_D g 65 97 (.getfield 75) 100 := im_D.of (by decide +kernel)
theorem D65_100 {g : im_g} : im_D g 65 100 (.aload_n 0) 101 := im_D.of (by decide +kernel)
theorem D65_101 {g : im_g} : im_D g 65 101 (.getfield 43) 104 := im_D.of (by decide +kernel)
theorem D65_104 {g : im_g} : im_D g 65 104 (.iadd) 105 := im_D.of (by decide +kernel)
theorem D65_105 {g : im_g} : im_D g 65 105 (.iastore) 106 := im_D.of (by decide +kernel)
theorem D65_106 {g : im_g} : im_D g 65 106 (.aload_n 0) 107 := im_D.of (by decide +kernel)
theorem D65_107 {g : im_g} : im_D g 65 107 (.invokevirtual 141) 110 := im_D.of (by decide +kernel)
theorem D65_110 {g : im_g} : im_D g 65 110 (.aload_n 0) 111 := im_D.of (by decide +kernel)
theorem D65_111 {g : im_g} : im_D g 65 111 (.getfield 21) 114 := im_D.of (by decide +kernel)
theorem D65_114 {g : im_g} : im_D g 65 114 (.aload_n 0) 115 := im_D.of (by decide +kernel)
theorem D65_115 {g : im_g} : im_D g 65 115 (.getfield 29) 118 := im_D.of (by decide +kernel)
theorem D65_118 {g : im_g} : im_D g 65 118 (.getfield 171) 121 := im_D.of (by decide +kernel)
theorem D65_121 {g : im_g} : im_D g 65 121 (.invokevirtual 186) 124 := im_D.of (by decide +kernel)
theorem D65_124 {g : im_g} : im_D g 65 124 (.aload_n 0) 125 := im_D.of (by decide +kernel)
theorem D65_125 {g : im_g} : im_D g 65 125 (.bipush 104) 127 := im_D.of (by decide +kernel)
theorem D65_127 {g : im_g} : im_D g 65 127 (.iload_n 1) 128 := im_D.of (by decide +kernel)
theorem D65_128 {g : im_g} : im_D g 65 128 (.invokevirtual 49) 131 := im_D.of (by decide +kernel)
theorem D65_131 {g : im_g} : im_D g 65 131 (.iconst 0) 132 := im_D.of (by decide +kernel)
theorem D65_132 {g : im_g} : im_D g 65 132 (.ireturn) 133 := im_D.of (by decide +kernel)
theorem D66_0 {g : im_g} : im_D g 66 0 (.aload_n 0) 1 := im_D.of (by decide +kernel)
theorem D66_1 {g : im_g} : im_D g 66 1 (.aload_n 1) 2 := im_D.of (by decide +kernel)
theorem D66_2 {g : im_g} : im_D g 66 2 (.getfield 15) 5 := im_D.of (by decide +kernel)
theorem D66_5 {g : im_g} : im_D g 66 5 (.putfield 15) 8 := im_D.of (by decide +kernel)
theorem D66_8 {g : im_g} : im_D g 66 8 (.aload_n 0) 9 := im_D.of (by decide +kernel)
theorem D66_9 {g : im_g} : im_D g 66 9 (.aload_n 1) 10 := im_D.of (by decide +kernel)
theorem D66_10 {g : im_g} : im_D g 66 10 (.getfield 19) 13 := im_D.of (by decide +kernel)
theorem D66_13 {g : im_g} : im_D g 66 13 (.putfield 19) 16 := im_D.of (by decide +kernel)
theorem D66_16 {g : im_g} : im_D g 66 16 (.iconst 0) 17 := im_D.of (by decide +kernel)
theorem D66_17 {g : im_g} : im_D g 66 17 (.istore_n 2) 18 := im_D.of (by decide +kernel)
theorem D66_18 {g : im_g} : im_D g 66 18 (.iload_n 2) 19 := im_D.of (by decide +kernel)
theorem D66_19 {g : im_g} : im_D g 66 19 (.aload_n 0) 20 := im_D.of (by decide +kernel)
theorem D66_20 {g : im_g} : im_D g 66 20 (.getfield 19) 23 := im_D.of (by decide +kernel)
theorem D66_23 {g : im_g} : im_D g 66 23 (.if_icmp .ge 21) 26 := im_D.of (by decide +kernel)
theorem D66_26 {g : im_g} : im_D g 66 26 (.aload_n 0) 27 := im_D.of (by decide +kernel)
theorem D66_27 {g : im_g} : im_D g 66 27 (.getfield 9) 30 := im_D.of (by decide +kernel)
theorem D66_30 {g : im_g} : im_D g 66 30 (.iload_n 2) 31 := im_D.of (by decide +kernel)
theorem D66_31 {g : im_g} : im_D g 66 31 (.aload_n 1) 32 := im_D.of (by decide +kernel)
theorem D66_32 {g : im_g} : im_D g 66 32 (.getfield 9) 35 := im_D.of (by decide +kernel)
theorem D66_35 {g : im_g} : im_D g 66 35 (.iload_n 2) 36 := im_D.of (by decide +kernel)
theorem D66_36 {g : im_g} : im_D g 66 36 (.iaload) 37 := im_D.of (by decide +kernel)
theorem D66_37 {g : im_g} : im_D g 66 37 (.iastore) 38 := im_D.of (by decide +kernel)
theorem D66_38 {g : im_g} : im_D g 66 38 (.iinc 2 1) 41 := im_D.of (by decide +kernel)
theorem D66_41 {g : im_g} : im_D g 66 41 (.goto (-23)) 44 := im_D.of (by decide +kernel)
theorem D66_44 {g : im_g} : im_D g 66 44 (.return_) 45 := im_D.of (by decide +kernel)
theorem D67_0 {g : im_g} : im_D g 67 0 (.aload_n 0) 1 := im_D.of (by decide +kernel)
theorem D67_1 {g : im_g} : im_D g 67 1 (.getfield 29) 4 := im_D.of (by decide +kernel)
theorem D67_4 {g : im_g} : im_D g 67 4 (.getfield 56) 7 := im_D.of (by decide +kernel)
theorem D67_7 {g : im_g} : im_D g 67 7 (.bipush 34) 9 := im_D.of (by decide +kernel)
theorem D67_9 {g : im_g} : im_D g 67 9 (.if_icmp .eq 5) 12 := im_D.of (by decide +kernel)
theorem D67_12 {g : im_g} : im_D g 67 12 (.iconst 4) 13 := im_D.of (by decide +kernel)
theorem D67_13 {g : im_g} : im_D g 67 13 (.ireturn) 14 := im_D.of (by decide +kernel)
theorem D67_14 {g : im_g} : im_D g 67 14 (.aload_n 0) 15 := im_D.of (by decide +kernel)
theorem D67_15 {g : im_g} : im_D g 67 15 (.getfield 29) 18 := im_D.of (by decide +kernel)
theorem D67_18 {g : im_g} : im_D g 67 18 (.getfield 171) 21 := im_D.of (by decide +kernel)
theorem D67_21 {g : im_g} : im_D g 67 21 (.aload_n 0) 22 := im_D.of (by decide +kernel)
theorem D67_22 {g : im_g} : im_D g 67 22 (.getfield 21) 25 := im_D.of (by decide +kernel)
theorem D67_25 {g : im_g} : im_D g 67 25 (.invokevirtual 190) 28 := im_D.of (by decide +kernel)
theorem D67_28 {g : im_g} : im_D g 67 28 (.ifCond .ge 6) 31 := im_D.of (by decide +kernel)
theorem D67_31 {g : im_g} : im_D g 67 31 (.bipush 6) 33 := im_D.of (by decide +kernel)
theorem D67_33 {g : im_g} : im_D g 67 33 (.ireturn) 34 := im_D.of (by decide +kernel)
theorem D67_34 {g : im_g} : im_D g 67 34 (.aload_n 0) 35 := im_D.of (by decide +kernel)
theorem D67_35 {g : im_g} : im_D g 67 35 (.dup) 36 := im_D.of (by decide +kernel)
theorem D67_36 {g : im_g} : im_D g 67 36 (.getfield 46) 39 := im_D.of (by decide +kernel)
theorem D67_39 {g : im_g} : im_D g 67 39 (.iconst 1) 40 := im_D.of (by decide +kernel)
theorem D67_40 {g : im_g} : im_D g 67 40 (.isub) 41 := im_D.of (by decide +kernel)
theorem D67_41 {g : im_g} : im_D g 67 41 (.putfield 46) 44 := im_D.of (by decide +kernel)
theorem D67_44 {g : im_g} : im_D g 67 44 (.aload_n 0) 45 := im_D.of (by decide +kernel)
theorem D67_45 {g : im_g} : im_D g 67 45 (.invokevirtual 141) 48 := im_D.of (by decide +kernel)
theorem D67_48 {g : im_g} : im_D g 67 48 (.aload_n 0) 49 := im_D.of (by decide +kernel)
theorem D67_49 {g : im_g} : im_D g 67 49 (.getfield 25) 52 := im_D.of (by decide +kernel)
theorem D67_52 {g : im_g} : im_D g 67 52 (.getfield 168) 55 := im_D.of (by decide +kernel)
theorem D67_55 {g : im_g} : im_D g 67 55 (.iload_n 1) 56 := im_D.of (by decide +kernel)
theorem D67_56 {g : im_g} : im_D g 67 56 (.dup2) 57 := im_D.of (by decide +kernel)
theorem D67_57 {g : im_g} : im_D g 67 57 (.laload) 58 := im_D.of (by decide +kernel)
theorem D67_58 {g : im_g} : im_D g 67 58 (.lconst 1) 59 := im_D.of (by decide +kernel)
theorem D67_59 {g : im_g} : im_D g 67 59 (.ladd) 60 := im_D.of (by decide +kernel)
theorem D67_60 {g : im_g} : im_D g 67 60 (.lastore) 61 := im_D.of (by decide +kernel)
theorem D67_61 {g : im_g} : im_D g 67 61 (.iconst 0) 62 := im_D.of (by decide +kernel)
theorem D67_62 {g : im_g} : im_D g 67 62 (.ireturn) 63 := im_D.of (by decide +kernel)
theorem D68_0 {g : im_g} : im_D g 68 0 (.aload_n 0) 1 := im_D.of (by decide +kernel)
theorem D68_1 {g : im_g} : im_D g 68 1 (.getfield 15) 4 := im_D.of (by decide +kernel)
theorem D68_4 {g : im_g} : im_D g 68 4 (.aload_n 1) 5 := im_D.of (by decide +kernel)
theorem D68_5 {g : im_g} : im_D g 68 5 (.getfield 15) 8 := im_D.of (by decide +kernel)
theorem D68_8 {g : im_g} : im_D g 68 8 (.if_icmp .eq 20) 11 := im_D.of (by decide +kernel)
theorem D68_11 {g : im_g} : im_D g 68 11 (.aload_n 0) 12 := im_D.of (by decide +kernel)
theorem D68_12 {g : im_g} : im_D g 68 12 (.getfield 15) 15 := im_D.of (by decide +kernel)
theorem D68_15 {g : im_g} : im_D g 68 15 (.aload_n 1) 16 := im_D.of (by decide +kernel)
theorem D68_16 {g : im_g} : im_D g 68 16 (.getfield 15) 19 := im_D.of (by decide +kernel)
theorem D68_19 {g : im_g} : im_D g 68 19 (.if_icmp .ge 7) 22 := im_D.of (by decide +kernel)
theorem D68_22 {g : im_g} : im_D g 68 22 (.iconst (-1)) 23 := im_D.of (by decide +kernel)
theorem D68_23 {g : im_g} : im_D g 68 23 (.goto 4) 26 := im_D.of (by decide +kernel)
theorem D68_26 {g : im_g} : im_D g 68 26 (.iconst 1) 27 := im_D.of (by decide +kernel)
theorem D68_27 {g : im_g} : im_D g 68 27 (.ireturn) 28 := im_D.of (by decide +kernel)
theorem D68_28 {g : im_g} : im_D g 68 28 (.aload_n 0) 29 := im_D.of (by decide +kernel)
theorem D68_29 {g : im_g} : im_D g 68 29 (.getfield 15) 32 := im_D.of (by decide +kernel)
theorem D68_32 {g : im_g} : im_D g 68 32 (.aload_n 0) 33 := im_D.of (by decide +kernel)
theorem D68_33 {g : im_g} : im_D g 68 33 (.aload_n 1) 34 := im_D.of (by decide +kernel)
theorem D68_34 {g : im_g} : im_D g 68 34 (.invokevirtual 37) 37 := im_D.of (by decide +kernel)
theorem D68_37 {g : im_g} : im_D g 68 37 (.imul) 38 := im_D.of (by decide +kernel)
theorem D68_38 {g : im_g} : im_D g 68 38 (.ireturn) 39 := im_D.of (by decide +kernel)
theorem D69_0 {g : im_g} : im_D g 69 0 (.aload_n 0) 1 := im_D.of (by decide +kernel)
theorem D69_1 {g : im_g} : im_D g 69 1 (.getfield 19) 4 := im_D.of (by decide +kernel)
theorem D69_4 {g : im_g} : im_D g 69 4 (.aload_n 1) 5 := im_D.of (by decide +kernel)
theorem D69_5 {g : im_g} : im_D g 69 5 (.getfield 19) 8 := im_D.of (by decide +kernel)
theorem D69_8 {g : im_g} : im_D g 69 8 (.if_icmp .eq 20) 11 := im_D.of (by decide +kernel)
theorem D69_11 {g : im_g} : im_D g 69 11 (.aload_n 0) 12 := im_D.of (by decide +kernel)
theorem D69_12 {g : im_g} : im_D g 69 12 (.getfield 19) 15 := im_D.of (by decide +kernel)
theorem D69_15 {g : im_g} : im_D g 69 15 (.aload_n 1) 16 := im_D.of (by decide +kernel)
theorem D69_16 {g : im_g} : im_D g 69 16 (.getfield 19) 19 := im_D.of (by decide +kernel)
theorem D69_19 {g : im_g} : im_D g 69 19 (.if_icmp .ge 7) 22 := im_D.of (by decide +kernel)
theorem D69_22 {g : im_g} : im_D g 69 22 (.iconst (-1)) 23 := im_D.of (by decide +kernel)
theorem D69_23 {g : im_g} : im_D g 69 23 (.goto 4) 26 := im_D.of (by decide +kernel)
theorem D69_26 {g : im_g} : im_D g 69 26 (.iconst 1) 27 := im_D.of (by decide +kernel)
theorem D69_27 {g : im_g} : im_D g 69 27 (.ireturn) 28 := im_D.of (by decide +kernel)
theorem D69_28 {g : im_g} : im_D g 69 28 (.aload_n 0) 29 := im_D.of (by decide +kernel)
theorem D69_29 {g : im_g} : im_D g 69 29 (.getfield 19) 32 := im_D.of (by decide +kernel)
theorem D69_32 {g : im_g} : im_D g 69 32 (.iconst 1) 33 := im_D.of (by decide +kernel)
theorem D69_33 {g : im_g} : im_D g 69 33 (.isub) 34 := im_D.of (by decide +kernel)
theorem D69_34 {g : im_g} : im_D g 69 34 (.istore_n 2) 35 := im_D.of (by decide +kernel)
theorem D69_35 {g : im_g} : im_D g 69 35 (.iload_n 2) 36 := im_D.of (by decide +kernel)
theorem D69_36 {g : im_g} : im_D g 69 36 (.ifCond .lt 45) 39 := im_D.of (by decide +kernel)
theorem D69_39 {g : im_g} : im_D g 69 39 (.aload_n 0) 40 := im_D.of (by decide +kernel)
theorem D69_40 {g : im_g} : im_D g 69 40 (.getfield 9) 43 := im_D.of (by decide +kernel)
theorem D69_43 {g : im_g} : im_D g 69 43 (.iload_n 2) 44 := im_D.of (by decide +kernel)
theorem D69_44 {g : im_g} : im_D g 69 44 (.iaload) 45 := im_D.of (by decide +kernel)
theorem D69_45 {g : im_g} : im_D g 69 45 (.aload_n 1) 46 := im_D.of (by decide +kernel)
theorem D69_46 {g : im_g} : im_D g 69 46 (.getfield 9) 49 := im_D.of (by decide +kernel)
theorem D69_49 {g : im_g} : im_D g 69 49 (.iload_n 2) 50 := im_D.of (by decide +kernel)
theorem D69_50 {g : im_g} : im_D g 69 50 (.iaload) 51 := im_D.of (by decide +kernel)
theorem D69_51 {g : im_g} : im_D g 69 51 (.if_icmp .eq 24) 54 := im_D.of (by decide +kernel)
theorem D69_54 {g : im_g} : im_D g 69 54 (.aload_n 0) 55 := im_D.of (by decide +kernel)
theorem D69_55 {g : im_g} : im_D g 69 55 (.getfield 9) 58 := im_D.of (by decide +kernel)
theorem D69_58 {g : im_g} : im_D g 69 58 (.iload_n 2) 59 := im_D.of (by decide +kernel)
theorem D69_59 {g : im_g} : im_D g 69 59 (.iaload) 60 := im_D.of (by decide +kernel)
theorem D69_60 {g : im_g} : im_D g 69 60 (.aload_n 1) 61 := im_D.of (by decide +kernel)
theorem D69_61 {g : im_g} : im_D g 69 61 (.getfield 9) 64 := im_D.of (by decide +kernel)
theorem D69_64 {g : im_g} : im_D g 69 64 (.iload_n 2) 65 := im_D.of (by decide +kernel)
theorem D69_65 {g : im_g} : im_D g 69 65 (.iaload) 66 := im_D.of (by decide +kernel)
theorem D69_66 {g : im_g} : im_D g 69 66 (.if_icmp .ge 7) 69 := im_D.of (by decide +kernel)
theorem D69_69 {g : im_g} : im_D g 69 69 (.iconst (-1)) 70 := im_D.of (by decide +kernel)
theorem D69_70 {g : im_g} : im_D g 69 70 (.goto 4) 73 := im_D.of (by decide +kernel)
theorem D69_73 {g : im_g} : im_D g 69 73 (.iconst 1) 74 := im_D.of (by decide +kernel)
theorem D69_74 {g : im_g} : im_D g 69 74 (.ireturn) 75 := im_D.of (by decide +kernel)
theorem D69_75 {g : im_g} : im_D g 69 75 (.iinc 2 (-1)) 78 := im_D.of (by decide +kernel)
theorem D69_78 {g : im_g} : im_D g 69 78 (.goto (-43)) 81 := im_D.of (by decide +kernel)
theorem D69_81 {g : im_g} : im_D g 69 81 (.iconst 0) 82 := im_D.of (by decide +kernel)
theorem D69_82 {g : im_g} : im_D g 69 82 (.ireturn) 83 := im_D.of (by decide +kernel)
theorem D70_0 {g : im_g} : im_D g 70 0 (.aload_n 0) 1 := im_D.of (by decide +kernel)
theorem D70_1 {g : im_g} : im_D g 70 1 (.getfield 29) 4 := im_D.of (by decide +kernel)
theorem D70_4 {g : im_g} : im_D g 70 4 (.getfield 56) 7 := im_D.of (by decide +kernel)
theorem D70_7 {g : im_g} : im_D g 70 7 (.bipush 38) 9 := im_D.of (by decide +kernel)
theorem D70_9 {g : im_g} : im_D g 70 9 (.if_icmp .eq 5) 12 := im_D.of (by decide +kernel)
theorem D70_12 {g : im_g} : im_D g 70 12 (.iconst 4) 13 := im_D.of (by decide +kernel)
theorem D70_13 {g : im_g} : im_D g 70 13 (.ireturn) 14 := im_D.of (by decide +kernel)
theorem D70_14 {g : im_g} : im_D g 70 14 (.aload_n 0) 15 := im_D.of (by decide +kernel)
theorem D70_15 {g : im_g} : im_D g 70 15 (.getfield 15) 18 := im_D.of (by decide +kernel)
theorem D70_18 {g : im_g} : im_D g 70 18 (.aload_n 0) 19 := im_D.of (by decide +kernel)
theorem D70_19 {g : im_g} : im_D g 70 19 (.getfield 46) 22 := im_D.of (by decide +kernel)
theorem D70_22 {g : im_g} : im_D g 70 22 (.iconst 1) 23 := im_D.of (by decide +kernel)
theorem D70_23 {g : im_g} : im_D g 70 23 (.isub) 24 := im_D.of (by decide +kernel)
theorem D70_24 {g : im_g} : im_D g 70 24 (.dup2) 25 := im_D.of (by decide +kernel)
theorem D70_25 {g : im_g} : im_D g 70 25 (.iaload) 26 := im_D.of (by decide +kernel)
theorem D70_26 {g : im_g} : im_D g 70 26 (.iconst 1) 27 := im_D.of (by decide +kernel)
theorem D70_27 {g : im_g} : im_D g 70 27 (.isub) 28 := im_D.of (by decide +kernel)
theorem D70_28 {g : im_g} : im_D g 70 28 (.iastore) 29 := im_D.of (by decide +kernel)
theorem D70_29 {g : im_g} : im_D g 70 29 (.aload_n 0) 30 := im_D.of (by decide +kernel)
theorem D70_30 {g : im_g} : im_D g 70 30 (.getfield 15) 33 := im_D.of (by decide +kernel)
theorem D70_33 {g : im_g} : im_D g 70 33 (.aload_n 0) 34 := im_D.of (by decide +kernel)
theorem D70_34 {g : im_g} : im_D g 70 34 (.getfield 46) 37 := im_D.of (by decide +kernel)
theorem D70_37 {g : im_g} : im_D g 70 37 (.iconst 1) 38 := im_D.of (by decide +kernel)
theorem D70_38 {g : im_g} : im_D g 70 38 (.isub) 39 := im_D.of (by decide +kernel)
theorem D70_39 {g : im_g} : im_D g 70 39 (.iaload) 40 := im_D.of (by decide +kernel)
theorem D70_40 {g : im_g} : im_D g 70 40 (.ifCond .ne 13) 43 := im_D.of (by decide +kernel)
theorem D70_43 {g : im_g} : im_D g 70 43 (.aload_n 0) 44 := im_D.of (by decide +kernel)
theorem D70_44 {g : im_g} : im_D g 70 44 (.dup) 45 := im_D.of (by decide +kernel)
theorem D70_45 {g : im_g} : im_D g 70 45 (.getfield 46) 48 := im_D.of (by decide +kernel)
theorem D70_48 {g : im_g} : im_D g 70 48 (.iconst 1) 49 := im_D.of (by decide +kernel)
theorem D70_49 {g : im_g} : im_D g 70 49 (.isub) 50 := im_D.of (by decide +kernel)
theorem D70_50 {g : im_g} : im_D g 70 50 (.putfield 46) 53 := im_D.of (by decide +kernel)
theorem D70_53 {g : im_g} : im_D g 70 53 (.iconst 0) 54 := im_D.of (by decide +kernel)
theorem D70_54 {g : im_g} : im_D g 70 54 (.ireturn) 55 := im_D.of (by decide +kernel)
theorem D71_0 {g : im_g} : im_D g 71 0 (.aload_n 0) 1 := im_D.of (by decide +kernel)
theorem D71_1 {g : im_g} : im_D g 71 1 (.getfield 29) 4 := im_D.of (by decide +kernel)
theorem D71_4 {g : im_g} : im_D g 71 4 (.getfield 56) 7 := im_D.of (by decide +kernel)
theorem D71_7 {g : im_g} : im_D g 71 7 (.bipush 32) 9 := im_D.of (by decide +kernel)
theorem D71_9 {g : im_g} : im_D g 71 9 (.if_icmp .eq 17) 12 := im_D.of (by decide +kernel)
theorem D71_12 {g : im_g} : im_D g 71 12 (.aload_n 0) 13 := im_D.of (by decide +kernel)
theorem D71_13 {g : im_g} : im_D g 71 13 (.getfield 29) 16 := im_D.of (by decide +kernel)
theorem D71_16 {g : im_g} : im_D g 71 16 (.getfield 56) 19 := im_D.of (by decide +kernel)
theorem D71_19 {g : im_g} : im_D g 71 19 (.bipush 33) 21 := im_D.of (by decide +kernel)
theorem D71_21 {g : im_g} : im_D g 71 21 (.if_icmp .eq 5) 24 := im_D.of (by decide +kernel)
theorem D71_24 {g : im_g} : im_D g 71 24 (.iconst 4) 25 := im_D.of (by decide +kernel)
theorem D71_25 {g : im_g} : im_D g 71 25 (.ireturn) 26 := im_D.of (by decide +kernel)
theorem D71_26 {g : im_g} : im_D g 71 26 (.aload_n 0) 27 := im_D.of (by decide +kernel)
theorem D71_27 {g : im_g} : im_D g 71 27 (.dup) 28 := im_D.of (by decide +kernel)
theorem D71_28 {g : im_g} : im_D g 71 28 (.getfield 46) 31 := im_D.of (by decide +kernel)
theorem D71_31 {g : im_g} : im_D g 71 31 (.iconst 1) 32 := im_D.of (by decide +kernel)
theorem D71_32 {g : im_g} : im_D g 71 32 (.isub) 33 := im_D.of (by decide +kernel)
theorem D71_33 {g : im_g} : im_D g 71 33 (.putfield 46) 36 := im_D.of (by decide +kernel)
theorem D71_36 {g : im_g} : im_D g 71 36 (.aload_n 0) 37 := im_D.of (by decide +kernel)
theorem D71_37 {g : im_g} : im_D g 71 37 (.getfield 25) 40 := im_D.of (by decide +kernel)
theorem D71_40 {g : im_g} : im_D g 71 40 (.getfield 138) 43 := im_D.of (by decide +kernel)
theorem D71_43 {g : im_g} : im_D g 71 43 (.iload_n 1) 44 := im_D.of (by decide +kernel)
theorem D71_44 {g : im_g} : im_D g 71 44 (.aload_n 0) 45 := im_D.of (by decide +kernel)
theorem D71_45 {g : im_g} : im_D g 71 45 (.getfield 29) 48 := im_D.of (by decide +kernel)
theorem D71_48 {g : im_g} : im_D g 71 48 (.getfield 56) 51 := im_D.of (by decide +kernel)
theorem D71_51 {g : im_g} : im_D g 71 51 (.bipush 33) 53 := im_D.of (by decide +kernel)
theorem D71_53 {g : im_g} : im_D g 71 53 (.if_icmp .ne 7) 56 := im_D.of (by decide +kernel)
theorem D71_56 {g : im_g} : im_D g 71 56 (.iconst 1) 57 := im_D.of (by decide +kernel)
theorem D71_57 {g : im_g} : im_D g 71 57 (.goto 4) 60 := im_D.of (by decide +kernel)
theorem D71_60 {g : im_g} : im_D g 71 60 (.iconst 0) 61 := im_D.of (by decide +kernel)
theorem D71_61 {g : im_g} : im_D g 71 61 (.iastore) 62 := im_D.of (by decide +kernel)
theorem D71_62 {g : im_g} : im_D g 71 62 (.iconst 0) 63 := im_D.of (by decide +kernel)
theorem D71_63 {g : im_g} : im_D g 71 63 (.ireturn) 64 := im_D.of (by decide +kernel)
theorem D72_0 {g : im_g} : im_D g 72 0 (.aload_n 0) 1 := im_D.of (by decide +kernel)
theorem D72_1 {g : im_g} : im_D g 72 1 (.getfield 29) 4 := im_D.of (by decide +kernel)
theorem D72_4 {g : im_g} : im_D g 72 4 (.getfield 56) 7 := im_D.of (by decide +kernel)
theorem D72_7 {g : im_g} : im_D g 72 7 (.bipush 39) 9 := im_D.of (by decide +kernel)
theorem D72_9 {g : im_g} : im_D g 72 9 (.if_icmp .eq 5) 12 := im_D.of (by decide +kernel)
theorem D72_12 {g : im_g} : im_D g 72 12 (.iconst 4) 13 := im_D.of (by decide +kernel)
theorem D72_13 {g : im_g} : im_D g 72 13 (.ireturn) 14 := im_D.of (by decide +kernel)
theorem D72_14 {g : im_g} : im_D g 72 14 (.aload_n 0) 15 := im_D.of (by decide +kernel)
theorem D72_15 {g : im_g} : im_D g 72 15 (.dup) 16 := im_D.of (by decide +kernel)
theorem D72_16 {g : im_g} : im_D g 72 16 (.getfield 46) 19 := im_D.of (by decide +kernel)
theorem D72_19 {g : im_g} : im_D g 72 19 (.iconst 1) 20 := im_D.of (by decide +kernel)
theorem D72_20 {g : im_g} : im_D g 72 20 (.isub) 21 := im_D.of (by decide +kernel)
theorem D72_21 {g : im_g} : im_D g 72 21 (.putfield 46) 24 := im_D.of (by decide +kernel)
theorem D72_24 {g : im_g} : im_D g 72 24 (.iconst 0) 25 := im_D.of (by decide +kernel)
theorem D72_25 {g : im_g} : im_D g 72 25 (.ireturn) 26 := im_D.of (by decide +kernel)
theorem D73_0 {g : im_g} : im_D g 73 0 (.aload_n 0) 1 := im_D.of (by decide +kernel)
theorem D73_1 {g : im_g} : im_D g 73 1 (.getfield 29) 4 := im_D.of (by decide +kernel)
theorem D73_4 {g : im_g} : im_D g 73 4 (.getfield 56) 7 := im_D.of (by decide +kernel)
theorem D73_7 {g : im_g} : im_D g 73 7 (.bipush 36) 9 := im_D.of (by decide +kernel)
theorem D73_9 {g : im_g} : im_D g 73 9 (.if_icmp .eq 5) 12 := im_D.of (by decide +kernel)
theorem D73_12 {g : im_g} : im_D g 73 12 (.iconst 4) 13 := im_D.of (by decide +kernel)
theorem D73_13 {g : im_g} : im_D g 73 13 (.ireturn) 14 := im_D.of (by decide +kernel)
theorem D73_14 {g : im_g} : im_D g 73 14 (.aload_n 0) 15 := im_D.of (by decide +kernel)
theorem D73_15 {g : im_g} : im_D g 73 15 (.dup) 16 := im_D.of (by decide +kernel)
theorem D73_16 {g : im_g} : im_D g 73 16 (.getfield 46) 19 := im_D.of (by decide +kernel)
theorem D73_19 {g : im_g} : im_D g 73 19 (.iconst 1) 20 := im_D.of (by decide +kernel)
theorem D73_20 {g : im_g} : im_D g 73 20 (.isub) 21 := im_D.of (by decide +kernel)
theorem D73_21 {g : im_g} : im_D g 73 21 (.putfield 46) 24 := im_D.of (by decide +kernel)
theorem D73_24 {g : im_g} : im_D g 73 24 (.iload_n 1) 25 := im_D.of (by decide +kernel)
theorem D73_25 {g : im_g} : im_D g 73 25 (.lookupswitch 65 #[(49, 27), (50, 46)]) 26 := im_D.of (by decide +kernel)
theorem D73_52 {g : im_g} : im_D g 73 52 (.aload_n 0) 53 := im_D.of (by decide +kernel)
theorem D73_53 {g : im_g} : im_D g 73 53 (.getfield 25) 56 := im_D.of (by decide +kernel)
theorem D73_56 {g : im_g} : im_D g 73 56 (.getfield 144) 59 := im_D.of (by decide +kernel)
theorem D73_59 {g : im_g} : im_D g 73 59 (.iload_n 2) 60 := im_D.of (by decide +kernel)
theorem D73_60 {g : im_g} : im_D g 73 60 (.aload_n 0) 61 := im_D.of (by decide +kernel)
theorem D73_61 {g : im_g} : im_D g 73 61 (.getfield 29) 64 := im_D.of (by decide +kernel)
theorem D73_64 {g : im_g} : im_D g 73 64 (.getfield 148) 67 := im_D.of (by decide +kernel)
theorem D73_67 {g : im_g} : im_D g 73 67 (.lastore) 68 := im_D.of (by decide +kernel)
theorem D73_68 {g : im_g} : im_D g 73 68 (.goto 38) 71 := im_D.of (by decide +kernel)
theorem D73_71 {g : im_g} : im_D g 73 71 (.aload_n 0) 72 := im_D.of (by decide +kernel)
theorem D73_72 {g : im_g} : im_D g 73 72 (.getfield 25) 75 := im_D.of (by decide +kernel)
theorem D73_75 {g : im_g} : im_D g 73 75 (.getfield 165) 78 := im_D.of (by decide +kernel)
theorem D73_78 {g : im_g} : im_D g 73 78 (.iload_n 2) 79 := im_D.of (by decide +kernel)
theorem D73_79 {g : im_g} : im_D g 73 79 (.aload_n 0) 80 := im_D.of (by decide +kernel)
theorem D73_80 {g : im_g} : im_D g 73 80 (.getfield 29) 83 := im_D.of (by decide +kernel)
theorem D73_83 {g : im_g} : im_D g 73 83 (.getfield 148) 86 := im_D.of (by decide +kernel)
theorem D73_86 {g : im_g} : im_D g 73 86 (.lastore) 87 := im_D.of (by decide +kernel)
theorem D73_87 {g : im_g} : im_D g 73 87 (.goto 19) 90 := im_D.of (by decide +kernel)
theorem D73_90 {g : im_g} : im_D g 73 90 (.aload_n 0) 91 := im_D.of (by decide +kernel)
theorem D73_91 {g : im_g} : im_D g 73 91 (.getfield 25) 94 := im_D.of (by decide +kernel)
theorem D73_94 {g : im_g} : im_D g 73 94 (.getfield 168) 97 := im_D.of (by decide +kernel)
theorem D73_97 {g : im_g} : im_D g 73 97 (.iload_n 2) 98 := im_D.of (by decide +kernel)
theorem D73_98 {g : im_g} : im_D g 73 98 (.aload_n 0) 99 := im_D.of (by decide +kernel)
theorem D73_99 {g : im_g} : im_D g 73 99 (.getfield 29) 102 := im_D.of (by decide +kernel)
theorem D73_102 {g : im_g} : im_D g 73 102 (.getfield 148) 105 := im_D.of (by decide +kernel)
theorem D73_105 {g : im_g} : im_D g 73 105 (.lastore) 106 := im_D.of (by decide +kernel)
theorem D73_106 {g : im_g} : im_D g 73 106 (.iconst 0) 107 := im_D.of (by decide +kernel)
theorem D73_107 {g : im_g} : im_D g 73 107 (.ireturn) 108 := im_D.of (by decide +kernel)
theorem D74_0 {g : im_g} : im_D g 74 0 (.aload_n 0) 1 := im_D.of (by decide +kernel)
theorem D74_1 {g : im_g} : im_D g 74 1 (.invokevirtual 98) 4 := im_D.of (by decide +kernel)
theorem D74_4 {g : im_g} : im_D g 74 4 (.aload_n 0) 5 := im_D.of (by decide +kernel)
theorem D74_5 {g : im_g} : im_D g 74 5 (.getfield 63) 8 := im_D.of (by decide +kernel)
theorem D74_8 {g : im_g} : im_D g 74 8 (.ifCond .ge 9) 11 := im_D.of (by decide +kernel)
theorem D74_11 {g : im_g} : im_D g 74 11 (.aload_n 0) 12 := im_D.of (by decide +kernel)
theorem D74_12 {g : im_g} : im_D g 74 12 (.getfield 63) 15 := im_D.of (by decide +kernel)
theorem D74_15 {g : im_g} : im_D g 74 15 (.ineg) 16 := im_D.of (by decide +kernel)
theorem D74_16 {g : im_g} : im_D g 74 16 (.ireturn) 17 := im_D.of (by decide +kernel)
theorem D74_17 {g : im_g} : im_D g 74 17 (.aload_n 0) 18 := im_D.of (by decide +kernel)
theorem D74_18 {g : im_g} : im_D g 74 18 (.getfield 63) 21 := im_D.of (by decide +kernel)
theorem D74_21 {g : im_g} : im_D g 74 21 (.bipush 41) 23 := im_D.of (by decide +kernel)
theorem D74_23 {g : im_g} : im_D g 74 23 (.if_icmp .ne 7) 26 := im_D.of (by decide +kernel)
theorem D74_26 {g : im_g} : im_D g 74 26 (.iconst 0) 27 := im_D.of (by decide +kernel)
theorem D74_27 {g : im_g} : im_D g 74 27 (.goto 5) 30 := im_D.of (by decide +kernel)
theorem D74_30 {g : im_g} : im_D g 74 30 (.bipush 9) 32 := im_D.of (by decide +kernel)
theorem D74_32 {g : im_g} : im_D g 74 32 (.ireturn) 33 := im_D.of (by decide +kernel)
theorem D75_0 {g : im_g} : im_D g 75 0 (.aload_n 0) 1 := im_D.of (by decide +kernel)
theorem D75_1 {g : im_g} : im_D g 75 1 (.getfield 25) 4 := im_D.of (by decide +kernel)
theorem D75_4 {g : im_g} : im_D g 75 4 (.getfield 70) 7 := im_D.of (by decide +kernel)
theorem D75_7 {g : im_g} : im_D g 75 7 (.aload_n 0) 8 := im_D.of (by decide +kernel)
theorem D75_8 {g : im_g} : im_D g 75 8 (.getfield 39) 11 := im_D.of (by decide +kernel)
theorem D75_11 {g : im_g} : im_D g 75 11 (.iadd) 12 := im_D.of (by decide +kernel)
theorem D75_12 {g : im_g} : im_D g 75 12 (.istore_n 1) 13 := im_D.of (by decide +kernel)
theorem D75_13 {g : im_g} : im_D g 75 13 (.iload_n 1) 14 := im_D.of (by decide +kernel)
theorem D75_14 {g : im_g} : im_D g 75 14 (.iconst 1) 15 := im_D.of (by decide +kernel)
theorem D75_15 {g : im_g} : im_D g 75 15 (.isub) 16 := im_D.of (by decide +kernel)
theorem D75_16 {g : im_g} : im_D g 75 16 (.istore_n 2) 17 := im_D.of (by decide +kernel)
theorem D75_17 {g : im_g} : im_D g 75 17 (.iload_n 2) 18 := im_D.of (by decide +kernel)
theorem D75_18 {g : im_g} : im_D g 75 18 (.aload_n 0) 19 := im_D.of (by decide +kernel)
theorem D75_19 {g : im_g} : im_D g 75 19 (.getfield 25) 22 := im_D.of (by decide +kernel)
theorem D75_22 {g : im_g} : im_D g 75 22 (.getfield 70) 25 := im_D.of (by decide +kernel)
theorem D75_25 {g : im_g} : im_D g 75 25 (.if_icmp .lt 74) 28 := im_D.of (by decide +kernel)
theorem D75_28 {g : im_g} : im_D g 75 28 (.iload_n 2) 29 := im_D.of (by decide +kernel)
theorem D75_29 {g : im_g} : im_D g 75 29 (.iconst 1) 30 := im_D.of (by decide +kernel)
theorem D75_30 {g : im_g} : im_D g 75 30 (.iadd) 31 := im_D.of (by decide +kernel)
theorem D75_31 {g : im_g} : im_D g 75 31 (.istore_n 3) 32 := im_D.of (by decide +kernel)
theorem D75_32 {g : im_g} : im_D g 75 32 (.iload_n 2) 33 := im_D.of (by decide +kernel)
theorem D75_33 {g : im_g} : im_D g 75 33 (.istore 4) 35 := im_D.of (by decide +kernel)
theorem D75_35 {g : im_g} : im_D g 75 35 (.iload 4) 37 := im_D.of (by decide +kernel)
theorem D75_37 {g : im_g} : im_D g 75 37 (.iload_n 1) 38 := im_D.of (by decide +kernel)
theorem D75_38 {g : im_g} : im_D g 75 38 (.if_icmp .ge 45) 41 := im_D.of (by decide +kernel)
theorem D75_41 {g : im_g} : im_D g 75 41 (.iload_n 3) 42 := im_D.of (by decide +kernel)
theorem D75_42 {g : im_g} : im_D g 75 42 (.iload_n 1) 43 := im_D.of (by decide +kernel)
theorem D75_43 {g : im_g} : im_D g 75 43 (.if_icmp .ge 40) 46 := im_D.of (by decide +kernel)
theorem D75_46 {g : im_g} : im_D g 75 46 (.aload_n 0) 47 := im_D.of (by decide +kernel)
theorem D75_47 {g : im_g} : im_D g 75 47 (.getfield 25) 50 := im_D.of (by decide +kernel)
theorem D75_50 {g : im_g} : im_D g 75 50 (.getfield 156) 53 := im_D.of (by decide +kernel)
theorem D75_53 {g : im_g} : im_D g 75 53 (.iload_n 3) 54 := im_D.of (by decide +kernel)
theorem D75_54 {g : im_g} : im_D g 75 54 (.iaload) 55 := im_D.of (by decide +kernel)
theorem D75_55 {g : im_g} : im_D g 75 55 (.aload_n 0) 56 := im_D.of (by decide +kernel)
theorem D75_56 {g : im_g} : im_D g 75 56 (.getfield 25) 59 := im_D.of (by decide +kernel)
theorem D75_59 {g : im_g} : im_D g 75 59 (.getfield 156) 62 := im_D.of (by decide +kernel)
theorem D75_62 {g : im_g} : im_D g 75 62 (.iload_n 2) 63 := im_D.of (by decide +kernel)
theorem D75_63 {g : im_g} : im_D g 75 63 (.iaload) 64 := im_D.of (by decide +kernel)
theorem D75_64 {g : im_g} : im_D g 75 64 (.if_icmp .le 19) 67 := im_D.of (by decide +kernel)
theorem D75_67 {g : im_g} : im_D g 75 67 (.aload_n 0) 68 := im_D.of (by decide +kernel)
theorem D75_68 {g : im_g} : im_D g 75 68 (.getfield 25) 71 := im_D.of (by decide +kernel)
theorem D75_71 {g : im_g} : im_D g 75 71 (.getfield 194) 74 := im_D.of (by decide +kernel)
theorem D75_74 {g : im_g} : im_D g 75 74 (.iload_n 3) 75 := im_D.of (by decide +kernel)
theorem D75_75 {g : im_g} : im_D g 75 75 (.iaload) 76 := im_D.of (by decide +kernel)
theorem D75_76 {g : im_g} : im_D g 75 76 (.istore_n 3) 77 := im_D.of (by decide +kernel)
theorem D75_77 {g : im_g} : im_D g 75 77 (.iinc 4 1) 80 := im_D.of (by decide +kernel)
theorem D75_80 {g : im_g} : im_D g 75 80 (.goto (-45)) 83 := im_D.of (by decide +kernel)
theorem D75_83 {g : im_g} : im_D g 75 83 (.aload_n 0) 84 := im_D.of (by decide +kernel)
theorem D75_84 {g : im_g} : im_D g 75 84 (.getfield 25) 87 := im_D.of (by decide +kernel)
theorem D75_87 {g : im_g} : im_D g 75 87 (.getfield 194) 90 := im_D.of (by decide +kernel)
theorem D75_90 {g : im_g} : im_D g 75 90 (.iload_n 2) 91 := im_D.of (by decide +kernel)
theorem D75_91 {g : im_g} : im_D g 75 91 (.iload_n 3) 92 := im_D.of (by decide +kernel)
theorem D75_92 {g : im_g} : im_D g 75 92 (.iastore) 93 := im_D.of (by decide +kernel)
theorem D75_93 {g : im_g} : im_D g 75 93 (.iinc 2 (-1)) 96 := im_D.of (by decide +kernel)
theorem D75_96 {g : im_g} : im_D g 75 96 (.goto (-79)) 99 := im_D.of (by decide +kernel)
theorem D75_99 {g : im_g} : im_D g 75 99 (.return_) 100 := im_D.of (by decide +kernel)
theorem D76_0 {g : im_g} : im_D g 76 0 (.aload_n 0) 1 := im_D.of (by decide +kernel)
theorem D76_1 {g : im_g} : im_D g 76 1 (.iload_n 1) 2 := im_D.of (by decide +kernel)
theorem D76_2 {g : im_g} : im_D g 76 2 (.putfield 26) 5 := im_D.of (by decide +kernel)
theorem D76_5 {g : im_g} : im_D g 76 5 (.aload_n 0) 6 := im_D.of (by decide +kernel)
theorem D76_6 {g : im_g} : im_D g 76 6 (.iload_n 1) 7 := im_D.of (by decide +kernel)
theorem D76_7 {g : im_g} : im_D g 76 7 (.ifCond .ne 7) 10 := im_D.of (by decide +kernel)
theorem D76_10 {g : im_g} : im_D g 76 10 (.iconst (-1)) 11 := im_D.of (by decide +kernel)
theorem D76_11 {g : im_g} : im_D g 76 11 (.goto 7) 14 := im_D.of (by decide +kernel)
theorem D76_14 {g : im_g} : im_D g 76 14 (.aload_n 0) 15 := im_D.of (by decide +kernel)
theorem D76_15 {g : im_g} : im_D g 76 15 (.getfield 45) 18 := im_D.of (by decide +kernel)
theorem D76_18 {g : im_g} : im_D g 76 18 (.putfield 30) 21 := im_D.of (by decide +kernel)
theorem D76_21 {g : im_g} : im_D g 76 21 (.iload_n 1) 22 := im_D.of (by decide +kernel)
theorem D76_22 {g : im_g} : im_D g 76 22 (.ifCond .eq 7) 25 := im_D.of (by decide +kernel)
theorem D76_25 {g : im_g} : im_D g 76 25 (.iconst 1) 26 := im_D.of (by decide +kernel)
theorem D76_26 {g : im_g} : im_D g 76 26 (.goto 4) 29 := im_D.of (by decide +kernel)
theorem D76_29 {g : im_g} : im_D g 76 29 (.iconst 0) 30 := im_D.of (by decide +kernel)
theorem D76_30 {g : im_g} : im_D g 76 30 (.ireturn) 31 := im_D.of (by decide +kernel)
theorem D77_0 {g : im_g} : im_D g 77 0 (.aload_n 0) 1 := im_D.of (by decide +kernel)
theorem D77_1 {g : im_g} : im_D g 77 1 (.getfield 417) 4 := im_D.of (by decide +kernel)
theorem D77_4 {g : im_g} : im_D g 77 4 (.ifCond .eq 5) 7 := im_D.of (by decide +kernel)
theorem D77_7 {g : im_g} : im_D g 77 7 (.iconst 0) 8 := im_D.of (by decide +kernel)
theorem D77_8 {g : im_g} : im_D g 77 8 (.ireturn) 9 := im_D.of (by decide +kernel)
theorem D77_9 {g : im_g} : im_D g 77 9 (.aload_n 0) 10 := im_D.of (by decide +kernel)
theorem D77_10 {g : im_g} : im_D g 77 10 (.getfield 113) 13 := im_D.of (by decide +kernel)
theorem D77_13 {g : im_g} : im_D g 77 13 (.iload_n 1) 14 := im_D.of (by decide +kernel)
theorem D77_14 {g : im_g} : im_D g 77 14 (.iload 8) 16 := im_D.of (by decide +kernel)
theorem D77_16 {g : im_g} : im_D g 77 16 (.invokevirtual 453) 19 := im_D.of (by decide +kernel)
theorem D77_19 {g : im_g} : im_D g 77 19 (.ifCond .ne 6) 22 := im_D.of (by decide +kernel)
theorem D77_22 {g : im_g} : im_D g 77 22 (.bipush (-10)) 24 := im_D.of (by decide +kernel)
theorem D77_24 {g : im_g} : im_D g 77 24 (.ireturn) 25 := im_D.of (by decide +kernel)
theorem D77_25 {g : im_g} : im_D g 77 25 (.aload_n 0) 26 := im_D.of (by decide +kernel)
theorem D77_26 {g : im_g} : im_D g 77 26 (.getfield 113) 29 := im_D.of (by decide +kernel)
theorem D77_29 {g : im_g} : im_D g 77 29 (.iload_n 1) 30 := im_D.of (by decide +kernel)
theorem D77_30 {g : im_g} : im_D g 77 30 (.lload_n 2) 31 := im_D.of (by decide +kernel)
theorem D77_31 {g : im_g} : im_D g 77 31 (.lload 4) 33 := im_D.of (by decide +kernel)
theorem D77_33 {g : im_g} : im_D g 77 33 (.lload 6) 35 := im_D.of (by decide +kernel)
theorem D77_35 {g : im_g} : im_D g 77 35 (.aload_n 0) 36 := im_D.of (by decide +kernel)
theorem D77_36 {g : im_g} : im_D g 77 36 (.getfield 9) 39 := im_D.of (by decide +kernel)
theorem D77_39 {g : im_g} : im_D g 77 39 (.iload 8) 41 := im_D.of (by decide +kernel)
theorem D77_41 {g : im_g} : im_D g 77 41 (.invokevirtual 457) 44 := im_D.of (by decide +kernel)
theorem D77_44 {g : im_g} : im_D g 77 44 (.ifCond .eq 7) 47 := im_D.of (by decide +kernel)
theorem D77_47 {g : im_g} : im_D g 77 47 (.iconst 0) 48 := im_D.of (by decide +kernel)
theorem D77_48 {g : im_g} : im_D g 77 48 (.goto 5) 51 := im_D.of (by decide +kernel)
theorem D77_51 {g : im_g} : im_D g 77 51 (.bipush (-103)) 53 := im_D.of (by decide +kernel)
theorem D77_53 {g : im_g} : im_D g 77 53 (.ireturn) 54 := im_D.of (by decide +kernel)
theorem D78_0 {g : im_g} : im_D g 78 0 (.aload_n 0) 1 := im_D.of (by decide +kernel)
theorem D78_1 {g : im_g} : im_D g 78 1 (.getfield 19) 4 := im_D.of (by decide +kernel)
theorem D78_4 {g : im_g} : im_D g 78 4 (.iload_n 1) 5 := im_D.of (by decide +kernel)
theorem D78_5 {g : im_g} : im_D g 78 5 (.iload_n 2) 6 := im_D.of (by decide +kernel)
theorem D78_6 {g : im_g} : im_D g 78 6 (.invokestatic 33) 9 := im_D.of (by decide +kernel)
theorem D78_9 {g : im_g} : im_D g 78 9 (.iadd) 10 := im_D.of (by decide +kernel)
theorem D78_10 {g : im_g} : im_D g 78 10 (.sipush 16384) 13 := im_D.of (by decide +kernel)
theorem D78_13 {g : im_g} : im_D g 78 13 (.if_icmp .gt 7) 16 := im_D.of (by decide +kernel)
theorem D78_16 {g : im_g} : im_D g 78 16 (.iconst 1) 17 := im_D.of (by decide +kernel)
theorem D78_17 {g : im_g} : im_D g 78 17 (.goto 4) 20 := im_D.of (by decide +kernel)
theorem D78_20 {g : im_g} : im_D g 78 20 (.iconst 0) 21 := im_D.of (by decide +kernel)
theorem D78_21 {g : im_g} : im_D g 78 21 (.ireturn) 22 := im_D.of (by decide +kernel)
set_option maxRecDepth 20000 in
set_option maxHeartbeats 4000000 in
theorem k_Parser_isTooMuch_0 {g : im_g} {d : Nat} {e : im_E} {M : im_M} {K : im_K} {p1 : Int} (hd : 1 ≤ d) (hP : im_T g (d - 1) 55 0 [some (.ref 23), some (vI p1)] [] e M (im_ri (fun x2 e_ M1 => e = e_ ∧ (im_i32 x2) ∧ ((((x2 ≤ 100 → (((M1 23 7) < 1000 → (im_i32 ((M1 13 8) + (M1 23 7))) ∧ ((((M1 13 8) + (M1 23 7)) < 5000 → K (.inl (some (vI 0))) e M1))))))) ∧ ((((100 < x2)) ∨ ((x2 ≤ 100) ∧ (1000 ≤ (M1 23 7))) ∨ ((x2 ≤ 100) ∧ ((M1 23 7) < 1000) ∧ (5000 ≤ ((M1 13 8) + (M1 23 7))))) → K (.inl (some (vI 1))) e M1))))) : im_T g d 54 0 [some (.ref 23), some (vI p1)] [] e M K := by
  refine im_ld (q := 1) (i := 0) D54_0 rfl rfl rfl ?_
  refine im_ld (q := 2) (i := 1) D54_1 rfl rfl rfl ?_
  refine im_callV (q := 5) (kd := 1) (y := 55) (n := 1) (ci := 4) (a := 23) (vs := [.ref 23, vI p1]) (r := []) (L2 := [some (.ref 23), some (vI p1)]) D54_2 (im_cal cn_54 cl_4_159) (Or.inl rfl) rfl sf_23 rfl rfl rfl rfl hd ⟨rfl, rfl, trivial⟩ ?_
  refine hP.mono ?_
  rintro _ e14 M1 ⟨x2, rfl, rfl, hP⟩
  refine im_bkS ?_
  refine im_bipush (q := 7) D54_5 rfl ?_
  obtain ⟨hg3, hP⟩ := hP
  obtain ⟨hP, hJ11⟩ := hP
  have kJ12 : (((100 < x2)) ∨ ((x2 ≤ 100) ∧ (1000 ≤ (M1 23 7))) ∨ ((x2 ≤ 100) ∧ ((M1 23 7) < 1000) ∧ (5000 ≤ ((M1 13 8) + (M1 23 7))))) → im_T g d 54 43 [none, none] [] e M1 K := by
    intro  hx13
    have hP := hJ11  hx13
    refine im_iconst (q := 44) D54_43 ?_
    refine im_goto (q := 47) (t := 48) D54_44 rfl ?_
    exact im_zret (q := 49) D54_48 rfl (by decide) hP
  refine im_icmp (q := 10) (t := 43) D54_7 rfl hg3 (by decide) (fun hc4 => ?_) (fun hc4 => ?_)
  · exact (kJ12  (Or.inl hc4)).wk trivial
  · replace hP := hP (Int.not_lt.mp hc4)
    refine im_ld (q := 11) (i := 0) D54_10 rfl rfl rfl ?_
    refine im_rng (j := 7) sf_23 (by decide) (by decide) (fun hr5 => ?_)
    refine im_gfI (q := 14) D54_11 (im_fl cn_54 fl_4_39) sf_23 rfl rfl tI_4_7 rfl ?_
    refine im_sipush (q := 17) D54_14 rfl ?_
    refine im_icmp (q := 20) (t := 43) D54_17 rfl hr5 (by decide) (fun hc6 => ?_) (fun hc6 => ?_)
    · exact (kJ12  (Or.inr (Or.inl ⟨(Int.not_lt.mp hc4), hc6⟩))).wk trivial
    · replace hP := hP (Int.not_le.mp hc6)
      refine im_ld (q := 21) (i := 0) D54_20 rfl rfl rfl ?_
      refine im_gfR (q := 24) (b := 13) D54_21 (im_fl cn_54 fl_4_25) sf_23 rfl rfl tR_4_0 rfl ?_
      refine im_rng (j := 8) sf_13 (by decide) (by decide) (fun hr7 => ?_)
      refine im_gfI (q := 27) D54_24 (im_fl cn_54 fl_4_70) sf_13 rfl rfl tI_5_8 rfl ?_
      refine im_ld (q := 28) (i := 0) D54_27 rfl rfl rfl ?_
      refine im_gfI (q := 31) D54_28 (im_fl cn_54 fl_4_39) sf_23 rfl rfl tI_4_7 rfl ?_
      refine im_iadd (q := 32) D54_31 ?_
      refine im_ld (q := 33) (i := 0) D54_32 rfl rfl rfl ?_
      refine im_gfR (q := 36) (b := 13) D54_33 (im_fl cn_54 fl_4_25) sf_23 rfl rfl tR_4_0 rfl ?_
      refine im_gfR (q := 39) (b := 14) D54_36 (im_fl cn_54 fl_4_78) sf_13 rfl rfl tR_5_0 rfl ?_
      refine im_alen (q := 40) D54_39 sf_14 (by decide) ?_
      obtain ⟨hg9, hP⟩ := hP
      refine im_icmp (q := 43) (t := 47) D54_40 rfl hg9 (by decide) (fun hc10 => ?_) (fun hc10 => ?_)
      · replace hP := hP hc10
        refine im_iconst (q := 48) D54_47 ?_
        exact im_zret (q := 49) D54_48 rfl (by decide) hP
      · exact (kJ12  (Or.inr (Or.inr ⟨(Int.not_lt.mp hc4), (Int.not_le.mp hc6), (Int.not_lt.mp hc10)⟩))).wk trivial
set_option maxRecDepth 20000 in
set_option maxHeartbeats 4000000 in
theorem k_Parser_deepIn_0 {g : im_g} {d : Nat} {e : im_E} {M : im_M} {K : im_K} {p1 : Int} (hP : (im_i32 p1) ∧ ((((¬ p1 = (-1) → (0 ≤ p1 ∧ p1 < 5000)))) ∧ (∀ x5 : Int, (((¬ p1 = (-1)) ∧ x5 = ((M 16 p1) + 1)) ∨ ((p1 = (-1)) ∧ x5 = 0)) → K (.inl (some (vI x5))) e M))) : im_T g d 55 0 [some (.ref 23), some (vI p1)] [] e M K := by
  refine im_ld (q := 1) (i := 1) D55_0 rfl rfl rfl ?_
  refine im_iconst (q := 2) D55_1 ?_
  obtain ⟨hg1, hP⟩ := hP
  obtain ⟨hP, hJ6⟩ := hP
  have kJ7 : ∀ x5 : Int, (((¬ p1 = (-1)) ∧ x5 = ((M 16 p1) + 1)) ∨ ((p1 = (-1)) ∧ x5 = 0)) → im_T g d 55 20 [none, none] [vI x5] e M K := by
    intro x5 hx8
    have hP := hJ6 x5 hx8
    exact im_iret (q := 21) D55_20 rfl hP
  refine im_icmp (q := 5) (t := 9) D55_2 rfl hg1 (by decide) (fun hc2 => ?_) (fun hc2 => ?_)
  · replace hP := hP hc2
    refine im_ld (q := 10) (i := 0) D55_9 rfl rfl rfl ?_
    refine im_gfR (q := 13) (b := 13) D55_10 (im_fl cn_55 fl_4_25) sf_23 rfl rfl tR_4_0 rfl ?_
    refine im_gfR (q := 16) (b := 16) D55_13 (im_fl cn_55 fl_4_156) sf_13 rfl rfl tR_5_2 rfl ?_
    refine im_ld (q := 17) (i := 1) D55_16 rfl rfl rfl ?_
    have hg3 := hP
    refine im_rng (j := p1) sf_16 hg3.1 hg3.2 (fun hr4 => ?_)
    refine im_iald (q := 18) D55_17 sf_16 hg3.1 hg3.2 (by decide) rfl ?_
    refine im_iconst (q := 19) D55_18 ?_
    refine im_iadd (q := 20) D55_19 ?_
    exact (kJ7 (((M 16 p1) + 1)) (Or.inl ⟨hc2, rfl⟩)).wk trivial
  · refine im_iconst (q := 6) D55_5 ?_
    refine im_goto (q := 9) (t := 20) D55_6 rfl ?_
    exact (kJ7 (0) (Or.inr ⟨(Decidable.not_not.mp hc2), rfl⟩)).wk trivial
set_option maxRecDepth 20000 in
set_option maxHeartbeats 4000000 in
theorem k_Parser_addNode_0 {g : im_g} {d : Nat} {e : im_E} {M : im_M} {K : im_K} {p1 p2 : Int} (hd : 1 ≤ d) (hP : (im_i32 ((M 23 7) + 1)) ∧ (0 ≤ ((M 13 8) + (M 23 7)) ∧ ((M 13 8) + (M 23 7)) < 5000) ∧ (im_i32 p1) ∧ im_T g (d - 1) 55 0 [some (.ref 23), some (vI p2)] [] e (im_u (im_u M 23 7 ((M 23 7) + 1)) 14 ((M 13 8) + (M 23 7)) p1) (im_ri (fun x8 e_ M7 => e = e_ ∧ (im_i32 x8) ∧ (im_i32 p2) ∧ ((((¬ p2 = (-1) → (0 ≤ p2 ∧ p2 < 5000)))) ∧ (∀ x14 : Int, (((¬ p2 = (-1)) ∧ x14 = (M7 17 p2)) ∨ ((p2 = (-1)) ∧ x14 = 0)) → ((∀ x19 : Int, (((¬ p1 = 3) ∧ x19 = 0) ∨ ((p1 = 3) ∧ x19 = 1)) → (im_i32 (x14 + x19)) ∧ K (.inl (some (vI ((M 13 8) + (M 23 7))))) e (im_u (im_u (im_u (im_u (im_u (im_u M7 16 ((M 13 8) + (M 23 7)) x8) 17 ((M 13 8) + (M 23 7)) (x14 + x19)) 18 ((M 13 8) + (M 23 7)) 0) 19 ((M 13 8) + (M 23 7)) 0) 20 ((M 13 8) + (M 23 7)) 0) 21 ((M 13 8) + (M 23 7)) 0)))))))) : im_T g d 56 0 [some (.ref 23), some (vI p1), some (vI p2), none] [] e M K := by
  refine im_ld (q := 1) (i := 0) D56_0 rfl rfl rfl ?_
  refine im_gfR (q := 4) (b := 13) D56_1 (im_fl cn_56 fl_4_25) sf_23 rfl rfl tR_4_0 rfl ?_
  refine im_rng (j := 8) sf_13 (by decide) (by decide) (fun hr1 => ?_)
  refine im_gfI (q := 7) D56_4 (im_fl cn_56 fl_4_70) sf_13 rfl rfl tI_5_8 rfl ?_
  refine im_ld (q := 8) (i := 0) D56_7 rfl rfl rfl ?_
  refine im_rng (j := 7) sf_23 (by decide) (by decide) (fun hr2 => ?_)
  refine im_gfI (q := 11) D56_8 (im_fl cn_56 fl_4_39) sf_23 rfl rfl tI_4_7 rfl ?_
  refine im_iadd (q := 12) D56_11 ?_
  refine im_st1 (q := 13) (i := 3) (L' := [some (.ref 23), some (vI p1), some (vI p2), some (vI ((M 13 8) + (M 23 7)))]) D56_12 (Or.inl ⟨_, rfl, rfl⟩) (Nat.le_of_ble_eq_true rfl) rfl ?_
  refine im_ld (q := 14) (i := 0) D56_13 rfl rfl rfl ?_
  refine im_dup (q := 15) D56_14 rfl ?_
  refine im_gfI (q := 18) D56_15 (im_fl cn_56 fl_4_39) sf_23 rfl rfl tI_4_7 rfl ?_
  refine im_iconst (q := 19) D56_18 ?_
  refine im_iadd (q := 20) D56_19 ?_
  obtain ⟨hg4, hP⟩ := hP
  refine im_pfI (q := 23) D56_20 (im_fl cn_56 fl_4_39) sf_23 rfl rfl ti_4_7 hg4 ?_
  refine im_ld (q := 24) (i := 0) D56_23 rfl rfl rfl ?_
  refine im_gfR (q := 27) (b := 13) D56_24 (im_fl cn_56 fl_4_25) sf_23 rfl rfl tR_4_0 rfl ?_
  refine im_gfR (q := 30) (b := 14) D56_27 (im_fl cn_56 fl_4_78) sf_13 rfl rfl tR_5_0 rfl ?_
  refine im_ld (q := 31) (i := 3) D56_30 rfl rfl rfl ?_
  refine im_ld (q := 32) (i := 1) D56_31 rfl rfl rfl ?_
  obtain ⟨hg5, hP⟩ := hP
  obtain ⟨hg6, hP⟩ := hP
  refine im_iast (q := 33) D56_32 sf_14 hg5.1 hg5.2 (by decide) hg6 ?_
  refine im_ld (q := 34) (i := 0) D56_33 rfl rfl rfl ?_
  refine im_gfR (q := 37) (b := 13) D56_34 (im_fl cn_56 fl_4_25) sf_23 rfl rfl tR_4_0 rfl ?_
  refine im_gfR (q := 40) (b := 16) D56_37 (im_fl cn_56 fl_4_156) sf_13 rfl rfl tR_5_2 rfl ?_
  refine im_ld (q := 41) (i := 3) D56_40 rfl rfl rfl ?_
  refine im_ld (q := 42) (i := 0) D56_41 rfl rfl rfl ?_
  refine im_ld (q := 43) (i := 2) D56_42 rfl rfl rfl ?_
  refine im_callV (q := 46) (kd := 1) (y := 55) (n := 1) (ci := 4) (a := 23) (vs := [.ref 23, vI p2]) (r := [vI ((M 13 8) + (M 23 7)), .ref 16]) (L2 := [some (.ref 23), some (vI p2)]) D56_43 (im_cal cn_56 cl_4_159) (Or.inl rfl) rfl sf_23 rfl rfl rfl rfl hd ⟨rfl, rfl, trivial⟩ ?_
  refine hP.mono ?_
  rintro _ e24 M7 ⟨x8, rfl, rfl, hP⟩
  refine im_bkS ?_
  obtain ⟨hg9, hP⟩ := hP
  refine im_iast (q := 47) D56_46 sf_16 hg5.1 hg5.2 (by decide) hg9 ?_
  refine im_ld (q := 48) (i := 0) D56_47 rfl rfl rfl ?_
  refine im_gfR (q := 51) (b := 13) D56_48 (im_fl cn_56 fl_4_25) sf_23 rfl rfl tR_4_0 rfl ?_
  refine im_gfR (q := 54) (b := 17) D56_51 (im_fl cn_56 fl_4_162) sf_13 rfl rfl tR_5_3 rfl ?_
  refine im_ld (q := 55) (i := 3) D56_54 rfl rfl rfl ?_
  refine im_ld (q := 56) (i := 2) D56_55 rfl rfl rfl ?_
  refine im_iconst (q := 57) D56_56 ?_
  obtain ⟨hg10, hP⟩ := hP
  obtain ⟨hP, hJ15⟩ := hP
  have kJ16 : ∀ x14 : Int, (((¬ p2 = (-1)) ∧ x14 = (M7 17 p2)) ∨ ((p2 = (-1)) ∧ x14 = 0)) → im_T g d 56 73 [some (.ref 23), some (vI p1), none, some (vI ((M 13 8) + (M 23 7)))] [vI x14, vI ((M 13 8) + (M 23 7)), .ref 17] e (im_u M7 16 ((M 13 8) + (M 23 7)) x8) K := by
    intro x14 hx17
    have hP := hJ15 x14 hx17
    refine im_ld (q := 74) (i := 1) D56_73 rfl rfl rfl ?_
    refine im_iconst (q := 75) D56_74 ?_
    have hJ20 := hP
    have kJ21 : ∀ x19 : Int, (((¬ p1 = 3) ∧ x19 = 0) ∨ ((p1 = 3) ∧ x19 = 1)) → im_T g d 56 83 [some (.ref 23), none, none, some (vI ((M 13 8) + (M 23 7)))] [vI x19, vI x14, vI ((M 13 8) + (M 23 7)), .ref 17] e (im_u M7 16 ((M 13 8) + (M 23 7)) x8) K := by
      intro x19 hx22
      have hP := hJ20 x19 hx22
      refine im_iadd (q := 84) D56_83 ?_
      obtain ⟨hg23, hP⟩ := hP
      refine im_iast (q := 85) D56_84 sf_17 hg5.1 hg5.2 (by decide) hg23 ?_
      refine im_ld (q := 86) (i := 0) D56_85 rfl rfl rfl ?_
      refine im_gfR (q := 89) (b := 13) D56_86 (im_fl cn_56 fl_4_25) sf_23 rfl rfl tR_4_0 rfl ?_
      refine im_gfR (q := 92) (b := 18) D56_89 (im_fl cn_56 fl_4_138) sf_13 rfl rfl tR_5_4 rfl ?_
      refine im_ld (q := 93) (i := 3) D56_92 rfl rfl rfl ?_
      refine im_iconst (q := 94) D56_93 ?_
      refine im_iast (q := 95) D56_94 sf_18 hg5.1 hg5.2 (by decide) (by decide) ?_
      refine im_ld (q := 96) (i := 0) D56_95 rfl rfl rfl ?_
      refine im_gfR (q := 99) (b := 13) D56_96 (im_fl cn_56 fl_4_25) sf_23 rfl rfl tR_4_0 rfl ?_
      refine im_gfR (q := 102) (b := 19) D56_99 (im_fl cn_56 fl_4_144) sf_13 rfl rfl tR_5_5 rfl ?_
      refine im_ld (q := 103) (i := 3) D56_102 rfl rfl rfl ?_
      refine im_lconst (q := 104) (z := 0) D56_103 rfl ?_
      refine im_last (q := 105) D56_104 sf_19 hg5.1 hg5.2 (by decide) (by decide) ?_
      refine im_ld (q := 106) (i := 0) D56_105 rfl rfl rfl ?_
      refine im_gfR (q := 109) (b := 13) D56_106 (im_fl cn_56 fl_4_25) sf_23 rfl rfl tR_4_0 rfl ?_
      refine im_gfR (q := 112) (b := 20) D56_109 (im_fl cn_56 fl_4_165) sf_13 rfl rfl tR_5_6 rfl ?_
      refine im_ld (q := 113) (i := 3) D56_112 rfl rfl rfl ?_
      refine im_lconst (q := 114) (z := 0) D56_113 rfl ?_
      refine im_last (q := 115) D56_114 sf_20 hg5.1 hg5.2 (by decide) (by decide) ?_
      refine im_ld (q := 116) (i := 0) D56_115 rfl rfl rfl ?_
      refine im_gfR (q := 119) (b := 13) D56_116 (im_fl cn_56 fl_4_25) sf_23 rfl rfl tR_4_0 rfl ?_
      refine im_gfR (q := 122) (b := 21) D56_119 (im_fl cn_56 fl_4_168) sf_13 rfl rfl tR_5_7 rfl ?_
      refine im_ld (q := 123) (i := 3) D56_122 rfl rfl rfl ?_
      refine im_lconst (q := 124) (z := 0) D56_123 rfl ?_
      refine im_last (q := 125) D56_124 sf_21 hg5.1 hg5.2 (by decide) (by decide) ?_
      refine im_ld (q := 126) (i := 3) D56_125 rfl rfl rfl ?_
      exact im_iret (q := 127) D56_126 rfl hP
    refine im_icmp (q := 78) (t := 82) D56_75 rfl hg6 (by decide) (fun hc18 => ?_) (fun hc18 => ?_)
    · refine im_iconst (q := 83) D56_82 ?_
      exact (kJ21 (0) (Or.inl ⟨hc18, rfl⟩)).wk ⟨rfl, rfl, trivial⟩
    · refine im_iconst (q := 79) D56_78 ?_
      refine im_goto (q := 82) (t := 83) D56_79 rfl ?_
      exact (kJ21 (1) (Or.inr ⟨(Decidable.not_not.mp hc18), rfl⟩)).wk ⟨rfl, rfl, trivial⟩
  refine im_icmp (q := 60) (t := 64) D56_57 rfl hg10 (by decide) (fun hc11 => ?_) (fun hc11 => ?_)
  · replace hP := hP hc11
    refine im_ld (q := 65) (i := 0) D56_64 rfl rfl rfl ?_
    refine im_gfR (q := 68) (b := 13) D56_65 (im_fl cn_56 fl_4_25) sf_23 rfl rfl tR_4_0 rfl ?_
    refine im_gfR (q := 71) (b := 17) D56_68 (im_fl cn_56 fl_4_162) sf_13 rfl rfl tR_5_3 rfl ?_
    refine im_ld (q := 72) (i := 2) D56_71 rfl rfl rfl ?_
    have hg12 := hP
    refine im_rng (j := p2) sf_17 hg12.1 hg12.2 (fun hr13 => ?_)
    refine im_iald (q := 73) D56_72 sf_17 hg12.1 hg12.2 (by decide) (im_rdn _ _ _ _ (by decide)) ?_
    exact (kJ16 ((M7 17 p2)) (Or.inl ⟨hc11, rfl⟩)).wk ⟨rfl, rfl, rfl, trivial⟩
  · refine im_iconst (q := 61) D56_60 ?_
    refine im_goto (q := 64) (t := 73) D56_61 rfl ?_
    exact (kJ16 (0) (Or.inr ⟨(Decidable.not_not.mp hc11), rfl⟩)).wk ⟨rfl, rfl, rfl, trivial⟩
set_option maxRecDepth 20000 in
set_option maxHeartbeats 4000000 in
theorem k_Parser_storeNumber_0 {g : im_g} {d : Nat} {e : im_E} {M : im_M} {K : im_K} (hd : 1 ≤ d) (hP : im_T g (d - 1) 58 0 [some (.ref 13), some (vI ((M 13 10) + (M 23 5))), some (.ref 5), none] [] e M (im_ri (fun x5 e_ M4 => e = e_ ∧ (im_i32 ((M 23 5) + x5)) ∧ K (.inl none) e (im_u M4 23 5 ((M 23 5) + x5))))) : im_T g d 57 0 [some (.ref 23)] [] e M K := by
  refine im_ld (q := 1) (i := 0) D57_0 rfl rfl rfl ?_
  refine im_dup (q := 2) D57_1 rfl ?_
  refine im_rng (j := 5) sf_23 (by decide) (by decide) (fun hr1 => ?_)
  refine im_gfI (q := 5) D57_2 (im_fl cn_57 fl_4_43) sf_23 rfl rfl tI_4_5 rfl ?_
  refine im_ld (q := 6) (i := 0) D57_5 rfl rfl rfl ?_
  refine im_gfR (q := 9) (b := 13) D57_6 (im_fl cn_57 fl_4_25) sf_23 rfl rfl tR_4_0 rfl ?_
  refine im_ld (q := 10) (i := 0) D57_9 rfl rfl rfl ?_
  refine im_gfR (q := 13) (b := 13) D57_10 (im_fl cn_57 fl_4_25) sf_23 rfl rfl tR_4_0 rfl ?_
  refine im_rng (j := 10) sf_13 (by decide) (by decide) (fun hr2 => ?_)
  refine im_gfI (q := 16) D57_13 (im_fl cn_57 fl_4_75) sf_13 rfl rfl tI_5_10 rfl ?_
  refine im_ld (q := 17) (i := 0) D57_16 rfl rfl rfl ?_
  refine im_gfI (q := 20) D57_17 (im_fl cn_57 fl_4_43) sf_23 rfl rfl tI_4_5 rfl ?_
  refine im_iadd (q := 21) D57_20 ?_
  refine im_ld (q := 22) (i := 0) D57_21 rfl rfl rfl ?_
  refine im_gfR (q := 25) (b := 2) D57_22 (im_fl cn_57 fl_4_29) sf_23 rfl rfl tR_4_1 rfl ?_
  refine im_gfR (q := 28) (b := 5) D57_25 (im_fl cn_57 fl_4_171) sf_2 rfl rfl tR_6_7 rfl ?_
  refine im_callV (q := 31) (kd := 1) (y := 58) (n := 2) (ci := 5) (a := 13) (vs := [.ref 13, vI ((M 13 10) + (M 23 5)), .ref 5]) (r := [vI (M 23 5), .ref 23]) (L2 := [some (.ref 13), some (vI ((M 13 10) + (M 23 5))), some (.ref 5), none]) D57_28 (im_cal cn_57 cl_4_174) (Or.inl rfl) rfl sf_13 rfl rfl rfl rfl hd ⟨rfl, rfl, rfl, trivial⟩ ?_
  refine hP.mono ?_
  rintro _ e7 M4 ⟨x5, rfl, rfl, hP⟩
  refine im_bkS ?_
  refine im_iadd (q := 32) D57_31 ?_
  obtain ⟨hg6, hP⟩ := hP
  refine im_pfI (q := 35) D57_32 (im_fl cn_57 fl_4_43) sf_23 rfl rfl ti_4_5 hg6 ?_
  exact im_vret (q := 36) D57_35 rfl hP
set_option maxRecDepth 20000 in
set_option maxHeartbeats 4000000 in
theorem k_Pool_store_0 {g : im_g} {d : Nat} {e : im_E} {M : im_M} {K : im_K} {p1 : Int} {p2 : Nat} (hp2 : im_num e p2) (hP : (im_i32 p1) ∧ ((((0 ≤ p1 → (im_i32 (p1 + (M p2 1))) ∧ (((p1 + (M p2 1)) < 32836 → (0 ≤ p1 ∧ p1 < 32836) ∧ (im_i32 ((M p2 0) * (M p2 1))) ∧ im_T g d 58 37 [some (.ref 13), some (vI p1), some (.ref p2), some (vI 0)] [] e (im_u M 22 p1 ((M p2 0) * (M p2 1))) K))))) ∧ ((((p1 < 0)) ∨ ((0 ≤ p1) ∧ (32836 ≤ (p1 + (M p2 1))))) → K (.inl (some (vI 0))) e M))) : im_T g d 58 0 [some (.ref 13), some (vI p1), some (.ref p2), none] [] e M K := by
  refine im_ld (q := 1) (i := 1) D58_0 rfl rfl rfl ?_
  obtain ⟨hg1, hP⟩ := hP
  obtain ⟨hP, hJ8⟩ := hP
  have kJ9 : (((p1 < 0)) ∨ ((0 ≤ p1) ∧ (32836 ≤ (p1 + (M p2 1))))) → im_T g d 58 18 [none, none, none, none] [] e M K := by
    intro  hx10
    have hP := hJ8  hx10
    refine im_iconst (q := 19) D58_18 ?_
    exact im_iret (q := 20) D58_19 rfl hP
  refine im_ifc (q := 4) (t := 18) D58_1 rfl hg1 (fun hc2 => ?_) (fun hc2 => ?_)
  · exact (kJ9  (Or.inl hc2)).wk trivial
  · replace hP := hP (Int.not_lt.mp hc2)
    refine im_ld (q := 5) (i := 1) D58_4 rfl rfl rfl ?_
    refine im_ld (q := 6) (i := 2) D58_5 rfl rfl rfl ?_
    refine im_rng (j := 1) hp2.1 (by decide) (show (1 : Int) < ((3 : Nat) : Int) by decide) (fun hr3 => ?_)
    refine im_gfI (q := 9) D58_6 (im_fl cn_58 fl_5_48) hp2.1 rfl rfl tI_3_1 rfl ?_
    refine im_iadd (q := 10) D58_9 ?_
    refine im_ld (q := 11) (i := 0) D58_10 rfl rfl rfl ?_
    refine im_gfR (q := 14) (b := 22) D58_11 (im_fl cn_58 fl_5_38) sf_13 rfl rfl tR_5_9 rfl ?_
    refine im_alen (q := 15) D58_14 sf_22 (by decide) ?_
    obtain ⟨hg4, hP⟩ := hP
    refine im_icmp (q := 18) (t := 20) D58_15 rfl hg4 (by decide) (fun hc5 => ?_) (fun hc5 => ?_)
    · replace hP := hP hc5
      refine im_ld (q := 21) (i := 0) D58_20 rfl rfl rfl ?_
      refine im_gfR (q := 24) (b := 22) D58_21 (im_fl cn_58 fl_5_38) sf_13 rfl rfl tR_5_9 rfl ?_
      refine im_ld (q := 25) (i := 1) D58_24 rfl rfl rfl ?_
      refine im_ld (q := 26) (i := 2) D58_25 rfl rfl rfl ?_
      refine im_rng (j := 0) hp2.1 (by decide) (show (0 : Int) < ((3 : Nat) : Int) by decide) (fun hr6 => ?_)
      refine im_gfI (q := 29) D58_26 (im_fl cn_58 fl_5_53) hp2.1 rfl rfl tI_3_0 rfl ?_
      refine im_ld (q := 30) (i := 2) D58_29 rfl rfl rfl ?_
      refine im_gfI (q := 33) D58_30 (im_fl cn_58 fl_5_48) hp2.1 rfl rfl tI_3_1 rfl ?_
      refine im_imul (q := 34) D58_33 ?_
      obtain ⟨hg11, hP⟩ := hP
      obtain ⟨hg12, hP⟩ := hP
      refine im_iast (q := 35) D58_34 sf_22 hg11.1 hg11.2 (by decide) hg12 ?_
      refine im_iconst (q := 36) D58_35 ?_
      refine im_st1 (q := 37) (i := 3) (L' := [some (.ref 13), some (vI p1), some (.ref p2), some (vI 0)]) D58_36 (Or.inl ⟨_, rfl, rfl⟩) (Nat.le_of_ble_eq_true rfl) rfl ?_
      exact hP.wk ⟨rfl, rfl, rfl, rfl, trivial⟩
    · exact (kJ9  (Or.inr ⟨(Int.not_lt.mp hc2), (Int.not_lt.mp hc5)⟩)).wk trivial
set_option maxRecDepth 20000 in
set_option maxHeartbeats 4000000 in
theorem k_Pool_store_37 {g : im_g} {d : Nat} {e : im_E} {M : im_M} {K : im_K} {p1 p3 : Int} {p2 : Nat} (hp2 : im_num e p2) (hP : (im_i32 p3) ∧ (((M p2 1) ≤ p3 → K (.inl (some (vI (1 + (M p2 1))))) e M) ∧ (p3 < (M p2 1) → (0 ≤ p3 ∧ p3 < 34) ∧ (0 ≤ ((p1 + 1) + p3) ∧ ((p1 + 1) + p3) < 32836) ∧ im_T g d 58 37 [some (.ref 13), some (vI p1), some (.ref p2), some (vI (p3 + 1))] [] e (im_u M 22 ((p1 + 1) + p3) (M (p2 + 1) p3)) K))) : im_T g d 58 37 [some (.ref 13), some (vI p1), some (.ref p2), some (vI p3)] [] e M K := by
  refine im_ld (q := 38) (i := 3) D58_37 rfl rfl rfl ?_
  refine im_ld (q := 39) (i := 2) D58_38 rfl rfl rfl ?_
  refine im_rng (j := 1) hp2.1 (by decide) (show (1 : Int) < ((3 : Nat) : Int) by decide) (fun hr1 => ?_)
  refine im_gfI (q := 42) D58_39 (im_fl cn_58 fl_5_48) hp2.1 rfl rfl tI_3_1 rfl ?_
  obtain ⟨hg2, hP⟩ := hP
  refine im_icmp (q := 45) (t := 67) D58_42 rfl hg2 hr1 (fun hc3 => ?_) (fun hc3 => ?_)
  · replace hP := hP.1 hc3
    refine im_iconst (q := 68) D58_67 ?_
    refine im_ld (q := 69) (i := 2) D58_68 rfl rfl rfl ?_
    refine im_gfI (q := 72) D58_69 (im_fl cn_58 fl_5_48) hp2.1 rfl rfl tI_3_1 rfl ?_
    refine im_iadd (q := 73) D58_72 ?_
    exact im_iret (q := 74) D58_73 rfl hP
  · replace hP := hP.2 (Int.not_le.mp hc3)
    refine im_ld (q := 46) (i := 0) D58_45 rfl rfl rfl ?_
    refine im_gfR (q := 49) (b := 22) D58_46 (im_fl cn_58 fl_5_38) sf_13 rfl rfl tR_5_9 rfl ?_
    refine im_ld (q := 50) (i := 1) D58_49 rfl rfl rfl ?_
    refine im_iconst (q := 51) D58_50 ?_
    refine im_iadd (q := 52) D58_51 ?_
    refine im_ld (q := 53) (i := 3) D58_52 rfl rfl rfl ?_
    refine im_iadd (q := 54) D58_53 ?_
    refine im_ld (q := 55) (i := 2) D58_54 rfl rfl rfl ?_
    refine im_gfR (q := 58) (b := (p2 + 1)) D58_55 (im_fl cn_58 fl_5_56) hp2.1 rfl rfl tR_3_2 rfl ?_
    refine im_ld (q := 59) (i := 3) D58_58 rfl rfl rfl ?_
    obtain ⟨hg5, hP⟩ := hP
    refine im_rng (j := p3) hp2.2 hg5.1 hg5.2 (fun hr6 => ?_)
    refine im_iald (q := 60) D58_59 hp2.2 hg5.1 hg5.2 (by decide) rfl ?_
    obtain ⟨hg7, hP⟩ := hP
    refine im_iast (q := 61) D58_60 sf_22 hg7.1 hg7.2 (by decide) hr6 ?_
    refine im_iinc (q := 64) (i := 3) (L' := [some (.ref 13), some (vI p1), some (.ref p2), some (vI (p3 + 1))]) D58_61 rfl (Nat.le_of_ble_eq_true rfl) rfl ?_
    refine im_goto (q := 67) (t := 37) D58_64 rfl ?_
    exact hP.wk ⟨rfl, rfl, rfl, rfl, trivial⟩
set_option maxRecDepth 20000 in
set_option maxHeartbeats 4000000 in
theorem k_Parser_pushShape_0 {g : im_g} {d : Nat} {e : im_E} {M : im_M} {K : im_K} {p1 : Int} (hd : 1 ≤ d) (hP : (0 ≤ p1 ∧ p1 < 5000) ∧ im_T g (d - 1) 60 0 [some (vI (M 14 p1))] [] e M (im_rf (fun u4 e_ M3 => e = e_ ∧ (Nat.blt u4.toNat 30 = true) ∧ im_T g (d - 1) 3 0 [some (.float u4)] [] e M3 (im_ri (fun x6 e_ M5 => e = e_ ∧ im_T g d 59 20 [some (.ref 23), some (vI p1), some (.float u4), some (vI (x6 - 1))] [] e M5 K))))) : im_T g d 59 0 [some (.ref 23), some (vI p1), none, none] [] e M K := by
  refine im_ld (q := 1) (i := 0) D59_0 rfl rfl rfl ?_
  refine im_gfR (q := 4) (b := 13) D59_1 (im_fl cn_59 fl_4_25) sf_23 rfl rfl tR_4_0 rfl ?_
  refine im_gfR (q := 7) (b := 14) D59_4 (im_fl cn_59 fl_4_78) sf_13 rfl rfl tR_5_0 rfl ?_
  refine im_ld (q := 8) (i := 1) D59_7 rfl rfl rfl ?_
  obtain ⟨hg1, hP⟩ := hP
  refine im_rng (j := p1) sf_14 hg1.1 hg1.2 (fun hr2 => ?_)
  refine im_iald (q := 9) D59_8 sf_14 hg1.1 hg1.2 (by decide) rfl ?_
  refine im_callS (q := 12) (kd := 6) (y := 60) (n := 1) (z := 11) (vs := [vI (M 14 p1)]) (r := []) (L2 := [some (vI (M 14 p1))]) D59_9 rfl (im_cal cn_59 cl_4_81) (Or.inr rfl) rfl rfl rfl rfl rfl hd ⟨rfl, trivial⟩ ?_
  refine hP.mono ?_
  rintro _ e8 M3 ⟨u4, rfl, rfl, hP⟩
  refine im_bkS ?_
  obtain ⟨hu_u4, hP⟩ := hP
  refine im_stF (q := 13) (i := 2) (L' := [some (.ref 23), some (vI p1), some (.float u4), none]) D59_12 (Or.inl ⟨_, rfl, rfl⟩) (Nat.le_of_ble_eq_true rfl) (Nat.le_of_ble_eq_true (im_u9 hu_u4)) rfl ?_
  refine im_ld (q := 14) (i := 2) D59_13 rfl rfl (im_u9 hu_u4) ?_
  refine im_callF (q := 17) (kd := 9) (y := 3) (n := 0) (z := 0) (vs := [.float u4]) (r := []) (L2 := [some (.float u4)]) D59_14 (im_cal cn_59 cl_4_85) rfl rfl hu_u4 rfl rfl rfl hd ⟨rfl, trivial⟩ ?_
  refine hP.mono ?_
  rintro _ e7 M5 ⟨x6, rfl, rfl, hP⟩
  refine im_bkS ?_
  refine im_iconst (q := 18) D59_17 ?_
  refine im_isub (q := 19) D59_18 ?_
  refine im_st1 (q := 20) (i := 3) (L' := [some (.ref 23), some (vI p1), some (.float u4), some (vI (x6 - 1))]) D59_19 (Or.inl ⟨_, rfl, rfl⟩) (Nat.le_of_ble_eq_true rfl) rfl ?_
  exact hP.wk ⟨rfl, rfl, rfl, rfl, trivial⟩
set_option maxRecDepth 20000 in
set_option maxHeartbeats 4000000 in
theorem k_Parser_pushShape_20 {g : im_g} {d : Nat} {e : im_E} {M : im_M} {K : im_K} {p1 p3 : Int} {p2 : UInt32} (hu_p2 : Nat.blt p2.toNat 30 = true) (hd : 1 ≤ d) (hP : (im_i32 p3) ∧ ((p3 < 0 → K (.inl none) e M) ∧ (0 ≤ p3 → im_T g (d - 1) 5 0 [some (.float p2), some (vI p3)] [] e M (im_ri (fun x4 e_ M3 => e = e_ ∧ im_T g (d - 1) 39 0 [some (.ref 23), some (vI x4), some (vI p1)] [] e M3 (im_r0 (fun  e_ M5 => e = e_ ∧ im_T g d 59 20 [some (.ref 23), some (vI p1), some (.float p2), some (vI (p3 + (-1)))] [] e M5 K))))))) : im_T g d 59 20 [some (.ref 23), some (vI p1), some (.float p2), some (vI p3)] [] e M K := by
  refine im_ld (q := 21) (i := 3) D59_20 rfl rfl rfl ?_
  obtain ⟨hg1, hP⟩ := hP
  refine im_ifc (q := 24) (t := 40) D59_21 rfl hg1 (fun hc2 => ?_) (fun hc2 => ?_)
  · replace hP := hP.1 hc2
    exact im_vret (q := 41) D59_40 rfl hP
  · replace hP := hP.2 (Int.not_lt.mp hc2)
    refine im_ld (q := 25) (i := 0) D59_24 rfl rfl rfl ?_
    refine im_ld (q := 26) (i := 2) D59_25 rfl rfl (im_u9 hu_p2) ?_
    refine im_ld (q := 27) (i := 3) D59_26 rfl rfl rfl ?_
    refine im_callF (q := 30) (kd := 9) (y := 5) (n := 1) (z := 0) (vs := [.float p2, vI p3]) (r := [.ref 23]) (L2 := [some (.float p2), some (vI p3)]) D59_27 (im_cal cn_59 cl_4_90) rfl rfl hu_p2 rfl rfl rfl hd ⟨rfl, rfl, trivial⟩ ?_
    refine hP.mono ?_
    rintro _ e7 M3 ⟨x4, rfl, rfl, hP⟩
    refine im_bkS ?_
    refine im_ld (q := 31) (i := 1) D59_30 rfl rfl rfl ?_
    refine im_callV (q := 34) (kd := 1) (y := 39) (n := 2) (ci := 4) (a := 23) (vs := [.ref 23, vI x4, vI p1]) (r := []) (L2 := [some (.ref 23), some (vI x4), some (vI p1)]) D59_31 (im_cal cn_59 cl_4_49) (Or.inl rfl) rfl sf_23 rfl rfl rfl rfl hd ⟨rfl, rfl, rfl, trivial⟩ ?_
    refine hP.mono ?_
    rintro _ e6 M5 ⟨rfl, rfl, hP⟩
    refine im_bkN ?_
    refine im_iinc (q := 37) (i := 3) (L' := [some (.ref 23), some (vI p1), some (.float p2), some (vI (p3 + (-1)))]) D59_34 rfl (Nat.le_of_ble_eq_true rfl) rfl ?_
    refine im_goto (q := 40) (t := 20) D59_37 rfl ?_
    exact hP.wk ⟨rfl, rfl, rfl, rfl, trivial⟩
set_option maxRecDepth 20000 in
set_option maxHeartbeats 4000000 in
theorem k_P_shape_0 {g : im_g} {d : Nat} {e : im_E} {M : im_M} {K : im_K} {p0 : Int} (hP : (im_i32 p0) ∧ ((p0 = 1 → K (.inl (some (.float 1))) e M) ∧ (p0 = 2 → K (.inl (some (.float 2))) e M) ∧ (p0 = 3 → K (.inl (some (.float 3))) e M) ∧ (p0 = 4 → K (.inl (some (.float 4))) e M) ∧ (p0 = 5 → K (.inl (some (.float 5))) e M) ∧ (p0 = 6 ∨ p0 = 12 ∨ p0 = 20 → K (.inl (some (.float 6))) e M) ∧ (p0 = 7 → K (.inl (some (.float 7))) e M) ∧ (p0 = 15 → K (.inl (some (.float 8))) e M) ∧ (p0 = 16 → K (.inl (some (.float 9))) e M) ∧ (p0 = 17 ∨ p0 = 18 → K (.inl (some (.float 10))) e M) ∧ (p0 = 19 → K (.inl (some (.float 11))) e M) ∧ (p0 = 8 ∨ p0 = 9 ∨ p0 = 10 ∨ p0 = 11 → K (.inl (some (.float 12))) e M) ∧ (p0 = 21 ∨ p0 = 22 ∨ p0 = 23 ∨ p0 = 24 ∨ p0 = 25 → K (.inl (some (.float 12))) e M) ∧ (p0 = 31 → K (.inl (some (.float 13))) e M) ∧ (p0 = 28 → K (.inl (some (.float 14))) e M) ∧ (p0 = 29 → K (.inl (some (.float 15))) e M) ∧ (p0 = 30 → K (.inl (some (.float 5))) e M) ∧ (p0 < 1 ∨ 31 < p0 ∨ p0 = 13 ∨ p0 = 14 ∨ p0 = 26 ∨ p0 = 27 → K (.inl (some (.float 16))) e M))) : im_T g d 60 0 [some (vI p0)] [] e M K := by
  refine im_ld (q := 1) (i := 0) D60_0 rfl rfl rfl ?_
  obtain ⟨hg1, hP⟩ := hP
  by_cases hc2 : p0 = 1
  · refine im_tsw (q := 2) (t := 140) D60_1 hg1 (fun _ => by rcases hc2 with hc2 <;> (rw [hc2]; rfl)) (by rcases hc2 with hc2 <;> (rw [hc2]; rfl)) ?_
    replace hP := hP.1 hc2
    refine im_spc (q := 143) (st' := .float 1 :: _) rfl ?_
    exact im_fret (q := 144) D60_143 rfl hP
  by_cases hc3 : p0 = 2
  · refine im_tsw (q := 2) (t := 144) D60_1 hg1 (fun _ => by rcases hc3 with hc3 <;> (rw [hc3]; rfl)) (by rcases hc3 with hc3 <;> (rw [hc3]; rfl)) ?_
    replace hP := hP.2.1 hc3
    refine im_spc (q := 147) (st' := .float 2 :: _) rfl ?_
    exact im_fret (q := 148) D60_147 rfl hP
  by_cases hc4 : p0 = 3
  · refine im_tsw (q := 2) (t := 148) D60_1 hg1 (fun _ => by rcases hc4 with hc4 <;> (rw [hc4]; rfl)) (by rcases hc4 with hc4 <;> (rw [hc4]; rfl)) ?_
    replace hP := hP.2.2.1 hc4
    refine im_spc (q := 151) (st' := .float 3 :: _) rfl ?_
    exact im_fret (q := 152) D60_151 rfl hP
  by_cases hc5 : p0 = 4
  · refine im_tsw (q := 2) (t := 152) D60_1 hg1 (fun _ => by rcases hc5 with hc5 <;> (rw [hc5]; rfl)) (by rcases hc5 with hc5 <;> (rw [hc5]; rfl)) ?_
    replace hP := hP.2.2.2.1 hc5
    refine im_spc (q := 155) (st' := .float 4 :: _) rfl ?_
    exact im_fret (q := 156) D60_155 rfl hP
  by_cases hc6 : p0 = 5
  · refine im_tsw (q := 2) (t := 156) D60_1 hg1 (fun _ => by rcases hc6 with hc6 <;> (rw [hc6]; rfl)) (by rcases hc6 with hc6 <;> (rw [hc6]; rfl)) ?_
    replace hP := hP.2.2.2.2.1 hc6
    refine im_spc (q := 159) (st' := .float 5 :: _) rfl ?_
    exact im_fret (q := 160) D60_159 rfl hP
  by_cases hc7 : p0 = 6 ∨ p0 = 12 ∨ p0 = 20
  · refine im_tsw (q := 2) (t := 160) D60_1 hg1 (fun _ => by rcases hc7 with hc7 | hc7 | hc7 <;> (rw [hc7]; rfl)) (by rcases hc7 with hc7 | hc7 | hc7 <;> (rw [hc7]; rfl)) ?_
    replace hP := hP.2.2.2.2.2.1 hc7
    refine im_spc (q := 163) (st' := .float 6 :: _) rfl ?_
    exact im_fret (q := 164) D60_163 rfl hP
  by_cases hc8 : p0 = 7
  · refine im_tsw (q := 2) (t := 164) D60_1 hg1 (fun _ => by rcases hc8 with hc8 <;> (rw [hc8]; rfl)) (by rcases hc8 with hc8 <;> (rw [hc8]; rfl)) ?_
    replace hP := hP.2.2.2.2.2.2.1 hc8
    refine im_spc (q := 167) (st' := .float 7 :: _) rfl ?_
    exact im_fret (q := 168) D60_167 rfl hP
  by_cases hc9 : p0 = 15
  · refine im_tsw (q := 2) (t := 168) D60_1 hg1 (fun _ => by rcases hc9 with hc9 <;> (rw [hc9]; rfl)) (by rcases hc9 with hc9 <;> (rw [hc9]; rfl)) ?_
    replace hP := hP.2.2.2.2.2.2.2.1 hc9
    refine im_spc (q := 171) (st' := .float 8 :: _) rfl ?_
    exact im_fret (q := 172) D60_171 rfl hP
  by_cases hc10 : p0 = 16
  · refine im_tsw (q := 2) (t := 172) D60_1 hg1 (fun _ => by rcases hc10 with hc10 <;> (rw [hc10]; rfl)) (by rcases hc10 with hc10 <;> (rw [hc10]; rfl)) ?_
    replace hP := hP.2.2.2.2.2.2.2.2.1 hc10
    refine im_spc (q := 175) (st' := .float 9 :: _) rfl ?_
    exact im_fret (q := 176) D60_175 rfl hP
  by_cases hc11 : p0 = 17 ∨ p0 = 18
  · refine im_tsw (q := 2) (t := 176) D60_1 hg1 (fun _ => by rcases hc11 with hc11 | hc11 <;> (rw [hc11]; rfl)) (by rcases hc11 with hc11 | hc11 <;> (rw [hc11]; rfl)) ?_
    replace hP := hP.2.2.2.2.2.2.2.2.2.1 hc11
    refine im_spc (q := 179) (st' := .float 10 :: _) rfl ?_
    exact im_fret (q := 180) D60_179 rfl hP
  by_cases hc12 : p0 = 19
  · refine im_tsw (q := 2) (t := 180) D60_1 hg1 (fun _ => by rcases hc12 with hc12 <;> (rw [hc12]; rfl)) (by rcases hc12 with hc12 <;> (rw [hc12]; rfl)) ?_
    replace hP := hP.2.2.2.2.2.2.2.2.2.2.1 hc12
    refine im_spc (q := 183) (st' := .float 11 :: _) rfl ?_
    exact im_fret (q := 184) D60_183 rfl hP
  by_cases hc13 : p0 = 8 ∨ p0 = 9 ∨ p0 = 10 ∨ p0 = 11
  · refine im_tsw (q := 2) (t := 184) D60_1 hg1 (fun _ => by rcases hc13 with hc13 | hc13 | hc13 | hc13 <;> (rw [hc13]; rfl)) (by rcases hc13 with hc13 | hc13 | hc13 | hc13 <;> (rw [hc13]; rfl)) ?_
    replace hP := hP.2.2.2.2.2.2.2.2.2.2.2.1 hc13
    refine im_spc (q := 187) (st' := .float 12 :: _) rfl ?_
    exact im_fret (q := 188) D60_187 rfl hP
  by_cases hc14 : p0 = 21 ∨ p0 = 22 ∨ p0 = 23 ∨ p0 = 24 ∨ p0 = 25
  · refine im_tsw (q := 2) (t := 188) D60_1 hg1 (fun _ => by rcases hc14 with hc14 | hc14 | hc14 | hc14 | hc14 <;> (rw [hc14]; rfl)) (by rcases hc14 with hc14 | hc14 | hc14 | hc14 | hc14 <;> (rw [hc14]; rfl)) ?_
    replace hP := hP.2.2.2.2.2.2.2.2.2.2.2.2.1 hc14
    refine im_spc (q := 191) (st' := .float 12 :: _) rfl ?_
    exact im_fret (q := 192) D60_191 rfl hP
  by_cases hc15 : p0 = 31
  · refine im_tsw (q := 2) (t := 192) D60_1 hg1 (fun _ => by rcases hc15 with hc15 <;> (rw [hc15]; rfl)) (by rcases hc15 with hc15 <;> (rw [hc15]; rfl)) ?_
    replace hP := hP.2.2.2.2.2.2.2.2.2.2.2.2.2.1 hc15
    refine im_spc (q := 195) (st' := .float 13 :: _) rfl ?_
    exact im_fret (q := 196) D60_195 rfl hP
  by_cases hc16 : p0 = 28
  · refine im_tsw (q := 2) (t := 196) D60_1 hg1 (fun _ => by rcases hc16 with hc16 <;> (rw [hc16]; rfl)) (by rcases hc16 with hc16 <;> (rw [hc16]; rfl)) ?_
    replace hP := hP.2.2.2.2.2.2.2.2.2.2.2.2.2.2.1 hc16
    refine im_spc (q := 199) (st' := .float 14 :: _) rfl ?_
    exact im_fret (q := 200) D60_199 rfl hP
  by_cases hc17 : p0 = 29
  · refine im_tsw (q := 2) (t := 200) D60_1 hg1 (fun _ => by rcases hc17 with hc17 <;> (rw [hc17]; rfl)) (by rcases hc17 with hc17 <;> (rw [hc17]; rfl)) ?_
    replace hP := hP.2.2.2.2.2.2.2.2.2.2.2.2.2.2.2.1 hc17
    refine im_spc (q := 203) (st' := .float 15 :: _) rfl ?_
    exact im_fret (q := 204) D60_203 rfl hP
  by_cases hc18 : p0 = 30
  · refine im_tsw (q := 2) (t := 204) D60_1 hg1 (fun _ => by rcases hc18 with hc18 <;> (rw [hc18]; rfl)) (by rcases hc18 with hc18 <;> (rw [hc18]; rfl)) ?_
    replace hP := hP.2.2.2.2.2.2.2.2.2.2.2.2.2.2.2.2.1 hc18
    refine im_spc (q := 207) (st' := .float 5 :: _) rfl ?_
    exact im_fret (q := 208) D60_207 rfl hP
  have hd19 : p0 < 1 ∨ 31 < p0 ∨ p0 = 13 ∨ p0 = 14 ∨ p0 = 26 ∨ p0 = 27 := by clear hP; omega
  refine im_tsw (q := 2) (t := 208) D60_1 hg1 ?_ ?_ ?_
  · intro z9
    have z8 : p0 = 13 ∨ p0 = 14 ∨ p0 = 26 ∨ p0 = 27 := by omega
    rcases z8 with z8 | z8 | z8 | z8 <;> (rw [z8]; rfl)
  · rcases hd19 with z8 | z8 | z8 | z8 | z8 | z8
    · rw [if_pos (Or.inl z8)]; rfl
    · rw [if_pos (Or.inr z8)]; rfl
    · rw [z8]; rfl
    · rw [z8]; rfl
    · rw [z8]; rfl
    · rw [z8]; rfl
  replace hP := hP.2.2.2.2.2.2.2.2.2.2.2.2.2.2.2.2.2 hd19
  refine im_spc (q := 211) (st' := .float 16 :: _) rfl ?_
  exact im_fret (q := 212) D60_211 rfl hP
set_option maxRecDepth 20000 in
set_option maxHeartbeats 4000000 in
theorem k_Parser_meetCase_0 {g : im_g} {d : Nat} {e : im_E} {M : im_M} {K : im_K} {p1 : Int} (hd : 1 ≤ d) (hP : ((¬ (M 2 4) = 40 → (((M 2 4) = 31 → im_T g (d - 1) 54 0 [some (.ref 23), some (vI p1)] [] e M (im_ri (fun x7 e_ M6 => e = e_ ∧ (im_i32 x7) ∧ ((x7 = 0 → (0 ≤ p1 ∧ p1 < 5000) ∧ (((M6 18 p1) < 8 → (im_i32 ((M6 18 p1) + 1)) ∧ im_T g (d - 1) 56 0 [some (.ref 23), some (vI 31), some (vI p1), none] [] e (im_u M6 18 p1 ((M6 18 p1) + 1)) (im_ri (fun x16 e_ M15 => e = e_ ∧ im_T g (d - 1) 59 0 [some (.ref 23), some (vI x16), none, none] [] e M15 (im_r0 (fun  e_ M17 => e = e_ ∧ K (.inl (some (vI 0))) e M17))))) ∧ (8 ≤ (M6 18 p1) → K (.inl (some (vI 8))) e M6))) ∧ (¬ x7 = 0 → K (.inl (some (vI 7))) e M6))))) ∧ (¬ (M 2 4) = 31 → K (.inl (some (vI 4))) e M))) ∧ ((M 2 4) = 40 → (im_i32 ((M 23 4) - 1)) ∧ K (.inl (some (vI 0))) e (im_u M 23 4 ((M 23 4) - 1))))) : im_T g d 61 0 [some (.ref 23), some (vI p1)] [] e M K := by
  refine im_ld (q := 1) (i := 0) D61_0 rfl rfl rfl ?_
  refine im_gfR (q := 4) (b := 2) D61_1 (im_fl cn_61 fl_4_29) sf_23 rfl rfl tR_4_1 rfl ?_
  refine im_rng (j := 4) sf_2 (by decide) (by decide) (fun hr1 => ?_)
  refine im_gfI (q := 7) D61_4 (im_fl cn_61 fl_4_56) sf_2 rfl rfl tI_6_4 rfl ?_
  refine im_bipush (q := 9) D61_7 rfl ?_
  refine im_icmp (q := 12) (t := 24) D61_9 rfl hr1 (by decide) (fun hc2 => ?_) (fun hc2 => ?_)
  · replace hP := hP.1 hc2
    refine im_ld (q := 25) (i := 0) D61_24 rfl rfl rfl ?_
    refine im_gfR (q := 28) (b := 2) D61_25 (im_fl cn_61 fl_4_29) sf_23 rfl rfl tR_4_1 rfl ?_
    refine im_gfI (q := 31) D61_28 (im_fl cn_61 fl_4_56) sf_2 rfl rfl tI_6_4 rfl ?_
    refine im_bipush (q := 33) D61_31 rfl ?_
    refine im_icmp (q := 36) (t := 38) D61_33 rfl hr1 (by decide) (fun hc4 => ?_) (fun hc4 => ?_)
    · replace hP := hP.1 hc4
      refine im_ld (q := 39) (i := 0) D61_38 rfl rfl rfl ?_
      refine im_ld (q := 40) (i := 1) D61_39 rfl rfl rfl ?_
      refine im_callV (q := 43) (kd := 1) (y := 54) (n := 1) (ci := 4) (a := 23) (vs := [.ref 23, vI p1]) (r := []) (L2 := [some (.ref 23), some (vI p1)]) D61_40 (im_cal cn_61 cl_4_132) (Or.inl rfl) rfl sf_23 rfl rfl rfl rfl hd ⟨rfl, rfl, trivial⟩ ?_
      refine hP.mono ?_
      rintro _ e20 M6 ⟨x7, rfl, rfl, hP⟩
      refine im_bkS ?_
      obtain ⟨hg8, hP⟩ := hP
      refine im_ifc (q := 46) (t := 49) D61_43 rfl hg8 (fun hc9 => ?_) (fun hc9 => ?_)
      · replace hP := hP.1 hc9
        refine im_ld (q := 50) (i := 0) D61_49 rfl rfl rfl ?_
        refine im_gfR (q := 53) (b := 13) D61_50 (im_fl cn_61 fl_4_25) sf_23 rfl rfl tR_4_0 rfl ?_
        refine im_gfR (q := 56) (b := 18) D61_53 (im_fl cn_61 fl_4_138) sf_13 rfl rfl tR_5_4 rfl ?_
        refine im_ld (q := 57) (i := 1) D61_56 rfl rfl rfl ?_
        obtain ⟨hg10, hP⟩ := hP
        refine im_rng (j := p1) sf_18 hg10.1 hg10.2 (fun hr11 => ?_)
        refine im_iald (q := 58) D61_57 sf_18 hg10.1 hg10.2 (by decide) rfl ?_
        refine im_bipush (q := 60) D61_58 rfl ?_
        refine im_icmp (q := 63) (t := 66) D61_60 rfl hr11 (by decide) (fun hc12 => ?_) (fun hc12 => ?_)
        · replace hP := hP.1 hc12
          refine im_ld (q := 67) (i := 0) D61_66 rfl rfl rfl ?_
          refine im_gfR (q := 70) (b := 13) D61_67 (im_fl cn_61 fl_4_25) sf_23 rfl rfl tR_4_0 rfl ?_
          refine im_gfR (q := 73) (b := 18) D61_70 (im_fl cn_61 fl_4_138) sf_13 rfl rfl tR_5_4 rfl ?_
          refine im_ld (q := 74) (i := 1) D61_73 rfl rfl rfl ?_
          refine im_dup2 (q := 75) D61_74 rfl rfl ?_
          refine im_iald (q := 76) D61_75 sf_18 hg10.1 hg10.2 (by decide) rfl ?_
          refine im_iconst (q := 77) D61_76 ?_
          refine im_iadd (q := 78) D61_77 ?_
          obtain ⟨hg14, hP⟩ := hP
          refine im_iast (q := 79) D61_78 sf_18 hg10.1 hg10.2 (by decide) hg14 ?_
          refine im_ld (q := 80) (i := 0) D61_79 rfl rfl rfl ?_
          refine im_ld (q := 81) (i := 0) D61_80 rfl rfl rfl ?_
          refine im_bipush (q := 83) D61_81 rfl ?_
          refine im_ld (q := 84) (i := 1) D61_83 rfl rfl rfl ?_
          refine im_callV (q := 87) (kd := 1) (y := 56) (n := 2) (ci := 4) (a := 23) (vs := [.ref 23, vI 31, vI p1]) (r := [.ref 23]) (L2 := [some (.ref 23), some (vI 31), some (vI p1), none]) D61_84 (im_cal cn_61 cl_4_135) (Or.inl rfl) rfl sf_23 rfl rfl rfl rfl hd ⟨rfl, rfl, rfl, trivial⟩ ?_
          refine hP.mono ?_
          rintro _ e19 M15 ⟨x16, rfl, rfl, hP⟩
          refine im_bkS ?_
          refine im_callV (q := 90) (kd := 1) (y := 59) (n := 1) (ci := 4) (a := 23) (vs := [.ref 23, vI x16]) (r := []) (L2 := [some (.ref 23), some (vI x16), none, none]) D61_87 (im_cal cn_61 cl_4_152) (Or.inl rfl) rfl sf_23 rfl rfl rfl rfl hd ⟨rfl, rfl, trivial⟩ ?_
          refine hP.mono ?_
          rintro _ e18 M17 ⟨rfl, rfl, hP⟩
          refine im_bkN ?_
          refine im_iconst (q := 91) D61_90 ?_
          exact im_iret (q := 92) D61_91 rfl hP
        · replace hP := hP.2 (Int.not_lt.mp hc12)
          refine im_bipush (q := 65) D61_63 rfl ?_
          exact im_iret (q := 66) D61_65 rfl hP
      · replace hP := hP.2 hc9
        refine im_bipush (q := 48) D61_46 rfl ?_
        exact im_iret (q := 49) D61_48 rfl hP
    · replace hP := hP.2 hc4
      refine im_iconst (q := 37) D61_36 ?_
      exact im_iret (q := 38) D61_37 rfl hP
  · replace hP := hP.2 (Decidable.not_not.mp hc2)
    refine im_ld (q := 13) (i := 0) D61_12 rfl rfl rfl ?_
    refine im_dup (q := 14) D61_13 rfl ?_
    refine im_rng (j := 4) sf_23 (by decide) (by decide) (fun hr5 => ?_)
    refine im_gfI (q := 17) D61_14 (im_fl cn_61 fl_4_46) sf_23 rfl rfl tI_4_4 rfl ?_
    refine im_iconst (q := 18) D61_17 ?_
    refine im_isub (q := 19) D61_18 ?_
    obtain ⟨hg21, hP⟩ := hP
    refine im_pfI (q := 22) D61_19 (im_fl cn_61 fl_4_46) sf_23 rfl rfl ti_4_4 hg21 ?_
    refine im_iconst (q := 23) D61_22 ?_
    exact im_iret (q := 24) D61_23 rfl hP
set_option maxRecDepth 20000 in
set_option maxHeartbeats 4000000 in
theorem k_Parser_meetAction_0 {g : im_g} {d : Nat} {e : im_E} {M : im_M} {K : im_K} {p1 : Int} (hd : 1 ≤ d) (hP : ((((28 ≤ (M 2 4) → (((M 2 4) ≤ 30 → (im_i32 ((M 23 4) - 1)) ∧ (0 ≤ p1 ∧ p1 < 5000) ∧ im_T g (d - 1) 59 0 [some (.ref 23), some (vI p1), none, none] [] e (im_u (im_u M 23 4 ((M 23 4) - 1)) 14 p1 (M 2 4)) (im_r0 (fun  e_ M12 => e = e_ ∧ K (.inl (some (vI 0))) e M12))))))) ∧ (((((M 2 4) < 28)) ∨ ((28 ≤ (M 2 4)) ∧ (30 < (M 2 4)))) → K (.inl (some (vI 4))) e M))) : im_T g d 62 0 [some (.ref 23), some (vI p1)] [] e M K := by
  refine im_ld (q := 1) (i := 0) D62_0 rfl rfl rfl ?_
  refine im_gfR (q := 4) (b := 2) D62_1 (im_fl cn_62 fl_4_29) sf_23 rfl rfl tR_4_1 rfl ?_
  refine im_rng (j := 4) sf_2 (by decide) (by decide) (fun hr1 => ?_)
  refine im_gfI (q := 7) D62_4 (im_fl cn_62 fl_4_56) sf_2 rfl rfl tI_6_4 rfl ?_
  refine im_bipush (q := 9) D62_7 rfl ?_
  obtain ⟨hP, hJ6⟩ := hP
  have kJ7 : ((((M 2 4) < 28)) ∨ ((28 ≤ (M 2 4)) ∧ (30 < (M 2 4)))) → im_T g d 62 24 [none, none] [] e M K := by
    intro  hx8
    have hP := hJ6  hx8
    refine im_iconst (q := 25) D62_24 ?_
    exact im_iret (q := 26) D62_25 rfl hP
  refine im_icmp (q := 12) (t := 24) D62_9 rfl hr1 (by decide) (fun hc2 => ?_) (fun hc2 => ?_)
  · exact (kJ7  (Or.inl hc2)).wk trivial
  · replace hP := hP (Int.not_lt.mp hc2)
    refine im_ld (q := 13) (i := 0) D62_12 rfl rfl rfl ?_
    refine im_gfR (q := 16) (b := 2) D62_13 (im_fl cn_62 fl_4_29) sf_23 rfl rfl tR_4_1 rfl ?_
    refine im_gfI (q := 19) D62_16 (im_fl cn_62 fl_4_56) sf_2 rfl rfl tI_6_4 rfl ?_
    refine im_bipush (q := 21) D62_19 rfl ?_
    refine im_icmp (q := 24) (t := 26) D62_21 rfl hr1 (by decide) (fun hc4 => ?_) (fun hc4 => ?_)
    · replace hP := hP hc4
      refine im_ld (q := 27) (i := 0) D62_26 rfl rfl rfl ?_
      refine im_dup (q := 28) D62_27 rfl ?_
      refine im_rng (j := 4) sf_23 (by decide) (by decide) (fun hr5 => ?_)
      refine im_gfI (q := 31) D62_28 (im_fl cn_62 fl_4_46) sf_23 rfl rfl tI_4_4 rfl ?_
      refine im_iconst (q := 32) D62_31 ?_
      refine im_isub (q := 33) D62_32 ?_
      obtain ⟨hg9, hP⟩ := hP
      refine im_pfI (q := 36) D62_33 (im_fl cn_62 fl_4_46) sf_23 rfl rfl ti_4_4 hg9 ?_
      refine im_ld (q := 37) (i := 0) D62_36 rfl rfl rfl ?_
      refine im_gfR (q := 40) (b := 13) D62_37 (im_fl cn_62 fl_4_25) sf_23 rfl rfl tR_4_0 rfl ?_
      refine im_gfR (q := 43) (b := 14) D62_40 (im_fl cn_62 fl_4_78) sf_13 rfl rfl tR_5_0 rfl ?_
      refine im_ld (q := 44) (i := 1) D62_43 rfl rfl rfl ?_
      refine im_ld (q := 45) (i := 0) D62_44 rfl rfl rfl ?_
      refine im_gfR (q := 48) (b := 2) D62_45 (im_fl cn_62 fl_4_29) sf_23 rfl rfl tR_4_1 rfl ?_
      refine im_gfI (q := 51) D62_48 (im_fl cn_62 fl_4_56) sf_2 rfl rfl tI_6_4 (im_rdn _ _ _ _ (by decide)) ?_
      obtain ⟨hg11, hP⟩ := hP
      refine im_iast (q := 52) D62_51 sf_14 hg11.1 hg11.2 (by decide) hr1 ?_
      refine im_ld (q := 53) (i := 0) D62_52 rfl rfl rfl ?_
      refine im_ld (q := 54) (i := 1) D62_53 rfl rfl rfl ?_
      refine im_callV (q := 57) (kd := 1) (y := 59) (n := 1) (ci := 4) (a := 23) (vs := [.ref 23, vI p1]) (r := []) (L2 := [some (.ref 23), some (vI p1), none, none]) D62_54 (im_cal cn_62 cl_4_152) (Or.inl rfl) rfl sf_23 rfl rfl rfl rfl hd ⟨rfl, rfl, trivial⟩ ?_
      refine hP.mono ?_
      rintro _ e13 M12 ⟨rfl, rfl, hP⟩
      refine im_bkN ?_
      refine im_iconst (q := 58) D62_57 ?_
      exact im_iret (q := 59) D62_58 rfl hP
    · exact (kJ7  (Or.inr ⟨(Int.not_lt.mp hc2), (Int.not_le.mp hc4)⟩)).wk trivial
set_option maxRecDepth 20000 in
set_option maxHeartbeats 4000000 in
theorem k_Parser_meetTime_0 {g : im_g} {d : Nat} {e : im_E} {M : im_M} {K : im_K} {p1 : Int} (hd : 1 ≤ d) (hP : ((((¬ (M 2 4) = 34 → ((¬ (M 2 4) = 35 → K (.inl (some (vI 4))) e M))))) ∧ (((((M 2 4) = 34)) ∨ ((¬ (M 2 4) = 34) ∧ ((M 2 4) = 35))) → (im_i32 ((M 23 4) - 1)) ∧ ((¬ (M 2 4) = 35 → im_T g (d - 1) 64 0 [some (.ref 5), none, none, none] [] e (im_u M 23 4 ((M 23 4) - 1)) (im_rl (fun x14 e_ M13 => e = e_ ∧ (0 ≤ p1 ∧ p1 < 5000) ∧ (im_i64 x14) ∧ ((∀ x19 : Int, (((¬ x14 = (-1)) ∧ x19 = 0) ∨ ((x14 = (-1)) ∧ x19 = 5)) → K (.inl (some (vI x19))) e (im_u M13 19 p1 x14)))))) ∧ ((M 2 4) = 35 → (0 ≤ p1 ∧ p1 < 5000) ∧ K (.inl (some (vI 0))) e (im_u (im_u M 23 4 ((M 23 4) - 1)) 20 p1 (M 2 6))))))) : im_T g d 63 0 [some (.ref 23), some (vI p1)] [] e M K := by
  refine im_ld (q := 1) (i := 0) D63_0 rfl rfl rfl ?_
  refine im_gfR (q := 4) (b := 2) D63_1 (im_fl cn_63 fl_4_29) sf_23 rfl rfl tR_4_1 rfl ?_
  refine im_rng (j := 4) sf_2 (by decide) (by decide) (fun hr1 => ?_)
  refine im_gfI (q := 7) D63_4 (im_fl cn_63 fl_4_56) sf_2 rfl rfl tI_6_4 rfl ?_
  refine im_bipush (q := 9) D63_7 rfl ?_
  obtain ⟨hP, hJ5⟩ := hP
  have kJ6 : ((((M 2 4) = 34)) ∨ ((¬ (M 2 4) = 34) ∧ ((M 2 4) = 35))) → im_T g d 63 26 [some (.ref 23), some (vI p1)] [] e M K := by
    intro  hx7
    have hP := hJ5  hx7
    refine im_ld (q := 27) (i := 0) D63_26 rfl rfl rfl ?_
    refine im_dup (q := 28) D63_27 rfl ?_
    refine im_rng (j := 4) sf_23 (by decide) (by decide) (fun hr8 => ?_)
    refine im_gfI (q := 31) D63_28 (im_fl cn_63 fl_4_46) sf_23 rfl rfl tI_4_4 rfl ?_
    refine im_iconst (q := 32) D63_31 ?_
    refine im_isub (q := 33) D63_32 ?_
    obtain ⟨hg9, hP⟩ := hP
    refine im_pfI (q := 36) D63_33 (im_fl cn_63 fl_4_46) sf_23 rfl rfl ti_4_4 hg9 ?_
    refine im_ld (q := 37) (i := 0) D63_36 rfl rfl rfl ?_
    refine im_gfR (q := 40) (b := 2) D63_37 (im_fl cn_63 fl_4_29) sf_23 rfl rfl tR_4_1 rfl ?_
    refine im_gfI (q := 43) D63_40 (im_fl cn_63 fl_4_56) sf_2 rfl rfl tI_6_4 (im_rdn _ _ _ _ (by decide)) ?_
    refine im_bipush (q := 45) D63_43 rfl ?_
    refine im_icmp (q := 48) (t := 66) D63_45 rfl hr1 (by decide) (fun hc11 => ?_) (fun hc11 => ?_)
    · replace hP := hP.1 hc11
      refine im_ld (q := 67) (i := 0) D63_66 rfl rfl rfl ?_
      refine im_gfR (q := 70) (b := 13) D63_67 (im_fl cn_63 fl_4_25) sf_23 rfl rfl tR_4_0 rfl ?_
      refine im_gfR (q := 73) (b := 19) D63_70 (im_fl cn_63 fl_4_144) sf_13 rfl rfl tR_5_5 rfl ?_
      refine im_ld (q := 74) (i := 1) D63_73 rfl rfl rfl ?_
      refine im_ld (q := 75) (i := 0) D63_74 rfl rfl rfl ?_
      refine im_gfR (q := 78) (b := 2) D63_75 (im_fl cn_63 fl_4_29) sf_23 rfl rfl tR_4_1 rfl ?_
      refine im_gfR (q := 81) (b := 5) D63_78 (im_fl cn_63 fl_4_171) sf_2 rfl rfl tR_6_7 rfl ?_
      refine im_callV (q := 84) (kd := 1) (y := 64) (n := 0) (ci := 3) (a := 5) (vs := [.ref 5]) (r := [vI p1, .ref 19]) (L2 := [some (.ref 5), none, none, none]) D63_81 (im_cal cn_63 cl_4_178) (Or.inl rfl) rfl sf_5 rfl rfl rfl rfl hd ⟨rfl, trivial⟩ ?_
      refine hP.mono ?_
      rintro _ e23 M13 ⟨x14, rfl, rfl, hP⟩
      refine im_bkS ?_
      obtain ⟨hg15, hP⟩ := hP
      obtain ⟨hg16, hP⟩ := hP
      refine im_last (q := 85) D63_84 sf_19 hg15.1 hg15.2 (by decide) hg16 ?_
      refine im_ld (q := 86) (i := 0) D63_85 rfl rfl rfl ?_
      refine im_gfR (q := 89) (b := 13) D63_86 (im_fl cn_63 fl_4_25) sf_23 rfl rfl tR_4_0 rfl ?_
      refine im_gfR (q := 92) (b := 19) D63_89 (im_fl cn_63 fl_4_144) sf_13 rfl rfl tR_5_5 rfl ?_
      refine im_ld (q := 93) (i := 1) D63_92 rfl rfl rfl ?_
      refine im_lald (q := 94) D63_93 sf_19 hg15.1 hg15.2 (by decide) (im_rds _ _ _ _) ?_
      refine im_ldc2 (q := 97) (n := (-1)) D63_94 rfl ?_
      have hJ20 := hP
      have kJ21 : ∀ x19 : Int, (((¬ x14 = (-1)) ∧ x19 = 0) ∨ ((x14 = (-1)) ∧ x19 = 5)) → im_T g d 63 106 [none, none] [vI x19] e (im_u M13 19 p1 x14) K := by
        intro x19 hx22
        have hP := hJ20 x19 hx22
        exact im_iret (q := 107) D63_106 rfl hP
      refine im_lif (q := 98) (q2 := 101) (t := 105) D63_97 D63_98 rfl hg16 (by decide) (fun hc18 => ?_) (fun hc18 => ?_)
      · refine im_iconst (q := 106) D63_105 ?_
        exact (kJ21 (0) (Or.inl ⟨hc18, rfl⟩)).wk trivial
      · refine im_iconst (q := 102) D63_101 ?_
        refine im_goto (q := 105) (t := 106) D63_102 rfl ?_
        exact (kJ21 (5) (Or.inr ⟨(Decidable.not_not.mp hc18), rfl⟩)).wk trivial
    · replace hP := hP.2 (Decidable.not_not.mp hc11)
      refine im_ld (q := 49) (i := 0) D63_48 rfl rfl rfl ?_
      refine im_gfR (q := 52) (b := 13) D63_49 (im_fl cn_63 fl_4_25) sf_23 rfl rfl tR_4_0 rfl ?_
      refine im_gfR (q := 55) (b := 20) D63_52 (im_fl cn_63 fl_4_165) sf_13 rfl rfl tR_5_6 rfl ?_
      refine im_ld (q := 56) (i := 1) D63_55 rfl rfl rfl ?_
      refine im_ld (q := 57) (i := 0) D63_56 rfl rfl rfl ?_
      refine im_gfR (q := 60) (b := 2) D63_57 (im_fl cn_63 fl_4_29) sf_23 rfl rfl tR_4_1 rfl ?_
      refine im_rng (j := 6) sf_2 (by decide) (by decide) (fun hr12 => ?_)
      refine im_gfL (q := 63) D63_60 (im_fl cn_63 fl_4_148) sf_2 rfl rfl tL_6_6 (im_rdn _ _ _ _ (by decide)) ?_
      obtain ⟨hg24, hP⟩ := hP
      refine im_last (q := 64) D63_63 sf_20 hg24.1 hg24.2 (by decide) (im_rgc hr12 (im_rdn _ _ _ _ (by decide))) ?_
      refine im_iconst (q := 65) D63_64 ?_
      exact im_iret (q := 66) D63_65 rfl hP
  refine im_icmp (q := 12) (t := 26) D63_9 rfl hr1 (by decide) (fun hc2 => ?_) (fun hc2 => ?_)
  · exact (kJ6  (Or.inl hc2)).wk ⟨rfl, rfl, trivial⟩
  · replace hP := hP hc2
    refine im_ld (q := 13) (i := 0) D63_12 rfl rfl rfl ?_
    refine im_gfR (q := 16) (b := 2) D63_13 (im_fl cn_63 fl_4_29) sf_23 rfl rfl tR_4_1 rfl ?_
    refine im_gfI (q := 19) D63_16 (im_fl cn_63 fl_4_56) sf_2 rfl rfl tI_6_4 rfl ?_
    refine im_bipush (q := 21) D63_19 rfl ?_
    refine im_icmp (q := 24) (t := 26) D63_21 rfl hr1 (by decide) (fun hc4 => ?_) (fun hc4 => ?_)
    · exact (kJ6  (Or.inr ⟨hc2, hc4⟩)).wk ⟨rfl, rfl, trivial⟩
    · replace hP := hP hc4
      refine im_iconst (q := 25) D63_24 ?_
      exact im_iret (q := 26) D63_25 rfl hP
set_option maxRecDepth 20000 in
set_option maxHeartbeats 4000000 in
theorem k_Num_asTime_0 {g : im_g} {d : Nat} {e : im_E} {M : im_M} {K : im_K} {a0 : Nat} (ha0 : im_num e a0) (hP : ((((0 ≤ (M a0 0) → (((M a0 1) ≤ 2 → im_T g d 64 28 [some (.ref a0), some (vL 0), none, some (vI ((M a0 1) - 1))] [] e M K))))) ∧ (((((M a0 0) < 0)) ∨ ((0 ≤ (M a0 0)) ∧ (2 < (M a0 1)))) → K (.inl (some (vL (-1)))) e M))) : im_T g d 64 0 [some (.ref a0), none, none, none] [] e M K := by
  refine im_ld (q := 1) (i := 0) D64_0 rfl rfl rfl ?_
  refine im_rng (j := 0) ha0.1 (by decide) (show (0 : Int) < ((3 : Nat) : Int) by decide) (fun hr1 => ?_)
  refine im_gfI (q := 4) D64_1 (im_fl cn_64 fl_3_15) ha0.1 rfl rfl tI_3_0 rfl ?_
  obtain ⟨hP, hJ5⟩ := hP
  have kJ6 : ((((M a0 0) < 0)) ∨ ((0 ≤ (M a0 0)) ∧ (2 < (M a0 1)))) → im_T g d 64 15 [none, none, none, none] [] e M K := by
    intro  hx7
    have hP := hJ5  hx7
    refine im_ldc2 (q := 18) (n := (-1)) D64_15 rfl ?_
    exact im_lret (q := 19) D64_18 rfl hP
  refine im_ifc (q := 7) (t := 15) D64_4 rfl hr1 (fun hc2 => ?_) (fun hc2 => ?_)
  · exact (kJ6  (Or.inl hc2)).wk trivial
  · replace hP := hP (Int.not_lt.mp hc2)
    refine im_ld (q := 8) (i := 0) D64_7 rfl rfl rfl ?_
    refine im_rng (j := 1) ha0.1 (by decide) (show (1 : Int) < ((3 : Nat) : Int) by decide) (fun hr3 => ?_)
    refine im_gfI (q := 11) D64_8 (im_fl cn_64 fl_3_19) ha0.1 rfl rfl tI_3_1 rfl ?_
    refine im_iconst (q := 12) D64_11 ?_
    refine im_icmp (q := 15) (t := 19) D64_12 rfl hr3 (by decide) (fun hc4 => ?_) (fun hc4 => ?_)
    · replace hP := hP hc4
      refine im_lconst (q := 20) (z := 0) D64_19 rfl ?_
      refine im_st2 (q := 21) (i := 1) (L' := [some (.ref a0), some (vL 0), none, none]) D64_20 (Or.inl ⟨_, rfl, rfl⟩) (Nat.le_of_ble_eq_true rfl) rfl ?_
      refine im_ld (q := 22) (i := 0) D64_21 rfl rfl rfl ?_
      refine im_gfI (q := 25) D64_22 (im_fl cn_64 fl_3_19) ha0.1 rfl rfl tI_3_1 rfl ?_
      refine im_iconst (q := 26) D64_25 ?_
      refine im_isub (q := 27) D64_26 ?_
      refine im_st1 (q := 28) (i := 3) (L' := [some (.ref a0), some (vL 0), none, some (vI ((M a0 1) - 1))]) D64_27 (Or.inl ⟨_, rfl, rfl⟩) (Nat.le_of_ble_eq_true rfl) rfl ?_
      exact hP.wk ⟨rfl, rfl, rfl, trivial⟩
    · exact (kJ6  (Or.inr ⟨(Int.not_lt.mp hc2), (Int.not_le.mp hc4)⟩)).wk trivial
set_option maxRecDepth 20000 in
set_option maxHeartbeats 4000000 in
theorem k_Num_asTime_28 {g : im_g} {d : Nat} {e : im_E} {M : im_M} {K : im_K} {p1 p3 : Int} {a0 : Nat} (ha0 : im_num e a0) (hP : (im_i32 p3) ∧ ((((p3 < 0 → (im_i64 p1)) ∧ (0 ≤ p3 → (0 ≤ p3 ∧ p3 < 34) ∧ im_T g d 64 28 [some (.ref a0), some (vL ((p1 * 1000000000) + (M (a0 + 1) p3))), none, some (vI (p3 + (-1)))] [] e M K))) ∧ (∀ x7 : Int, (((p3 < 0) ∧ (1000000000000000 < p1) ∧ x7 = (-1)) ∨ ((p3 < 0) ∧ (p1 ≤ 1000000000000000) ∧ x7 = p1)) → K (.inl (some (vL x7))) e M))) : im_T g d 64 28 [some (.ref a0), some (vL p1), none, some (vI p3)] [] e M K := by
  refine im_ld (q := 29) (i := 3) D64_28 rfl rfl rfl ?_
  obtain ⟨hg1, hP⟩ := hP
  obtain ⟨hP, hJ8⟩ := hP
  have kJ9 : ∀ x7 : Int, (((p3 < 0) ∧ (1000000000000000 < p1) ∧ x7 = (-1)) ∨ ((p3 < 0) ∧ (p1 ≤ 1000000000000000) ∧ x7 = p1)) → im_T g d 64 67 [none, none, none, none] [vL x7] e M K := by
    intro x7 hx10
    have hP := hJ8 x7 hx10
    exact im_lret (q := 68) D64_67 rfl hP
  refine im_ifc (q := 32) (t := 52) D64_29 rfl hg1 (fun hc2 => ?_) (fun hc2 => ?_)
  · replace hP := hP.1 hc2
    refine im_ld (q := 53) (i := 1) D64_52 rfl rfl rfl ?_
    refine im_ldc2 (q := 56) (n := 1000000000000000) D64_53 rfl ?_
    have hg3 := hP
    refine im_lif (q := 57) (q2 := 60) (t := 64) D64_56 D64_57 rfl hg3 (by decide) (fun hc4 => ?_) (fun hc4 => ?_)
    · refine im_ldc2 (q := 67) (n := (-1)) D64_64 rfl ?_
      exact (kJ9 ((-1)) (Or.inl ⟨hc2, hc4, rfl⟩)).wk trivial
    · refine im_ld (q := 61) (i := 1) D64_60 rfl rfl rfl ?_
      refine im_goto (q := 64) (t := 67) D64_61 rfl ?_
      exact (kJ9 (p1) (Or.inr ⟨hc2, (Int.not_lt.mp hc4), rfl⟩)).wk trivial
  · replace hP := hP.2 (Int.not_lt.mp hc2)
    refine im_ld (q := 33) (i := 1) D64_32 rfl rfl rfl ?_
    refine im_ldc2 (q := 36) (n := 1000000000) D64_33 rfl ?_
    refine im_lmul (q := 37) D64_36 ?_
    refine im_ld (q := 38) (i := 0) D64_37 rfl rfl rfl ?_
    refine im_gfR (q := 41) (b := (a0 + 1)) D64_38 (im_fl cn_64 fl_3_9) ha0.1 rfl rfl tR_3_2 rfl ?_
    refine im_ld (q := 42) (i := 3) D64_41 rfl rfl rfl ?_
    obtain ⟨hg5, hP⟩ := hP
    refine im_rng (j := p3) ha0.2 hg5.1 hg5.2 (fun hr6 => ?_)
    refine im_iald (q := 43) D64_42 ha0.2 hg5.1 hg5.2 (by decide) rfl ?_
    refine im_i2l (q := 44) D64_43 hr6 ?_
    refine im_ladd (q := 45) D64_44 ?_
    refine im_st2 (q := 46) (i := 1) (L' := [some (.ref a0), some (vL ((p1 * 1000000000) + (M (a0 + 1) p3))), none, some (vI p3)]) D64_45 (Or.inl ⟨_, rfl, rfl⟩) (Nat.le_of_ble_eq_true rfl) rfl ?_
    refine im_iinc (q := 49) (i := 3) (L' := [some (.ref a0), some (vL ((p1 * 1000000000) + (M (a0 + 1) p3))), none, some (vI (p3 + (-1)))]) D64_46 rfl (Nat.le_of_ble_eq_true rfl) rfl ?_
    refine im_goto (q := 52) (t := 28) D64_49 rfl ?_
    exact hP.wk ⟨rfl, rfl, rfl, trivial⟩
set_option maxRecDepth 20000 in
set_option maxHeartbeats 4000000 in
theorem k_Parser_meetBound_0 {g : im_g} {d : Nat} {e : im_E} {M : im_M} {K : im_K} {p1 : Int} (hd : 1 ≤ d) (hP : (((((M 2 4) = 40 → (0 ≤ p1 ∧ p1 < 5000) ∧ ((0 < (M 21 p1) → (im_i32 ((M 23 4) - 1)) ∧ K (.inl (some (vI 0))) e (im_u M 23 4 ((M 23 4) - 1))))))) ∧ ((((¬ (M 2 4) = 40)) ∨ (((M 2 4) = 40) ∧ ((M 21 p1) ≤ 0))) → (((M 2 4) = 34 → (0 ≤ p1 ∧ p1 < 5000) ∧ (((M 21 p1) < 4 → ((¬ (M 21 p1) = 0 → im_T g (d - 1) 57 0 [some (.ref 23)] [] e M (im_r0 (fun  e_ M19 => e = e_ ∧ im_T g (d - 1) 66 0 [some (.ref 26), some (.ref 5), none] [] e M19 (im_r0 (fun  e_ M20 => e = e_ ∧ im_T g (d - 1) 39 0 [some (.ref 23), some (vI 104), some (vI p1)] [] e M20 (im_r0 (fun  e_ M21 => e = e_ ∧ K (.inl (some (vI 0))) e M21))))))) ∧ ((M 21 p1) = 0 → (im_i32 ((M 13 10) + (M 23 5))) ∧ im_T g (d - 1) 57 0 [some (.ref 23)] [] e (im_u M 18 p1 ((M 13 10) + (M 23 5))) (im_r0 (fun  e_ M26 => e = e_ ∧ im_T g (d - 1) 66 0 [some (.ref 26), some (.ref 5), none] [] e M26 (im_r0 (fun  e_ M27 => e = e_ ∧ im_T g (d - 1) 39 0 [some (.ref 23), some (vI 104), some (vI p1)] [] e M27 (im_r0 (fun  e_ M28 => e = e_ ∧ K (.inl (some (vI 0))) e M28))))))))) ∧ (4 ≤ (M 21 p1) → K (.inl (some (vI 8))) e M))) ∧ (¬ (M 2 4) = 34 → K (.inl (some (vI 4))) e M))))) : im_T g d 65 0 [some (.ref 23), some (vI p1)] [] e M K := by
  refine im_ld (q := 1) (i := 0) D65_0 rfl rfl rfl ?_
  refine im_gfR (q := 4) (b := 2) D65_1 (im_fl cn_65 fl_4_29) sf_23 rfl rfl tR_4_1 rfl ?_
  refine im_rng (j := 4) sf_2 (by decide) (by decide) (fun hr1 => ?_)
  refine im_gfI (q := 7) D65_4 (im_fl cn_65 fl_4_56) sf_2 rfl rfl tI_6_4 rfl ?_
  refine im_bipush (q := 9) D65_7 rfl ?_
  obtain ⟨hP, hJ7⟩ := hP
  have kJ8 : (((¬ (M 2 4) = 40)) ∨ (((M 2 4) = 40) ∧ ((M 21 p1) ≤ 0))) → im_T g d 65 38 [some (.ref 23), some (vI p1)] [] e M K := by
    intro  hx9
    have hP := hJ7  hx9
    refine im_ld (q := 39) (i := 0) D65_38 rfl rfl rfl ?_
    refine im_gfR (q := 42) (b := 2) D65_39 (im_fl cn_65 fl_4_29) sf_23 rfl rfl tR_4_1 rfl ?_
    refine im_gfI (q := 45) D65_42 (im_fl cn_65 fl_4_56) sf_2 rfl rfl tI_6_4 rfl ?_
    refine im_bipush (q := 47) D65_45 rfl ?_
    refine im_icmp (q := 50) (t := 52) D65_47 rfl hr1 (by decide) (fun hc11 => ?_) (fun hc11 => ?_)
    · replace hP := hP.1 hc11
      refine im_ld (q := 53) (i := 0) D65_52 rfl rfl rfl ?_
      refine im_gfR (q := 56) (b := 13) D65_53 (im_fl cn_65 fl_4_25) sf_23 rfl rfl tR_4_0 rfl ?_
      refine im_gfR (q := 59) (b := 21) D65_56 (im_fl cn_65 fl_4_168) sf_13 rfl rfl tR_5_7 rfl ?_
      refine im_ld (q := 60) (i := 1) D65_59 rfl rfl rfl ?_
      obtain ⟨hg12, hP⟩ := hP
      refine im_rng (j := p1) sf_21 hg12.1 hg12.2 (fun hr13 => ?_)
      refine im_lald (q := 61) D65_60 sf_21 hg12.1 hg12.2 (by decide) rfl ?_
      refine im_ldc2 (q := 64) (n := 4) D65_61 rfl ?_
      refine im_lif (q := 65) (q2 := 68) (t := 71) D65_64 D65_65 rfl hr13 (by decide) (fun hc14 => ?_) (fun hc14 => ?_)
      · replace hP := hP.1 hc14
        refine im_ld (q := 72) (i := 0) D65_71 rfl rfl rfl ?_
        refine im_gfR (q := 75) (b := 13) D65_72 (im_fl cn_65 fl_4_25) sf_23 rfl rfl tR_4_0 rfl ?_
        refine im_gfR (q := 78) (b := 21) D65_75 (im_fl cn_65 fl_4_168) sf_13 rfl rfl tR_5_7 rfl ?_
        refine im_ld (q := 79) (i := 1) D65_78 rfl rfl rfl ?_
        refine im_lald (q := 80) D65_79 sf_21 hg12.1 hg12.2 (by decide) rfl ?_
        refine im_lconst (q := 81) (z := 0) D65_80 rfl ?_
        refine im_lif (q := 82) (q2 := 85) (t := 106) D65_81 D65_82 rfl hr13 (by decide) (fun hc16 => ?_) (fun hc16 => ?_)
        · replace hP := hP.1 hc16
          refine im_ld (q := 107) (i := 0) D65_106 rfl rfl rfl ?_
          refine im_callV (q := 110) (kd := 1) (y := 57) (n := 0) (ci := 4) (a := 23) (vs := [.ref 23]) (r := []) (L2 := [some (.ref 23)]) D65_107 (im_cal cn_65 cl_4_141) (Or.inl rfl) rfl sf_23 rfl rfl rfl rfl hd ⟨rfl, trivial⟩ ?_
          refine hP.mono ?_
          rintro _ e24 M19 ⟨rfl, rfl, hP⟩
          refine im_bkN ?_
          refine im_ld (q := 111) (i := 0) D65_110 rfl rfl rfl ?_
          refine im_gfR (q := 114) (b := 26) D65_111 (im_fl cn_65 fl_4_21) sf_23 rfl rfl tR_4_6 rfl ?_
          refine im_ld (q := 115) (i := 0) D65_114 rfl rfl rfl ?_
          refine im_gfR (q := 118) (b := 2) D65_115 (im_fl cn_65 fl_4_29) sf_23 rfl rfl tR_4_1 rfl ?_
          refine im_gfR (q := 121) (b := 5) D65_118 (im_fl cn_65 fl_4_171) sf_2 rfl rfl tR_6_7 rfl ?_
          refine im_callV (q := 124) (kd := 1) (y := 66) (n := 1) (ci := 3) (a := 26) (vs := [.ref 26, .ref 5]) (r := []) (L2 := [some (.ref 26), some (.ref 5), none]) D65_121 (im_cal cn_65 cl_4_186) (Or.inl rfl) rfl sf_26 rfl rfl rfl rfl hd ⟨rfl, rfl, trivial⟩ ?_
          refine hP.mono ?_
          rintro _ e23 M20 ⟨rfl, rfl, hP⟩
          refine im_bkN ?_
          refine im_ld (q := 125) (i := 0) D65_124 rfl rfl rfl ?_
          refine im_bipush (q := 127) D65_125 rfl ?_
          refine im_ld (q := 128) (i := 1) D65_127 rfl rfl rfl ?_
          refine im_callV (q := 131) (kd := 1) (y := 39) (n := 2) (ci := 4) (a := 23) (vs := [.ref 23, vI 104, vI p1]) (r := []) (L2 := [some (.ref 23), some (vI 104), some (vI p1)]) D65_128 (im_cal cn_65 cl_4_49) (Or.inl rfl) rfl sf_23 rfl rfl rfl rfl hd ⟨rfl, rfl, rfl, trivial⟩ ?_
          refine hP.mono ?_
          rintro _ e22 M21 ⟨rfl, rfl, hP⟩
          refine im_bkN ?_
          refine im_iconst (q := 132) D65_131 ?_
          exact im_iret (q := 133) D65_132 rfl hP
        · replace hP := hP.2 (Decidable.not_not.mp hc16)
          refine im_ld (q := 86) (i := 0) D65_85 rfl rfl rfl ?_
          refine im_gfR (q := 89) (b := 13) D65_86 (im_fl cn_65 fl_4_25) sf_23 rfl rfl tR_4_0 rfl ?_
          refine im_gfR (q := 92) (b := 18) D65_89 (im_fl cn_65 fl_4_138) sf_13 rfl rfl tR_5_4 rfl ?_
          refine im_ld (q := 93) (i := 1) D65_92 rfl rfl rfl ?_
          refine im_ld (q := 94) (i := 0) D65_93 rfl rfl rfl ?_
          refine im_gfR (q := 97) (b := 13) D65_94 (im_fl cn_65 fl_4_25) sf_23 rfl rfl tR_4_0 rfl ?_
          refine im_rng (j := 10) sf_13 (by decide) (by decide) (fun hr17 => ?_)
          refine im_gfI (q := 100) D65_97 (im_fl cn_65 fl_4_75) sf_13 rfl rfl tI_5_10 rfl ?_
          refine im_ld (q := 101) (i := 0) D65_100 rfl rfl rfl ?_
          refine im_rng (j := 5) sf_23 (by decide) (by decide) (fun hr18 => ?_)
          refine im_gfI (q := 104) D65_101 (im_fl cn_65 fl_4_43) sf_23 rfl rfl tI_4_5 rfl ?_
          refine im_iadd (q := 105) D65_104 ?_
          obtain ⟨hg25, hP⟩ := hP
          refine im_iast (q := 106) D65_105 sf_18 hg12.1 hg12.2 (by decide) hg25 ?_
          refine im_ld (q := 107) (i := 0) D65_106 rfl rfl rfl ?_
          refine im_callV (q := 110) (kd := 1) (y := 57) (n := 0) (ci := 4) (a := 23) (vs := [.ref 23]) (r := []) (L2 := [some (.ref 23)]) D65_107 (im_cal cn_65 cl_4_141) (Or.inl rfl) rfl sf_23 rfl rfl rfl rfl hd ⟨rfl, trivial⟩ ?_
          refine hP.mono ?_
          rintro _ e31 M26 ⟨rfl, rfl, hP⟩
          refine im_bkN ?_
          refine im_ld (q := 111) (i := 0) D65_110 rfl rfl rfl ?_
          refine im_gfR (q := 114) (b := 26) D65_111 (im_fl cn_65 fl_4_21) sf_23 rfl rfl tR_4_6 rfl ?_
          refine im_ld (q := 115) (i := 0) D65_114 rfl rfl rfl ?_
          refine im_gfR (q := 118) (b := 2) D65_115 (im_fl cn_65 fl_4_29) sf_23 rfl rfl tR_4_1 rfl ?_
          refine im_gfR (q := 121) (b := 5) D65_118 (im_fl cn_65 fl_4_171) sf_2 rfl rfl tR_6_7 rfl ?_
          refine im_callV (q := 124) (kd := 1) (y := 66) (n := 1) (ci := 3) (a := 26) (vs := [.ref 26, .ref 5]) (r := []) (L2 := [some (.ref 26), some (.ref 5), none]) D65_121 (im_cal cn_65 cl_4_186) (Or.inl rfl) rfl sf_26 rfl rfl rfl rfl hd ⟨rfl, rfl, trivial⟩ ?_
          refine hP.mono ?_
          rintro _ e30 M27 ⟨rfl, rfl, hP⟩
          refine im_bkN ?_
          refine im_ld (q := 125) (i := 0) D65_124 rfl rfl rfl ?_
          refine im_bipush (q := 127) D65_125 rfl ?_
          refine im_ld (q := 128) (i := 1) D65_127 rfl rfl rfl ?_
          refine im_callV (q := 131) (kd := 1) (y := 39) (n := 2) (ci := 4) (a := 23) (vs := [.ref 23, vI 104, vI p1]) (r := []) (L2 := [some (.ref 23), some (vI 104), some (vI p1)]) D65_128 (im_cal cn_65 cl_4_49) (Or.inl rfl) rfl sf_23 rfl rfl rfl rfl hd ⟨rfl, rfl, rfl, trivial⟩ ?_
          refine hP.mono ?_
          rintro _ e29 M28 ⟨rfl, rfl, hP⟩
          refine im_bkN ?_
          refine im_iconst (q := 132) D65_131 ?_
          exact im_iret (q := 133) D65_132 rfl hP
      · replace hP := hP.2 (Int.not_lt.mp hc14)
        refine im_bipush (q := 70) D65_68 rfl ?_
        exact im_iret (q := 71) D65_70 rfl hP
    · replace hP := hP.2 hc11
      refine im_iconst (q := 51) D65_50 ?_
      exact im_iret (q := 52) D65_51 rfl hP
  refine im_icmp (q := 12) (t := 38) D65_9 rfl hr1 (by decide) (fun hc2 => ?_) (fun hc2 => ?_)
  · exact (kJ8  (Or.inl hc2)).wk ⟨rfl, rfl, trivial⟩
  · replace hP := hP (Decidable.not_not.mp hc2)
    refine im_ld (q := 13) (i := 0) D65_12 rfl rfl rfl ?_
    refine im_gfR (q := 16) (b := 13) D65_13 (im_fl cn_65 fl_4_25) sf_23 rfl rfl tR_4_0 rfl ?_
    refine im_gfR (q := 19) (b := 21) D65_16 (im_fl cn_65 fl_4_168) sf_13 rfl rfl tR_5_7 rfl ?_
    refine im_ld (q := 20) (i := 1) D65_19 rfl rfl rfl ?_
    obtain ⟨hg3, hP⟩ := hP
    refine im_rng (j := p1) sf_21 hg3.1 hg3.2 (fun hr4 => ?_)
    refine im_lald (q := 21) D65_20 sf_21 hg3.1 hg3.2 (by decide) rfl ?_
    refine im_lconst (q := 22) (z := 0) D65_21 rfl ?_
    refine im_lif (q := 23) (q2 := 26) (t := 38) D65_22 D65_23 rfl hr4 (by decide) (fun hc5 => ?_) (fun hc5 => ?_)
    · exact (kJ8  (Or.inr ⟨(Decidable.not_not.mp hc2), hc5⟩)).wk ⟨rfl, rfl, trivial⟩
    · replace hP := hP (Int.not_le.mp hc5)
      refine im_ld (q := 27) (i := 0) D65_26 rfl rfl rfl ?_
      refine im_dup (q := 28) D65_27 rfl ?_
      refine im_rng (j := 4) sf_23 (by decide) (by decide) (fun hr6 => ?_)
      refine im_gfI (q := 31) D65_28 (im_fl cn_65 fl_4_46) sf_23 rfl rfl tI_4_4 rfl ?_
      refine im_iconst (q := 32) D65_31 ?_
      refine im_isub (q := 33) D65_32 ?_
      obtain ⟨hg32, hP⟩ := hP
      refine im_pfI (q := 36) D65_33 (im_fl cn_65 fl_4_46) sf_23 rfl rfl ti_4_4 hg32 ?_
      refine im_iconst (q := 37) D65_36 ?_
      exact im_iret (q := 38) D65_37 rfl hP
set_option maxRecDepth 20000 in
set_option maxHeartbeats 4000000 in
theorem k_Num_copy_0 {g : im_g} {d : Nat} {e : im_E} {M : im_M} {K : im_K} {a0 : Nat} (ha0 : im_num e a0) {p1 : Nat} (hp1 : im_num e p1) (hP : im_T g d 66 18 [some (.ref a0), some (.ref p1), some (vI 0)] [] e (im_u (im_u M a0 0 (M p1 0)) a0 1 ((im_u M a0 0 (M p1 0)) p1 1)) K) : im_T g d 66 0 [some (.ref a0), some (.ref p1), none] [] e M K := by
  refine im_ld (q := 1) (i := 0) D66_0 rfl rfl rfl ?_
  refine im_ld (q := 2) (i := 1) D66_1 rfl rfl rfl ?_
  refine im_rng (j := 0) hp1.1 (by decide) (show (0 : Int) < ((3 : Nat) : Int) by decide) (fun hr1 => ?_)
  refine im_gfI (q := 5) D66_2 (im_fl cn_66 fl_3_15) hp1.1 rfl rfl tI_3_0 rfl ?_
  refine im_pfI (q := 8) D66_5 (im_fl cn_66 fl_3_15) ha0.1 rfl rfl ti_3_0 hr1 ?_
  refine im_ld (q := 9) (i := 0) D66_8 rfl rfl rfl ?_
  refine im_ld (q := 10) (i := 1) D66_9 rfl rfl rfl ?_
  refine im_rng (j := 1) hp1.1 (by decide) (show (1 : Int) < ((3 : Nat) : Int) by decide) (fun hr2 => ?_)
  refine im_gfI (q := 13) D66_10 (im_fl cn_66 fl_3_19) hp1.1 rfl rfl tI_3_1 rfl ?_
  refine im_pfI (q := 16) D66_13 (im_fl cn_66 fl_3_19) ha0.1 rfl rfl ti_3_1 hr2 ?_
  refine im_iconst (q := 17) D66_16 ?_
  refine im_st1 (q := 18) (i := 2) (L' := [some (.ref a0), some (.ref p1), some (vI 0)]) D66_17 (Or.inl ⟨_, rfl, rfl⟩) (Nat.le_of_ble_eq_true rfl) rfl ?_
  exact hP.wk ⟨rfl, rfl, rfl, trivial⟩
set_option maxRecDepth 20000 in
set_option maxHeartbeats 4000000 in
theorem k_Num_copy_18 {g : im_g} {d : Nat} {e : im_E} {M : im_M} {K : im_K} {p2 : Int} {a0 : Nat} (ha0 : im_num e a0) {p1 : Nat} (hp1 : im_num e p1) (hP : (im_i32 p2) ∧ (((M a0 1) ≤ p2 → K (.inl none) e M) ∧ (p2 < (M a0 1) → (0 ≤ p2 ∧ p2 < 34) ∧ im_T g d 66 18 [some (.ref a0), some (.ref p1), some (vI (p2 + 1))] [] e (im_u M (a0 + 1) p2 (M (p1 + 1) p2)) K))) : im_T g d 66 18 [some (.ref a0), some (.ref p1), some (vI p2)] [] e M K := by
  refine im_ld (q := 19) (i := 2) D66_18 rfl rfl rfl ?_
  refine im_ld (q := 20) (i := 0) D66_19 rfl rfl rfl ?_
  refine im_rng (j := 1) ha0.1 (by decide) (show (1 : Int) < ((3 : Nat) : Int) by decide) (fun hr1 => ?_)
  refine im_gfI (q := 23) D66_20 (im_fl cn_66 fl_3_19) ha0.1 rfl rfl tI_3_1 rfl ?_
  obtain ⟨hg2, hP⟩ := hP
  refine im_icmp (q := 26) (t := 44) D66_23 rfl hg2 hr1 (fun hc3 => ?_) (fun hc3 => ?_)
  · replace hP := hP.1 hc3
    exact im_vret (q := 45) D66_44 rfl hP
  · replace hP := hP.2 (Int.not_le.mp hc3)
    refine im_ld (q := 27) (i := 0) D66_26 rfl rfl rfl ?_
    refine im_gfR (q := 30) (b := (a0 + 1)) D66_27 (im_fl cn_66 fl_3_9) ha0.1 rfl rfl tR_3_2 rfl ?_
    refine im_ld (q := 31) (i := 2) D66_30 rfl rfl rfl ?_
    refine im_ld (q := 32) (i := 1) D66_31 rfl rfl rfl ?_
    refine im_gfR (q := 35) (b := (p1 + 1)) D66_32 (im_fl cn_66 fl_3_9) hp1.1 rfl rfl tR_3_2 rfl ?_
    refine im_ld (q := 36) (i := 2) D66_35 rfl rfl rfl ?_
    obtain ⟨hg4, hP⟩ := hP
    refine im_rng (j := p2) hp1.2 hg4.1 hg4.2 (fun hr5 => ?_)
    refine im_iald (q := 37) D66_36 hp1.2 hg4.1 hg4.2 (by decide) rfl ?_
    refine im_iast (q := 38) D66_37 ha0.2 hg4.1 hg4.2 (by decide) hr5 ?_
    refine im_iinc (q := 41) (i := 2) (L' := [some (.ref a0), some (.ref p1), some (vI (p2 + 1))]) D66_38 rfl (Nat.le_of_ble_eq_true rfl) rfl ?_
    refine im_goto (q := 44) (t := 18) D66_41 rfl ?_
    exact hP.wk ⟨rfl, rfl, rfl, trivial⟩
set_option maxRecDepth 20000 in
set_option maxHeartbeats 4000000 in
theorem k_Parser_meetSecondBound_0 {g : im_g} {d : Nat} {e : im_E} {M : im_M} {K : im_K} {p1 : Int} (hd : 1 ≤ d) (hP : (((M 2 4) = 34 → im_T g (d - 1) 68 0 [some (.ref 5), some (.ref 26)] [] e M (im_ri (fun x4 e_ M3 => e = e_ ∧ (im_i32 x4) ∧ ((0 ≤ x4 → (im_i32 ((M3 23 4) - 1)) ∧ im_T g (d - 1) 57 0 [some (.ref 23)] [] e (im_u M3 23 4 ((M3 23 4) - 1)) (im_r0 (fun  e_ M9 => e = e_ ∧ (0 ≤ p1 ∧ p1 < 5000) ∧ (im_i64 ((M9 21 p1) + 1)) ∧ K (.inl (some (vI 0))) e (im_u M9 21 p1 ((M9 21 p1) + 1))))) ∧ (x4 < 0 → K (.inl (some (vI 6))) e M3))))) ∧ (¬ (M 2 4) = 34 → K (.inl (some (vI 4))) e M))) : im_T g d 67 0 [some (.ref 23), some (vI p1)] [] e M K := by
  refine im_ld (q := 1) (i := 0) D67_0 rfl rfl rfl ?_
  refine im_gfR (q := 4) (b := 2) D67_1 (im_fl cn_67 fl_4_29) sf_23 rfl rfl tR_4_1 rfl ?_
  refine im_rng (j := 4) sf_2 (by decide) (by decide) (fun hr1 => ?_)
  refine im_gfI (q := 7) D67_4 (im_fl cn_67 fl_4_56) sf_2 rfl rfl tI_6_4 rfl ?_
  refine im_bipush (q := 9) D67_7 rfl ?_
  refine im_icmp (q := 12) (t := 14) D67_9 rfl hr1 (by decide) (fun hc2 => ?_) (fun hc2 => ?_)
  · replace hP := hP.1 hc2
    refine im_ld (q := 15) (i := 0) D67_14 rfl rfl rfl ?_
    refine im_gfR (q := 18) (b := 2) D67_15 (im_fl cn_67 fl_4_29) sf_23 rfl rfl tR_4_1 rfl ?_
    refine im_gfR (q := 21) (b := 5) D67_18 (im_fl cn_67 fl_4_171) sf_2 rfl rfl tR_6_7 rfl ?_
    refine im_ld (q := 22) (i := 0) D67_21 rfl rfl rfl ?_
    refine im_gfR (q := 25) (b := 26) D67_22 (im_fl cn_67 fl_4_21) sf_23 rfl rfl tR_4_6 rfl ?_
    refine im_callV (q := 28) (kd := 1) (y := 68) (n := 1) (ci := 3) (a := 5) (vs := [.ref 5, .ref 26]) (r := []) (L2 := [some (.ref 5), some (.ref 26)]) D67_25 (im_cal cn_67 cl_4_190) (Or.inl rfl) rfl sf_5 rfl rfl rfl rfl hd ⟨rfl, rfl, trivial⟩ ?_
    refine hP.mono ?_
    rintro _ e14 M3 ⟨x4, rfl, rfl, hP⟩
    refine im_bkS ?_
    obtain ⟨hg5, hP⟩ := hP
    refine im_ifc (q := 31) (t := 34) D67_28 rfl hg5 (fun hc6 => ?_) (fun hc6 => ?_)
    · replace hP := hP.1 hc6
      refine im_ld (q := 35) (i := 0) D67_34 rfl rfl rfl ?_
      refine im_dup (q := 36) D67_35 rfl ?_
      refine im_rng (j := 4) sf_23 (by decide) (by decide) (fun hr7 => ?_)
      refine im_gfI (q := 39) D67_36 (im_fl cn_67 fl_4_46) sf_23 rfl rfl tI_4_4 rfl ?_
      refine im_iconst (q := 40) D67_39 ?_
      refine im_isub (q := 41) D67_40 ?_
      obtain ⟨hg8, hP⟩ := hP
      refine im_pfI (q := 44) D67_41 (im_fl cn_67 fl_4_46) sf_23 rfl rfl ti_4_4 hg8 ?_
      refine im_ld (q := 45) (i := 0) D67_44 rfl rfl rfl ?_
      refine im_callV (q := 48) (kd := 1) (y := 57) (n := 0) (ci := 4) (a := 23) (vs := [.ref 23]) (r := []) (L2 := [some (.ref 23)]) D67_45 (im_cal cn_67 cl_4_141) (Or.inl rfl) rfl sf_23 rfl rfl rfl rfl hd ⟨rfl, trivial⟩ ?_
      refine hP.mono ?_
      rintro _ e13 M9 ⟨rfl, rfl, hP⟩
      refine im_bkN ?_
      refine im_ld (q := 49) (i := 0) D67_48 rfl rfl rfl ?_
      refine im_gfR (q := 52) (b := 13) D67_49 (im_fl cn_67 fl_4_25) sf_23 rfl rfl tR_4_0 rfl ?_
      refine im_gfR (q := 55) (b := 21) D67_52 (im_fl cn_67 fl_4_168) sf_13 rfl rfl tR_5_7 rfl ?_
      refine im_ld (q := 56) (i := 1) D67_55 rfl rfl rfl ?_
      refine im_dup2 (q := 57) D67_56 rfl rfl ?_
      obtain ⟨hg10, hP⟩ := hP
      refine im_rng (j := p1) sf_21 hg10.1 hg10.2 (fun hr11 => ?_)
      refine im_lald (q := 58) D67_57 sf_21 hg10.1 hg10.2 (by decide) rfl ?_
      refine im_lconst (q := 59) (z := 1) D67_58 rfl ?_
      refine im_ladd (q := 60) D67_59 ?_
      obtain ⟨hg12, hP⟩ := hP
      refine im_last (q := 61) D67_60 sf_21 hg10.1 hg10.2 (by decide) hg12 ?_
      refine im_iconst (q := 62) D67_61 ?_
      exact im_iret (q := 63) D67_62 rfl hP
    · replace hP := hP.2 (Int.not_le.mp hc6)
      refine im_bipush (q := 33) D67_31 rfl ?_
      exact im_iret (q := 34) D67_33 rfl hP
  · replace hP := hP.2 hc2
    refine im_iconst (q := 13) D67_12 ?_
    exact im_iret (q := 14) D67_13 rfl hP
set_option maxRecDepth 20000 in
set_option maxHeartbeats 4000000 in
theorem k_Num_compare_0 {g : im_g} {d : Nat} {e : im_E} {M : im_M} {K : im_K} {a0 : Nat} (ha0 : im_num e a0) {p1 : Nat} (hp1 : im_num e p1) (hd : 1 ≤ d) (hP : (((((M a0 0) = (M p1 0) → im_T g (d - 1) 69 0 [some (.ref a0), some (.ref p1), none] [] e M (im_ri (fun x13 e_ M12 => e = e_ ∧ K (.inl (some (vI ((M a0 0) * x13)))) e M12))))) ∧ (∀ x8 : Int, (((¬ (M a0 0) = (M p1 0)) ∧ ((M p1 0) ≤ (M a0 0)) ∧ x8 = 1) ∨ ((¬ (M a0 0) = (M p1 0)) ∧ ((M a0 0) < (M p1 0)) ∧ x8 = (-1))) → K (.inl (some (vI x8))) e M))) : im_T g d 68 0 [some (.ref a0), some (.ref p1)] [] e M K := by
  refine im_ld (q := 1) (i := 0) D68_0 rfl rfl rfl ?_
  refine im_rng (j := 0) ha0.1 (by decide) (show (0 : Int) < ((3 : Nat) : Int) by decide) (fun hr1 => ?_)
  refine im_gfI (q := 4) D68_1 (im_fl cn_68 fl_3_15) ha0.1 rfl rfl tI_3_0 rfl ?_
  refine im_ld (q := 5) (i := 1) D68_4 rfl rfl rfl ?_
  refine im_rng (j := 0) hp1.1 (by decide) (show (0 : Int) < ((3 : Nat) : Int) by decide) (fun hr2 => ?_)
  refine im_gfI (q := 8) D68_5 (im_fl cn_68 fl_3_15) hp1.1 rfl rfl tI_3_0 rfl ?_
  obtain ⟨hP, hJ9⟩ := hP
  have kJ10 : ∀ x8 : Int, (((¬ (M a0 0) = (M p1 0)) ∧ ((M p1 0) ≤ (M a0 0)) ∧ x8 = 1) ∨ ((¬ (M a0 0) = (M p1 0)) ∧ ((M a0 0) < (M p1 0)) ∧ x8 = (-1))) → im_T g d 68 27 [none, none] [vI x8] e M K := by
    intro x8 hx11
    have hP := hJ9 x8 hx11
    exact im_iret (q := 28) D68_27 rfl hP
  refine im_icmp (q := 11) (t := 28) D68_8 rfl hr1 hr2 (fun hc3 => ?_) (fun hc3 => ?_)
  · replace hP := hP hc3
    refine im_ld (q := 29) (i := 0) D68_28 rfl rfl rfl ?_
    refine im_gfI (q := 32) D68_29 (im_fl cn_68 fl_3_15) ha0.1 rfl rfl tI_3_0 rfl ?_
    refine im_ld (q := 33) (i := 0) D68_32 rfl rfl rfl ?_
    refine im_ld (q := 34) (i := 1) D68_33 rfl rfl rfl ?_
    refine im_callV (q := 37) (kd := 1) (y := 69) (n := 1) (ci := 3) (a := a0) (vs := [.ref a0, .ref p1]) (r := [vI (M a0 0)]) (L2 := [some (.ref a0), some (.ref p1), none]) D68_34 (im_cal cn_68 cl_3_37) (Or.inl rfl) rfl ha0.1 rfl rfl rfl rfl hd ⟨rfl, rfl, trivial⟩ ?_
    refine hP.mono ?_
    rintro _ e14 M12 ⟨x13, rfl, rfl, hP⟩
    refine im_bkS ?_
    refine im_imul (q := 38) D68_37 ?_
    exact im_iret (q := 39) D68_38 rfl hP
  · refine im_ld (q := 12) (i := 0) D68_11 rfl rfl rfl ?_
    refine im_gfI (q := 15) D68_12 (im_fl cn_68 fl_3_15) ha0.1 rfl rfl tI_3_0 rfl ?_
    refine im_ld (q := 16) (i := 1) D68_15 rfl rfl rfl ?_
    refine im_gfI (q := 19) D68_16 (im_fl cn_68 fl_3_15) hp1.1 rfl rfl tI_3_0 rfl ?_
    refine im_icmp (q := 22) (t := 26) D68_19 rfl hr1 hr2 (fun hc7 => ?_) (fun hc7 => ?_)
    · refine im_iconst (q := 27) D68_26 ?_
      exact (kJ10 (1) (Or.inl ⟨hc3, hc7, rfl⟩)).wk trivial
    · refine im_iconst (q := 23) D68_22 ?_
      refine im_goto (q := 26) (t := 27) D68_23 rfl ?_
      exact (kJ10 ((-1)) (Or.inr ⟨hc3, (Int.not_le.mp hc7), rfl⟩)).wk trivial
set_option maxRecDepth 20000 in
set_option maxHeartbeats 4000000 in
theorem k_Num_compareSize_0 {g : im_g} {d : Nat} {e : im_E} {M : im_M} {K : im_K} {a0 : Nat} (ha0 : im_num e a0) {p1 : Nat} (hp1 : im_num e p1) (hP : (((((M a0 1) = (M p1 1) → im_T g d 69 35 [some (.ref a0), some (.ref p1), some (vI ((M a0 1) - 1))] [] e M K))) ∧ (∀ x8 : Int, (((¬ (M a0 1) = (M p1 1)) ∧ ((M p1 1) ≤ (M a0 1)) ∧ x8 = 1) ∨ ((¬ (M a0 1) = (M p1 1)) ∧ ((M a0 1) < (M p1 1)) ∧ x8 = (-1))) → K (.inl (some (vI x8))) e M))) : im_T g d 69 0 [some (.ref a0), some (.ref p1), none] [] e M K := by
  refine im_ld (q := 1) (i := 0) D69_0 rfl rfl rfl ?_
  refine im_rng (j := 1) ha0.1 (by decide) (show (1 : Int) < ((3 : Nat) : Int) by decide) (fun hr1 => ?_)
  refine im_gfI (q := 4) D69_1 (im_fl cn_69 fl_3_19) ha0.1 rfl rfl tI_3_1 rfl ?_
  refine im_ld (q := 5) (i := 1) D69_4 rfl rfl rfl ?_
  refine im_rng (j := 1) hp1.1 (by decide) (show (1 : Int) < ((3 : Nat) : Int) by decide) (fun hr2 => ?_)
  refine im_gfI (q := 8) D69_5 (im_fl cn_69 fl_3_19) hp1.1 rfl rfl tI_3_1 rfl ?_
  obtain ⟨hP, hJ9⟩ := hP
  have kJ10 : ∀ x8 : Int, (((¬ (M a0 1) = (M p1 1)) ∧ ((M p1 1) ≤ (M a0 1)) ∧ x8 = 1) ∨ ((¬ (M a0 1) = (M p1 1)) ∧ ((M a0 1) < (M p1 1)) ∧ x8 = (-1))) → im_T g d 69 27 [none, none, none] [vI x8] e M K := by
    intro x8 hx11
    have hP := hJ9 x8 hx11
    exact im_iret (q := 28) D69_27 rfl hP
  refine im_icmp (q := 11) (t := 28) D69_8 rfl hr1 hr2 (fun hc3 => ?_) (fun hc3 => ?_)
  · replace hP := hP hc3
    refine im_ld (q := 29) (i := 0) D69_28 rfl rfl rfl ?_
    refine im_gfI (q := 32) D69_29 (im_fl cn_69 fl_3_19) ha0.1 rfl rfl tI_3_1 rfl ?_
    refine im_iconst (q := 33) D69_32 ?_
    refine im_isub (q := 34) D69_33 ?_
    refine im_st1 (q := 35) (i := 2) (L' := [some (.ref a0), some (.ref p1), some (vI ((M a0 1) - 1))]) D69_34 (Or.inl ⟨_, rfl, rfl⟩) (Nat.le_of_ble_eq_true rfl) rfl ?_
    exact hP.wk ⟨rfl, rfl, rfl, trivial⟩
  · refine im_ld (q := 12) (i := 0) D69_11 rfl rfl rfl ?_
    refine im_gfI (q := 15) D69_12 (im_fl cn_69 fl_3_19) ha0.1 rfl rfl tI_3_1 rfl ?_
    refine im_ld (q := 16) (i := 1) D69_15 rfl rfl rfl ?_
    refine im_gfI (q := 19) D69_16 (im_fl cn_69 fl_3_19) hp1.1 rfl rfl tI_3_1 rfl ?_
    refine im_icmp (q := 22) (t := 26) D69_19 rfl hr1 hr2 (fun hc7 => ?_) (fun hc7 => ?_)
    · refine im_iconst (q := 27) D69_26 ?_
      exact (kJ10 (1) (Or.inl ⟨hc3, hc7, rfl⟩)).wk trivial
    · refine im_iconst (q := 23) D69_22 ?_
      refine im_goto (q := 26) (t := 27) D69_23 rfl ?_
      exact (kJ10 ((-1)) (Or.inr ⟨hc3, (Int.not_le.mp hc7), rfl⟩)).wk trivial
set_option maxRecDepth 20000 in
set_option maxHeartbeats 4000000 in
theorem k_Num_compareSize_35 {g : im_g} {d : Nat} {e : im_E} {M : im_M} {K : im_K} {p2 : Int} {a0 : Nat} (ha0 : im_num e a0) {p1 : Nat} (hp1 : im_num e p1) (hP : (im_i32 p2) ∧ ((((p2 < 0 → K (.inl (some (vI 0))) e M) ∧ (0 ≤ p2 → (0 ≤ p2 ∧ p2 < 34) ∧ (((M (a0 + 1) p2) = (M (p1 + 1) p2) → im_T g d 69 35 [some (.ref a0), some (.ref p1), some (vI (p2 + (-1)))] [] e M K))))) ∧ (∀ x10 : Int, (((0 ≤ p2) ∧ (¬ (M (a0 + 1) p2) = (M (p1 + 1) p2)) ∧ ((M (p1 + 1) p2) ≤ (M (a0 + 1) p2)) ∧ x10 = 1) ∨ ((0 ≤ p2) ∧ (¬ (M (a0 + 1) p2) = (M (p1 + 1) p2)) ∧ ((M (a0 + 1) p2) < (M (p1 + 1) p2)) ∧ x10 = (-1))) → K (.inl (some (vI x10))) e M))) : im_T g d 69 35 [some (.ref a0), some (.ref p1), some (vI p2)] [] e M K := by
  refine im_ld (q := 36) (i := 2) D69_35 rfl rfl rfl ?_
  obtain ⟨hg1, hP⟩ := hP
  obtain ⟨hP, hJ11⟩ := hP
  have kJ12 : ∀ x10 : Int, (((0 ≤ p2) ∧ (¬ (M (a0 + 1) p2) = (M (p1 + 1) p2)) ∧ ((M (p1 + 1) p2) ≤ (M (a0 + 1) p2)) ∧ x10 = 1) ∨ ((0 ≤ p2) ∧ (¬ (M (a0 + 1) p2) = (M (p1 + 1) p2)) ∧ ((M (a0 + 1) p2) < (M (p1 + 1) p2)) ∧ x10 = (-1))) → im_T g d 69 74 [none, none, none] [vI x10] e M K := by
    intro x10 hx13
    have hP := hJ11 x10 hx13
    exact im_iret (q := 75) D69_74 rfl hP
  refine im_ifc (q := 39) (t := 81) D69_36 rfl hg1 (fun hc2 => ?_) (fun hc2 => ?_)
  · replace hP := hP.1 hc2
    refine im_iconst (q := 82) D69_81 ?_
    exact im_iret (q := 83) D69_82 rfl hP
  · replace hP := hP.2 (Int.not_lt.mp hc2)
    refine im_ld (q := 40) (i := 0) D69_39 rfl rfl rfl ?_
    refine im_gfR (q := 43) (b := (a0 + 1)) D69_40 (im_fl cn_69 fl_3_9) ha0.1 rfl rfl tR_3_2 rfl ?_
    refine im_ld (q := 44) (i := 2) D69_43 rfl rfl rfl ?_
    obtain ⟨hg3, hP⟩ := hP
    refine im_rng (j := p2) ha0.2 hg3.1 hg3.2 (fun hr4 => ?_)
    refine im_iald (q := 45) D69_44 ha0.2 hg3.1 hg3.2 (by decide) rfl ?_
    refine im_ld (q := 46) (i := 1) D69_45 rfl rfl rfl ?_
    refine im_gfR (q := 49) (b := (p1 + 1)) D69_46 (im_fl cn_69 fl_3_9) hp1.1 rfl rfl tR_3_2 rfl ?_
    refine im_ld (q := 50) (i := 2) D69_49 rfl rfl rfl ?_
    refine im_rng (j := p2) hp1.2 hg3.1 hg3.2 (fun hr5 => ?_)
    refine im_iald (q := 51) D69_50 hp1.2 hg3.1 hg3.2 (by decide) rfl ?_
    refine im_icmp (q := 54) (t := 75) D69_51 rfl hr4 hr5 (fun hc6 => ?_) (fun hc6 => ?_)
    · replace hP := hP hc6
      refine im_iinc (q := 78) (i := 2) (L' := [some (.ref a0), some (.ref p1), some (vI (p2 + (-1)))]) D69_75 rfl (Nat.le_of_ble_eq_true rfl) rfl ?_
      refine im_goto (q := 81) (t := 35) D69_78 rfl ?_
      exact hP.wk ⟨rfl, rfl, rfl, trivial⟩
    · refine im_ld (q := 55) (i := 0) D69_54 rfl rfl rfl ?_
      refine im_gfR (q := 58) (b := (a0 + 1)) D69_55 (im_fl cn_69 fl_3_9) ha0.1 rfl rfl tR_3_2 rfl ?_
      refine im_ld (q := 59) (i := 2) D69_58 rfl rfl rfl ?_
      refine im_iald (q := 60) D69_59 ha0.2 hg3.1 hg3.2 (by decide) rfl ?_
      refine im_ld (q := 61) (i := 1) D69_60 rfl rfl rfl ?_
      refine im_gfR (q := 64) (b := (p1 + 1)) D69_61 (im_fl cn_69 fl_3_9) hp1.1 rfl rfl tR_3_2 rfl ?_
      refine im_ld (q := 65) (i := 2) D69_64 rfl rfl rfl ?_
      refine im_iald (q := 66) D69_65 hp1.2 hg3.1 hg3.2 (by decide) rfl ?_
      refine im_icmp (q := 69) (t := 73) D69_66 rfl hr4 hr5 (fun hc9 => ?_) (fun hc9 => ?_)
      · refine im_iconst (q := 74) D69_73 ?_
        exact (kJ12 (1) (Or.inl ⟨(Int.not_lt.mp hc2), hc6, hc9, rfl⟩)).wk trivial
      · refine im_iconst (q := 70) D69_69 ?_
        refine im_goto (q := 73) (t := 74) D69_70 rfl ?_
        exact (kJ12 ((-1)) (Or.inr ⟨(Int.not_lt.mp hc2), hc6, (Int.not_le.mp hc9), rfl⟩)).wk trivial
set_option maxRecDepth 20000 in
set_option maxHeartbeats 4000000 in
theorem k_Parser_meetShut_0 {g : im_g} {d : Nat} {e : im_E} {M : im_M} {K : im_K} (hP : (((M 2 4) = 38 → (0 ≤ ((M 23 4) - 1) ∧ ((M 23 4) - 1) < 1024) ∧ (im_i32 ((M 25 ((M 23 4) - 1)) - 1)) ∧ ((¬ ((M 25 ((M 23 4) - 1)) - 1) = 0 → K (.inl (some (vI 0))) e (im_u M 25 ((M 23 4) - 1) ((M 25 ((M 23 4) - 1)) - 1))) ∧ (((M 25 ((M 23 4) - 1)) - 1) = 0 → (im_i32 ((M 23 4) - 1)) ∧ K (.inl (some (vI 0))) e (im_u (im_u M 25 ((M 23 4) - 1) ((M 25 ((M 23 4) - 1)) - 1)) 23 4 ((M 23 4) - 1))))) ∧ (¬ (M 2 4) = 38 → K (.inl (some (vI 4))) e M))) : im_T g d 70 0 [some (.ref 23)] [] e M K := by
  refine im_ld (q := 1) (i := 0) D70_0 rfl rfl rfl ?_
  refine im_gfR (q := 4) (b := 2) D70_1 (im_fl cn_70 fl_4_29) sf_23 rfl rfl tR_4_1 rfl ?_
  refine im_rng (j := 4) sf_2 (by decide) (by decide) (fun hr1 => ?_)
  refine im_gfI (q := 7) D70_4 (im_fl cn_70 fl_4_56) sf_2 rfl rfl tI_6_4 rfl ?_
  refine im_bipush (q := 9) D70_7 rfl ?_
  refine im_icmp (q := 12) (t := 14) D70_9 rfl hr1 (by decide) (fun hc2 => ?_) (fun hc2 => ?_)
  · replace hP := hP.1 hc2
    refine im_ld (q := 15) (i := 0) D70_14 rfl rfl rfl ?_
    refine im_gfR (q := 18) (b := 25) D70_15 (im_fl cn_70 fl_4_15) sf_23 rfl rfl tR_4_3 rfl ?_
    refine im_ld (q := 19) (i := 0) D70_18 rfl rfl rfl ?_
    refine im_rng (j := 4) sf_23 (by decide) (by decide) (fun hr3 => ?_)
    refine im_gfI (q := 22) D70_19 (im_fl cn_70 fl_4_46) sf_23 rfl rfl tI_4_4 rfl ?_
    refine im_iconst (q := 23) D70_22 ?_
    refine im_isub (q := 24) D70_23 ?_
    refine im_dup2 (q := 25) D70_24 rfl rfl ?_
    obtain ⟨hg4, hP⟩ := hP
    refine im_rng (j := ((M 23 4) - 1)) sf_25 hg4.1 hg4.2 (fun hr5 => ?_)
    refine im_iald (q := 26) D70_25 sf_25 hg4.1 hg4.2 (by decide) rfl ?_
    refine im_iconst (q := 27) D70_26 ?_
    refine im_isub (q := 28) D70_27 ?_
    obtain ⟨hg6, hP⟩ := hP
    refine im_iast (q := 29) D70_28 sf_25 hg4.1 hg4.2 (by decide) hg6 ?_
    refine im_ld (q := 30) (i := 0) D70_29 rfl rfl rfl ?_
    refine im_gfR (q := 33) (b := 25) D70_30 (im_fl cn_70 fl_4_15) sf_23 rfl rfl tR_4_3 rfl ?_
    refine im_ld (q := 34) (i := 0) D70_33 rfl rfl rfl ?_
    refine im_gfI (q := 37) D70_34 (im_fl cn_70 fl_4_46) sf_23 rfl rfl tI_4_4 (im_rdn _ _ _ _ (by decide)) ?_
    refine im_iconst (q := 38) D70_37 ?_
    refine im_isub (q := 39) D70_38 ?_
    refine im_iald (q := 40) D70_39 sf_25 hg4.1 hg4.2 (by decide) (im_rds _ _ _ _) ?_
    refine im_ifc (q := 43) (t := 53) D70_40 rfl hg6 (fun hc9 => ?_) (fun hc9 => ?_)
    · replace hP := hP.1 hc9
      refine im_iconst (q := 54) D70_53 ?_
      exact im_iret (q := 55) D70_54 rfl hP
    · replace hP := hP.2 (Decidable.not_not.mp hc9)
      refine im_ld (q := 44) (i := 0) D70_43 rfl rfl rfl ?_
      refine im_dup (q := 45) D70_44 rfl ?_
      refine im_gfI (q := 48) D70_45 (im_fl cn_70 fl_4_46) sf_23 rfl rfl tI_4_4 (im_rdn _ _ _ _ (by decide)) ?_
      refine im_iconst (q := 49) D70_48 ?_
      refine im_isub (q := 50) D70_49 ?_
      obtain ⟨hg11, hP⟩ := hP
      refine im_pfI (q := 53) D70_50 (im_fl cn_70 fl_4_46) sf_23 rfl rfl ti_4_4 hg11 ?_
      refine im_iconst (q := 54) D70_53 ?_
      exact im_iret (q := 55) D70_54 rfl hP
  · replace hP := hP.2 hc2
    refine im_iconst (q := 13) D70_12 ?_
    exact im_iret (q := 14) D70_13 rfl hP
set_option maxRecDepth 20000 in
set_option maxHeartbeats 4000000 in
theorem k_Parser_meetWay_0 {g : im_g} {d : Nat} {e : im_E} {M : im_M} {K : im_K} {p1 : Int} (hP : ((((¬ (M 2 4) = 32 → ((¬ (M 2 4) = 33 → K (.inl (some (vI 4))) e M))))) ∧ (((((M 2 4) = 32)) ∨ ((¬ (M 2 4) = 32) ∧ ((M 2 4) = 33))) → (im_i32 ((M 23 4) - 1)) ∧ ((∀ x12 : Int, (((¬ (M 2 4) = 33) ∧ x12 = 0) ∨ (((M 2 4) = 33) ∧ x12 = 1)) → (0 ≤ p1 ∧ p1 < 5000) ∧ K (.inl (some (vI 0))) e (im_u (im_u M 23 4 ((M 23 4) - 1)) 18 p1 x12)))))) : im_T g d 71 0 [some (.ref 23), some (vI p1)] [] e M K := by
  refine im_ld (q := 1) (i := 0) D71_0 rfl rfl rfl ?_
  refine im_gfR (q := 4) (b := 2) D71_1 (im_fl cn_71 fl_4_29) sf_23 rfl rfl tR_4_1 rfl ?_
  refine im_rng (j := 4) sf_2 (by decide) (by decide) (fun hr1 => ?_)
  refine im_gfI (q := 7) D71_4 (im_fl cn_71 fl_4_56) sf_2 rfl rfl tI_6_4 rfl ?_
  refine im_bipush (q := 9) D71_7 rfl ?_
  obtain ⟨hP, hJ5⟩ := hP
  have kJ6 : ((((M 2 4) = 32)) ∨ ((¬ (M 2 4) = 32) ∧ ((M 2 4) = 33))) → im_T g d 71 26 [some (.ref 23), some (vI p1)] [] e M K := by
    intro  hx7
    have hP := hJ5  hx7
    refine im_ld (q := 27) (i := 0) D71_26 rfl rfl rfl ?_
    refine im_dup (q := 28) D71_27 rfl ?_
    refine im_rng (j := 4) sf_23 (by decide) (by decide) (fun hr8 => ?_)
    refine im_gfI (q := 31) D71_28 (im_fl cn_71 fl_4_46) sf_23 rfl rfl tI_4_4 rfl ?_
    refine im_iconst (q := 32) D71_31 ?_
    refine im_isub (q := 33) D71_32 ?_
    obtain ⟨hg9, hP⟩ := hP
    refine im_pfI (q := 36) D71_33 (im_fl cn_71 fl_4_46) sf_23 rfl rfl ti_4_4 hg9 ?_
    refine im_ld (q := 37) (i := 0) D71_36 rfl rfl rfl ?_
    refine im_gfR (q := 40) (b := 13) D71_37 (im_fl cn_71 fl_4_25) sf_23 rfl rfl tR_4_0 rfl ?_
    refine im_gfR (q := 43) (b := 18) D71_40 (im_fl cn_71 fl_4_138) sf_13 rfl rfl tR_5_4 rfl ?_
    refine im_ld (q := 44) (i := 1) D71_43 rfl rfl rfl ?_
    refine im_ld (q := 45) (i := 0) D71_44 rfl rfl rfl ?_
    refine im_gfR (q := 48) (b := 2) D71_45 (im_fl cn_71 fl_4_29) sf_23 rfl rfl tR_4_1 rfl ?_
    refine im_gfI (q := 51) D71_48 (im_fl cn_71 fl_4_56) sf_2 rfl rfl tI_6_4 (im_rdn _ _ _ _ (by decide)) ?_
    refine im_bipush (q := 53) D71_51 rfl ?_
    have hJ13 := hP
    have kJ14 : ∀ x12 : Int, (((¬ (M 2 4) = 33) ∧ x12 = 0) ∨ (((M 2 4) = 33) ∧ x12 = 1)) → im_T g d 71 61 [none, none] [vI x12, vI p1, .ref 18] e (im_u M 23 4 ((M 23 4) - 1)) K := by
      intro x12 hx15
      have hP := hJ13 x12 hx15
      obtain ⟨hg16, hP⟩ := hP
      refine im_iast (q := 62) D71_61 sf_18 hg16.1 hg16.2 (by decide) (by clear hP; omega) ?_
      refine im_iconst (q := 63) D71_62 ?_
      exact im_iret (q := 64) D71_63 rfl hP
    refine im_icmp (q := 56) (t := 60) D71_53 rfl hr1 (by decide) (fun hc11 => ?_) (fun hc11 => ?_)
    · refine im_iconst (q := 61) D71_60 ?_
      exact (kJ14 (0) (Or.inl ⟨hc11, rfl⟩)).wk trivial
    · refine im_iconst (q := 57) D71_56 ?_
      refine im_goto (q := 60) (t := 61) D71_57 rfl ?_
      exact (kJ14 (1) (Or.inr ⟨(Decidable.not_not.mp hc11), rfl⟩)).wk trivial
  refine im_icmp (q := 12) (t := 26) D71_9 rfl hr1 (by decide) (fun hc2 => ?_) (fun hc2 => ?_)
  · exact (kJ6  (Or.inl hc2)).wk ⟨rfl, rfl, trivial⟩
  · replace hP := hP hc2
    refine im_ld (q := 13) (i := 0) D71_12 rfl rfl rfl ?_
    refine im_gfR (q := 16) (b := 2) D71_13 (im_fl cn_71 fl_4_29) sf_23 rfl rfl tR_4_1 rfl ?_
    refine im_gfI (q := 19) D71_16 (im_fl cn_71 fl_4_56) sf_2 rfl rfl tI_6_4 rfl ?_
    refine im_bipush (q := 21) D71_19 rfl ?_
    refine im_icmp (q := 24) (t := 26) D71_21 rfl hr1 (by decide) (fun hc4 => ?_) (fun hc4 => ?_)
    · exact (kJ6  (Or.inr ⟨hc2, hc4⟩)).wk ⟨rfl, rfl, trivial⟩
    · replace hP := hP hc4
      refine im_iconst (q := 25) D71_24 ?_
      exact im_iret (q := 26) D71_25 rfl hP
set_option maxRecDepth 20000 in
set_option maxHeartbeats 4000000 in
theorem k_Parser_meetLeft_0 {g : im_g} {d : Nat} {e : im_E} {M : im_M} {K : im_K} (hP : (((M 2 4) = 39 → (im_i32 ((M 23 4) - 1)) ∧ K (.inl (some (vI 0))) e (im_u M 23 4 ((M 23 4) - 1))) ∧ (¬ (M 2 4) = 39 → K (.inl (some (vI 4))) e M))) : im_T g d 72 0 [some (.ref 23)] [] e M K := by
  refine im_ld (q := 1) (i := 0) D72_0 rfl rfl rfl ?_
  refine im_gfR (q := 4) (b := 2) D72_1 (im_fl cn_72 fl_4_29) sf_23 rfl rfl tR_4_1 rfl ?_
  refine im_rng (j := 4) sf_2 (by decide) (by decide) (fun hr1 => ?_)
  refine im_gfI (q := 7) D72_4 (im_fl cn_72 fl_4_56) sf_2 rfl rfl tI_6_4 rfl ?_
  refine im_bipush (q := 9) D72_7 rfl ?_
  refine im_icmp (q := 12) (t := 14) D72_9 rfl hr1 (by decide) (fun hc2 => ?_) (fun hc2 => ?_)
  · replace hP := hP.1 hc2
    refine im_ld (q := 15) (i := 0) D72_14 rfl rfl rfl ?_
    refine im_dup (q := 16) D72_15 rfl ?_
    refine im_rng (j := 4) sf_23 (by decide) (by decide) (fun hr3 => ?_)
    refine im_gfI (q := 19) D72_16 (im_fl cn_72 fl_4_46) sf_23 rfl rfl tI_4_4 rfl ?_
    refine im_iconst (q := 20) D72_19 ?_
    refine im_isub (q := 21) D72_20 ?_
    obtain ⟨hg4, hP⟩ := hP
    refine im_pfI (q := 24) D72_21 (im_fl cn_72 fl_4_46) sf_23 rfl rfl ti_4_4 hg4 ?_
    refine im_iconst (q := 25) D72_24 ?_
    exact im_iret (q := 26) D72_25 rfl hP
  · replace hP := hP.2 hc2
    refine im_iconst (q := 13) D72_12 ?_
    exact im_iret (q := 14) D72_13 rfl hP
set_option maxRecDepth 20000 in
set_option maxHeartbeats 4000000 in
theorem k_Parser_meetName_0 {g : im_g} {d : Nat} {e : im_E} {M : im_M} {K : im_K} {p1 p2 : Int} (hP : (((M 2 4) = 36 → (im_i32 ((M 23 4) - 1)) ∧ (im_i32 p1) ∧ ((p1 = 49 → (0 ≤ p2 ∧ p2 < 5000) ∧ K (.inl (some (vI 0))) e (im_u (im_u M 23 4 ((M 23 4) - 1)) 19 p2 (M 2 6))) ∧ (p1 = 50 → (0 ≤ p2 ∧ p2 < 5000) ∧ K (.inl (some (vI 0))) e (im_u (im_u M 23 4 ((M 23 4) - 1)) 20 p2 (M 2 6))) ∧ (¬ p1 = 49 ∧ ¬ p1 = 50 → (0 ≤ p2 ∧ p2 < 5000) ∧ K (.inl (some (vI 0))) e (im_u (im_u M 23 4 ((M 23 4) - 1)) 21 p2 (M 2 6))))) ∧ (¬ (M 2 4) = 36 → K (.inl (some (vI 4))) e M))) : im_T g d 73 0 [some (.ref 23), some (vI p1), some (vI p2)] [] e M K := by
  refine im_ld (q := 1) (i := 0) D73_0 rfl rfl rfl ?_
  refine im_gfR (q := 4) (b := 2) D73_1 (im_fl cn_73 fl_4_29) sf_23 rfl rfl tR_4_1 rfl ?_
  refine im_rng (j := 4) sf_2 (by decide) (by decide) (fun hr1 => ?_)
  refine im_gfI (q := 7) D73_4 (im_fl cn_73 fl_4_56) sf_2 rfl rfl tI_6_4 rfl ?_
  refine im_bipush (q := 9) D73_7 rfl ?_
  refine im_icmp (q := 12) (t := 14) D73_9 rfl hr1 (by decide) (fun hc2 => ?_) (fun hc2 => ?_)
  · replace hP := hP.1 hc2
    refine im_ld (q := 15) (i := 0) D73_14 rfl rfl rfl ?_
    refine im_dup (q := 16) D73_15 rfl ?_
    refine im_rng (j := 4) sf_23 (by decide) (by decide) (fun hr3 => ?_)
    refine im_gfI (q := 19) D73_16 (im_fl cn_73 fl_4_46) sf_23 rfl rfl tI_4_4 rfl ?_
    refine im_iconst (q := 20) D73_19 ?_
    refine im_isub (q := 21) D73_20 ?_
    obtain ⟨hg4, hP⟩ := hP
    refine im_pfI (q := 24) D73_21 (im_fl cn_73 fl_4_46) sf_23 rfl rfl ti_4_4 hg4 ?_
    refine im_ld (q := 25) (i := 1) D73_24 rfl rfl rfl ?_
    obtain ⟨hg5, hP⟩ := hP
    by_cases hc8 : p1 = 49
    · refine im_lsw (q := 26) (t := 52) D73_25 hg5 rfl (by rcases hc8 with hc8 <;> (rw [hc8]; rfl)) ?_
      replace hP := hP.1 hc8
      refine im_ld (q := 53) (i := 0) D73_52 rfl rfl rfl ?_
      refine im_gfR (q := 56) (b := 13) D73_53 (im_fl cn_73 fl_4_25) sf_23 rfl rfl tR_4_0 rfl ?_
      refine im_gfR (q := 59) (b := 19) D73_56 (im_fl cn_73 fl_4_144) sf_13 rfl rfl tR_5_5 rfl ?_
      refine im_ld (q := 60) (i := 2) D73_59 rfl rfl rfl ?_
      refine im_ld (q := 61) (i := 0) D73_60 rfl rfl rfl ?_
      refine im_gfR (q := 64) (b := 2) D73_61 (im_fl cn_73 fl_4_29) sf_23 rfl rfl tR_4_1 rfl ?_
      refine im_rng (j := 6) sf_2 (by decide) (by decide) (fun hr6 => ?_)
      refine im_gfL (q := 67) D73_64 (im_fl cn_73 fl_4_148) sf_2 rfl rfl tL_6_6 (im_rdn _ _ _ _ (by decide)) ?_
      obtain ⟨hg7, hP⟩ := hP
      refine im_last (q := 68) D73_67 sf_19 hg7.1 hg7.2 (by decide) (im_rgc hr6 (im_rdn _ _ _ _ (by decide))) ?_
      refine im_goto (q := 71) (t := 106) D73_68 rfl ?_
      refine im_iconst (q := 107) D73_106 ?_
      exact im_iret (q := 108) D73_107 rfl hP
    by_cases hc11 : p1 = 50
    · refine im_lsw (q := 26) (t := 71) D73_25 hg5 rfl (by rcases hc11 with hc11 <;> (rw [hc11]; rfl)) ?_
      replace hP := hP.2.1 hc11
      refine im_ld (q := 72) (i := 0) D73_71 rfl rfl rfl ?_
      refine im_gfR (q := 75) (b := 13) D73_72 (im_fl cn_73 fl_4_25) sf_23 rfl rfl tR_4_0 rfl ?_
      refine im_gfR (q := 78) (b := 20) D73_75 (im_fl cn_73 fl_4_165) sf_13 rfl rfl tR_5_6 rfl ?_
      refine im_ld (q := 79) (i := 2) D73_78 rfl rfl rfl ?_
      refine im_ld (q := 80) (i := 0) D73_79 rfl rfl rfl ?_
      refine im_gfR (q := 83) (b := 2) D73_80 (im_fl cn_73 fl_4_29) sf_23 rfl rfl tR_4_1 rfl ?_
      refine im_rng (j := 6) sf_2 (by decide) (by decide) (fun hr9 => ?_)
      refine im_gfL (q := 86) D73_83 (im_fl cn_73 fl_4_148) sf_2 rfl rfl tL_6_6 (im_rdn _ _ _ _ (by decide)) ?_
      obtain ⟨hg10, hP⟩ := hP
      refine im_last (q := 87) D73_86 sf_20 hg10.1 hg10.2 (by decide) (im_rgc hr9 (im_rdn _ _ _ _ (by decide))) ?_
      refine im_goto (q := 90) (t := 106) D73_87 rfl ?_
      refine im_iconst (q := 107) D73_106 ?_
      exact im_iret (q := 108) D73_107 rfl hP
    have hd14 : ¬ p1 = 49 ∧ ¬ p1 = 50 := by clear hP; omega
    refine im_lsw (q := 26) (t := 90) D73_25 hg5 rfl (by have z9 := hd14; simp [Op.lookupswitch.offset, am_to, z9, eq_comm]) ?_
    replace hP := hP.2.2 hd14
    refine im_ld (q := 91) (i := 0) D73_90 rfl rfl rfl ?_
    refine im_gfR (q := 94) (b := 13) D73_91 (im_fl cn_73 fl_4_25) sf_23 rfl rfl tR_4_0 rfl ?_
    refine im_gfR (q := 97) (b := 21) D73_94 (im_fl cn_73 fl_4_168) sf_13 rfl rfl tR_5_7 rfl ?_
    refine im_ld (q := 98) (i := 2) D73_97 rfl rfl rfl ?_
    refine im_ld (q := 99) (i := 0) D73_98 rfl rfl rfl ?_
    refine im_gfR (q := 102) (b := 2) D73_99 (im_fl cn_73 fl_4_29) sf_23 rfl rfl tR_4_1 rfl ?_
    refine im_rng (j := 6) sf_2 (by decide) (by decide) (fun hr12 => ?_)
    refine im_gfL (q := 105) D73_102 (im_fl cn_73 fl_4_148) sf_2 rfl rfl tL_6_6 (im_rdn _ _ _ _ (by decide)) ?_
    obtain ⟨hg13, hP⟩ := hP
    refine im_last (q := 106) D73_105 sf_21 hg13.1 hg13.2 (by decide) (im_rgc hr12 (im_rdn _ _ _ _ (by decide))) ?_
    refine im_iconst (q := 107) D73_106 ?_
    exact im_iret (q := 108) D73_107 rfl hP
  · replace hP := hP.2 hc2
    refine im_iconst (q := 13) D73_12 ?_
    exact im_iret (q := 14) D73_13 rfl hP
set_option maxRecDepth 20000 in
set_option maxHeartbeats 4000000 in
theorem k_Reader_faultBehind_0 {g : im_g} {d : Nat} {e : im_E} {M : im_M} {K : im_K} (hd : 1 ≤ d) (hP : im_T g (d - 1) 40 0 [some (.ref 2), none] [] e M (im_r0 (fun  e_ M1 => e = e_ ∧ (((((M1 2 4) < 0 → K (.inl (some (vI (-(M1 2 4))))) e M1))) ∧ (∀ x7 : Int, (((0 ≤ (M1 2 4)) ∧ (¬ (M1 2 4) = 41) ∧ x7 = 9) ∨ ((0 ≤ (M1 2 4)) ∧ ((M1 2 4) = 41) ∧ x7 = 0)) → K (.inl (some (vI x7))) e M1))))) : im_T g d 74 0 [some (.ref 2)] [] e M K := by
  refine im_ld (q := 1) (i := 0) D74_0 rfl rfl rfl ?_
  refine im_callV (q := 4) (kd := 1) (y := 40) (n := 0) (ci := 6) (a := 2) (vs := [.ref 2]) (r := []) (L2 := [some (.ref 2), none]) D74_1 (im_cal cn_74 cl_6_98) (Or.inl rfl) rfl sf_2 rfl rfl rfl rfl hd ⟨rfl, trivial⟩ ?_
  refine hP.mono ?_
  rintro _ e11 M1 ⟨rfl, rfl, hP⟩
  refine im_bkN ?_
  refine im_ld (q := 5) (i := 0) D74_4 rfl rfl rfl ?_
  refine im_rng (j := 4) sf_2 (by decide) (by decide) (fun hr2 => ?_)
  refine im_gfI (q := 8) D74_5 (im_fl cn_74 fl_6_63) sf_2 rfl rfl tI_6_4 rfl ?_
  obtain ⟨hP, hJ8⟩ := hP
  have kJ9 : ∀ x7 : Int, (((0 ≤ (M1 2 4)) ∧ (¬ (M1 2 4) = 41) ∧ x7 = 9) ∨ ((0 ≤ (M1 2 4)) ∧ ((M1 2 4) = 41) ∧ x7 = 0)) → im_T g d 74 32 [none] [vI x7] e M1 K := by
    intro x7 hx10
    have hP := hJ8 x7 hx10
    exact im_iret (q := 33) D74_32 rfl hP
  refine im_ifc (q := 11) (t := 17) D74_8 rfl hr2 (fun hc3 => ?_) (fun hc3 => ?_)
  · refine im_ld (q := 18) (i := 0) D74_17 rfl rfl rfl ?_
    refine im_gfI (q := 21) D74_18 (im_fl cn_74 fl_6_63) sf_2 rfl rfl tI_6_4 rfl ?_
    refine im_bipush (q := 23) D74_21 rfl ?_
    refine im_icmp (q := 26) (t := 30) D74_23 rfl hr2 (by decide) (fun hc5 => ?_) (fun hc5 => ?_)
    · refine im_bipush (q := 32) D74_30 rfl ?_
      exact (kJ9 (9) (Or.inl ⟨hc3, hc5, rfl⟩)).wk trivial
    · refine im_iconst (q := 27) D74_26 ?_
      refine im_goto (q := 30) (t := 32) D74_27 rfl ?_
      exact (kJ9 (0) (Or.inr ⟨hc3, (Decidable.not_not.mp hc5), rfl⟩)).wk trivial
  · replace hP := hP (Int.not_le.mp hc3)
    refine im_ld (q := 12) (i := 0) D74_11 rfl rfl rfl ?_
    refine im_gfI (q := 15) D74_12 (im_fl cn_74 fl_6_63) sf_2 rfl rfl tI_6_4 rfl ?_
    refine im_ineg (q := 16) D74_15 ?_
    exact im_iret (q := 17) D74_16 rfl hP
set_option maxRecDepth 20000 in
set_option maxHeartbeats 4000000 in
theorem k_Parser_tellEnds_0 {g : im_g} {d : Nat} {e : im_E} {M : im_M} {K : im_K} (hP : im_T g d 75 17 [some (.ref 23), some (vI ((M 13 8) + (M 23 7))), some (vI (((M 13 8) + (M 23 7)) - 1)), none, none] [] e M K) : im_T g d 75 0 [some (.ref 23), none, none, none, none] [] e M K := by
  refine im_ld (q := 1) (i := 0) D75_0 rfl rfl rfl ?_
  refine im_gfR (q := 4) (b := 13) D75_1 (im_fl cn_75 fl_4_25) sf_23 rfl rfl tR_4_0 rfl ?_
  refine im_rng (j := 8) sf_13 (by decide) (by decide) (fun hr1 => ?_)
  refine im_gfI (q := 7) D75_4 (im_fl cn_75 fl_4_70) sf_13 rfl rfl tI_5_8 rfl ?_
  refine im_ld (q := 8) (i := 0) D75_7 rfl rfl rfl ?_
  refine im_rng (j := 7) sf_23 (by decide) (by decide) (fun hr2 => ?_)
  refine im_gfI (q := 11) D75_8 (im_fl cn_75 fl_4_39) sf_23 rfl rfl tI_4_7 rfl ?_
  refine im_iadd (q := 12) D75_11 ?_
  refine im_st1 (q := 13) (i := 1) (L' := [some (.ref 23), some (vI ((M 13 8) + (M 23 7))), none, none, none]) D75_12 (Or.inl ⟨_, rfl, rfl⟩) (Nat.le_of_ble_eq_true rfl) rfl ?_
  refine im_ld (q := 14) (i := 1) D75_13 rfl rfl rfl ?_
  refine im_iconst (q := 15) D75_14 ?_
  refine im_isub (q := 16) D75_15 ?_
  refine im_st1 (q := 17) (i := 2) (L' := [some (.ref 23), some (vI ((M 13 8) + (M 23 7))), some (vI (((M 13 8) + (M 23 7)) - 1)), none, none]) D75_16 (Or.inl ⟨_, rfl, rfl⟩) (Nat.le_of_ble_eq_true rfl) rfl ?_
  exact hP.wk ⟨rfl, rfl, rfl, trivial⟩
set_option maxRecDepth 20000 in
set_option maxHeartbeats 4000000 in
theorem k_Parser_tellEnds_17 {g : im_g} {d : Nat} {e : im_E} {M : im_M} {K : im_K} {p1 p2 : Int} (hP : (im_i32 p2) ∧ ((p2 < (M 13 8) → K (.inl none) e M) ∧ ((M 13 8) ≤ p2 → im_T g d 75 35 [some (.ref 23), some (vI p1), some (vI p2), some (vI (p2 + 1)), some (vI p2)] [] e M K))) : im_T g d 75 17 [some (.ref 23), some (vI p1), some (vI p2), none, none] [] e M K := by
  refine im_ld (q := 18) (i := 2) D75_17 rfl rfl rfl ?_
  refine im_ld (q := 19) (i := 0) D75_18 rfl rfl rfl ?_
  refine im_gfR (q := 22) (b := 13) D75_19 (im_fl cn_75 fl_4_25) sf_23 rfl rfl tR_4_0 rfl ?_
  refine im_rng (j := 8) sf_13 (by decide) (by decide) (fun hr1 => ?_)
  refine im_gfI (q := 25) D75_22 (im_fl cn_75 fl_4_70) sf_13 rfl rfl tI_5_8 rfl ?_
  obtain ⟨hg2, hP⟩ := hP
  refine im_icmp (q := 28) (t := 99) D75_25 rfl hg2 hr1 (fun hc3 => ?_) (fun hc3 => ?_)
  · replace hP := hP.1 hc3
    exact im_vret (q := 100) D75_99 rfl hP
  · replace hP := hP.2 (Int.not_lt.mp hc3)
    refine im_ld (q := 29) (i := 2) D75_28 rfl rfl rfl ?_
    refine im_iconst (q := 30) D75_29 ?_
    refine im_iadd (q := 31) D75_30 ?_
    refine im_st1 (q := 32) (i := 3) (L' := [some (.ref 23), some (vI p1), some (vI p2), some (vI (p2 + 1)), none]) D75_31 (Or.inl ⟨_, rfl, rfl⟩) (Nat.le_of_ble_eq_true rfl) rfl ?_
    refine im_ld (q := 33) (i := 2) D75_32 rfl rfl rfl ?_
    refine im_st1 (q := 35) (i := 4) (L' := [some (.ref 23), some (vI p1), some (vI p2), some (vI (p2 + 1)), some (vI p2)]) D75_33 (Or.inr rfl) (Nat.le_of_ble_eq_true rfl) rfl ?_
    exact hP.wk ⟨rfl, rfl, rfl, rfl, rfl, trivial⟩
set_option maxRecDepth 20000 in
set_option maxHeartbeats 4000000 in
theorem k_Parser_tellEnds_35 {g : im_g} {d : Nat} {e : im_E} {M : im_M} {K : im_K} {p1 p2 p3 p4 : Int} (hP : (im_i32 p4) ∧ (im_i32 p1) ∧ ((((p4 < p1 → (im_i32 p3) ∧ ((p3 < p1 → (0 ≤ p3 ∧ p3 < 5000) ∧ (0 ≤ p2 ∧ p2 < 5000) ∧ (((M 16 p2) < (M 16 p3) → im_T g d 75 35 [some (.ref 23), some (vI p1), some (vI p2), some (vI (M 15 p3)), some (vI (p4 + 1))] [] e M K))))))) ∧ ((((p1 ≤ p4)) ∨ ((p4 < p1) ∧ (p1 ≤ p3)) ∨ ((p4 < p1) ∧ (p3 < p1) ∧ ((M 16 p3) ≤ (M 16 p2)))) → (0 ≤ p2 ∧ p2 < 5000) ∧ (im_i32 p3) ∧ im_T g d 75 17 [some (.ref 23), some (vI p1), some (vI (p2 + (-1))), none, none] [] e (im_u M 15 p2 p3) K))) : im_T g d 75 35 [some (.ref 23), some (vI p1), some (vI p2), some (vI p3), some (vI p4)] [] e M K := by
  refine im_ld (q := 37) (i := 4) D75_35 rfl rfl rfl ?_
  refine im_ld (q := 38) (i := 1) D75_37 rfl rfl rfl ?_
  obtain ⟨hg1, hP⟩ := hP
  obtain ⟨hg2, hP⟩ := hP
  obtain ⟨hP, hJ12⟩ := hP
  have kJ13 : (((p1 ≤ p4)) ∨ ((p4 < p1) ∧ (p1 ≤ p3)) ∨ ((p4 < p1) ∧ (p3 < p1) ∧ ((M 16 p3) ≤ (M 16 p2)))) → im_T g d 75 83 [some (.ref 23), some (vI p1), some (vI p2), some (vI p3), none] [] e M K := by
    intro  hx14
    have hP := hJ12  hx14
    refine im_ld (q := 84) (i := 0) D75_83 rfl rfl rfl ?_
    refine im_gfR (q := 87) (b := 13) D75_84 (im_fl cn_75 fl_4_25) sf_23 rfl rfl tR_4_0 rfl ?_
    refine im_gfR (q := 90) (b := 15) D75_87 (im_fl cn_75 fl_4_194) sf_13 rfl rfl tR_5_1 rfl ?_
    refine im_ld (q := 91) (i := 2) D75_90 rfl rfl rfl ?_
    refine im_ld (q := 92) (i := 3) D75_91 rfl rfl rfl ?_
    obtain ⟨hg15, hP⟩ := hP
    obtain ⟨hg16, hP⟩ := hP
    refine im_iast (q := 93) D75_92 sf_15 hg15.1 hg15.2 (by decide) hg16 ?_
    refine im_iinc (q := 96) (i := 2) (L' := [some (.ref 23), some (vI p1), some (vI (p2 + (-1))), some (vI p3), none]) D75_93 rfl (Nat.le_of_ble_eq_true rfl) rfl ?_
    refine im_goto (q := 99) (t := 17) D75_96 rfl ?_
    exact hP.wk ⟨rfl, rfl, rfl, trivial⟩
  refine im_icmp (q := 41) (t := 83) D75_38 rfl hg1 hg2 (fun hc3 => ?_) (fun hc3 => ?_)
  · exact (kJ13  (Or.inl hc3)).wk ⟨rfl, rfl, rfl, rfl, trivial⟩
  · replace hP := hP (Int.not_le.mp hc3)
    refine im_ld (q := 42) (i := 3) D75_41 rfl rfl rfl ?_
    refine im_ld (q := 43) (i := 1) D75_42 rfl rfl rfl ?_
    obtain ⟨hg4, hP⟩ := hP
    refine im_icmp (q := 46) (t := 83) D75_43 rfl hg4 hg2 (fun hc5 => ?_) (fun hc5 => ?_)
    · exact (kJ13  (Or.inr (Or.inl ⟨(Int.not_le.mp hc3), hc5⟩))).wk ⟨rfl, rfl, rfl, rfl, trivial⟩
    · replace hP := hP (Int.not_le.mp hc5)
      refine im_ld (q := 47) (i := 0) D75_46 rfl rfl rfl ?_
      refine im_gfR (q := 50) (b := 13) D75_47 (im_fl cn_75 fl_4_25) sf_23 rfl rfl tR_4_0 rfl ?_
      refine im_gfR (q := 53) (b := 16) D75_50 (im_fl cn_75 fl_4_156) sf_13 rfl rfl tR_5_2 rfl ?_
      refine im_ld (q := 54) (i := 3) D75_53 rfl rfl rfl ?_
      obtain ⟨hg6, hP⟩ := hP
      refine im_rng (j := p3) sf_16 hg6.1 hg6.2 (fun hr7 => ?_)
      refine im_iald (q := 55) D75_54 sf_16 hg6.1 hg6.2 (by decide) rfl ?_
      refine im_ld (q := 56) (i := 0) D75_55 rfl rfl rfl ?_
      refine im_gfR (q := 59) (b := 13) D75_56 (im_fl cn_75 fl_4_25) sf_23 rfl rfl tR_4_0 rfl ?_
      refine im_gfR (q := 62) (b := 16) D75_59 (im_fl cn_75 fl_4_156) sf_13 rfl rfl tR_5_2 rfl ?_
      refine im_ld (q := 63) (i := 2) D75_62 rfl rfl rfl ?_
      obtain ⟨hg8, hP⟩ := hP
      refine im_rng (j := p2) sf_16 hg8.1 hg8.2 (fun hr9 => ?_)
      refine im_iald (q := 64) D75_63 sf_16 hg8.1 hg8.2 (by decide) rfl ?_
      refine im_icmp (q := 67) (t := 83) D75_64 rfl hr7 hr9 (fun hc10 => ?_) (fun hc10 => ?_)
      · exact (kJ13  (Or.inr (Or.inr ⟨(Int.not_le.mp hc3), (Int.not_le.mp hc5), hc10⟩))).wk ⟨rfl, rfl, rfl, rfl, trivial⟩
      · replace hP := hP (Int.not_le.mp hc10)
        refine im_ld (q := 68) (i := 0) D75_67 rfl rfl rfl ?_
        refine im_gfR (q := 71) (b := 13) D75_68 (im_fl cn_75 fl_4_25) sf_23 rfl rfl tR_4_0 rfl ?_
        refine im_gfR (q := 74) (b := 15) D75_71 (im_fl cn_75 fl_4_194) sf_13 rfl rfl tR_5_1 rfl ?_
        refine im_ld (q := 75) (i := 3) D75_74 rfl rfl rfl ?_
        refine im_rng (j := p3) sf_15 hg6.1 hg6.2 (fun hr11 => ?_)
        refine im_iald (q := 76) D75_75 sf_15 hg6.1 hg6.2 (by decide) rfl ?_
        refine im_st1 (q := 77) (i := 3) (L' := [some (.ref 23), some (vI p1), some (vI p2), some (vI (M 15 p3)), some (vI p4)]) D75_76 (Or.inl ⟨_, rfl, rfl⟩) (Nat.le_of_ble_eq_true rfl) rfl ?_
        refine im_iinc (q := 80) (i := 4) (L' := [some (.ref 23), some (vI p1), some (vI p2), some (vI (M 15 p3)), some (vI (p4 + 1))]) D75_77 rfl (Nat.le_of_ble_eq_true rfl) rfl ?_
        refine im_goto (q := 83) (t := 35) D75_80 rfl ?_
        exact hP.wk ⟨rfl, rfl, rfl, rfl, rfl, trivial⟩
set_option maxRecDepth 20000 in
set_option maxHeartbeats 4000000 in
theorem k_Reader_isFaulty_0 {g : im_g} {d : Nat} {e : im_E} {M : im_M} {K : im_K} {p1 : Int} (hP : (im_i32 p1) ∧ ((∀ x4 : Int, (((¬ p1 = 0) ∧ x4 = (M 2 5)) ∨ ((p1 = 0) ∧ x4 = (-1))) → (im_i32 x4) ∧ ((∀ x10 : Int, (((p1 = 0) ∧ x10 = 0) ∨ ((¬ p1 = 0) ∧ x10 = 1)) → K (.inl (some (vI x10))) e (im_u (im_u M 2 8 p1) 2 9 x4)))))) : im_T g d 76 0 [some (.ref 2), some (vI p1)] [] e M K := by
  refine im_ld (q := 1) (i := 0) D76_0 rfl rfl rfl ?_
  refine im_ld (q := 2) (i := 1) D76_1 rfl rfl rfl ?_
  obtain ⟨hg1, hP⟩ := hP
  refine im_pfI (q := 5) D76_2 (im_fl cn_76 fl_6_26) sf_2 rfl rfl ti_6_8 hg1 ?_
  refine im_ld (q := 6) (i := 0) D76_5 rfl rfl rfl ?_
  refine im_ld (q := 7) (i := 1) D76_6 rfl rfl rfl ?_
  have hJ5 := hP
  have kJ6 : ∀ x4 : Int, (((¬ p1 = 0) ∧ x4 = (M 2 5)) ∨ ((p1 = 0) ∧ x4 = (-1))) → im_T g d 76 18 [none, some (vI p1)] [vI x4, .ref 2] e (im_u M 2 8 p1) K := by
    intro x4 hx7
    have hP := hJ5 x4 hx7
    obtain ⟨hg8, hP⟩ := hP
    refine im_pfI (q := 21) D76_18 (im_fl cn_76 fl_6_30) sf_2 rfl rfl ti_6_9 hg8 ?_
    refine im_ld (q := 22) (i := 1) D76_21 rfl rfl rfl ?_
    have hJ11 := hP
    have kJ12 : ∀ x10 : Int, (((p1 = 0) ∧ x10 = 0) ∨ ((¬ p1 = 0) ∧ x10 = 1)) → im_T g d 76 30 [none, none] [vI x10] e (im_u (im_u M 2 8 p1) 2 9 x4) K := by
      intro x10 hx13
      have hP := hJ11 x10 hx13
      exact im_zret (q := 31) D76_30 rfl (by clear hP; omega) hP
    refine im_ifc (q := 25) (t := 29) D76_22 rfl hg1 (fun hc9 => ?_) (fun hc9 => ?_)
    · refine im_iconst (q := 30) D76_29 ?_
      exact (kJ12 (0) (Or.inl ⟨hc9, rfl⟩)).wk trivial
    · refine im_iconst (q := 26) D76_25 ?_
      refine im_goto (q := 29) (t := 30) D76_26 rfl ?_
      exact (kJ12 (1) (Or.inr ⟨hc9, rfl⟩)).wk trivial
  refine im_ifc (q := 10) (t := 14) D76_7 rfl hg1 (fun hc2 => ?_) (fun hc2 => ?_)
  · refine im_ld (q := 15) (i := 0) D76_14 rfl rfl rfl ?_
    refine im_rng (j := 5) sf_2 (by decide) (by decide) (fun hr3 => ?_)
    refine im_gfI (q := 18) D76_15 (im_fl cn_76 fl_6_45) sf_2 rfl rfl tI_6_5 (im_rdk _ _ _ (by decide)) ?_
    exact (kJ6 ((M 2 5)) (Or.inl ⟨hc2, rfl⟩)).wk ⟨rfl, trivial⟩
  · refine im_iconst (q := 11) D76_10 ?_
    refine im_goto (q := 14) (t := 18) D76_11 rfl ?_
    exact (kJ6 ((-1)) (Or.inr ⟨(Decidable.not_not.mp hc2), rfl⟩)).wk ⟨rfl, trivial⟩
set_option maxRecDepth 20000 in
set_option maxHeartbeats 4000000 in
theorem k_P_enter_0 {g : im_g} {d : Nat} {e : im_E} {M : im_M} {K : im_K} {p1 p2 p4 p6 p8 : Int} (hd : 1 ≤ d) (hP : (((M 0 19) = 0 → im_T g (d - 1) 78 0 [some (.ref 2068), some (vI p1), some (vI p8)] [] e M (im_ri (fun x4 e_ M3 => e = e_ ∧ (im_i32 x4) ∧ ((¬ x4 = 0 → im_T g (d - 1) 79 0 [some (.ref 2068), some (vI p1), some (vL p2), none, some (vL p4), none, some (vL p6), none, some (.ref 1), some (vI p8), none, none, none] [] e M3 (im_ri (fun x8 e_ M7 => e = e_ ∧ (im_i32 x8) ∧ ((∀ x11 : Int, (((x8 = 0) ∧ x11 = (-103)) ∨ ((¬ x8 = 0) ∧ x11 = 0)) → K (.inl (some (vI x11))) e M7))))) ∧ (x4 = 0 → K (.inl (some (vI (-10)))) e M3))))) ∧ (¬ (M 0 19) = 0 → K (.inl (some (vI 0))) e M))) : im_T g d 77 0 [some (.ref 0), some (vI p1), some (vL p2), none, some (vL p4), none, some (vL p6), none, some (vI p8)] [] e M K := by
  refine im_ld (q := 1) (i := 0) D77_0 rfl rfl rfl ?_
  refine im_rng (j := 19) sf_0 (by decide) (by decide) (fun hr1 => ?_)
  refine im_gfI (q := 4) D77_1 (im_fl cn_77 fl_11_417) sf_0 rfl rfl tI_11_19 rfl ?_
  refine im_ifc (q := 7) (t := 9) D77_4 rfl (im_z32 hr1) (fun hc2 => ?_) (fun hc2 => ?_)
  · replace hP := hP.1 hc2
    refine im_ld (q := 10) (i := 0) D77_9 rfl rfl rfl ?_
    refine im_gfR (q := 13) (b := 2068) D77_10 (im_fl cn_77 fl_11_113) sf_0 rfl rfl tR_11_17 rfl ?_
    refine im_ld (q := 14) (i := 1) D77_13 rfl rfl rfl ?_
    refine im_ld (q := 16) (i := 8) D77_14 rfl rfl rfl ?_
    refine im_callV (q := 19) (kd := 1) (y := 78) (n := 2) (ci := 1) (a := 2068) (vs := [.ref 2068, vI p1, vI p8]) (r := []) (L2 := [some (.ref 2068), some (vI p1), some (vI p8)]) D77_16 (im_cal cn_77 cl_11_453) (Or.inl rfl) rfl sf_2068 rfl rfl rfl rfl hd ⟨rfl, rfl, rfl, trivial⟩ ?_
    refine hP.mono ?_
    rintro _ e16 M3 ⟨x4, rfl, rfl, hP⟩
    refine im_bkS ?_
    obtain ⟨hg5, hP⟩ := hP
    refine im_ifc (q := 22) (t := 25) D77_19 rfl hg5 (fun hc6 => ?_) (fun hc6 => ?_)
    · replace hP := hP.1 hc6
      refine im_ld (q := 26) (i := 0) D77_25 rfl rfl rfl ?_
      refine im_gfR (q := 29) (b := 2068) D77_26 (im_fl cn_77 fl_11_113) sf_0 rfl rfl tR_11_17 rfl ?_
      refine im_ld (q := 30) (i := 1) D77_29 rfl rfl rfl ?_
      refine im_ld (q := 31) (i := 2) D77_30 rfl rfl rfl ?_
      refine im_ld (q := 33) (i := 4) D77_31 rfl rfl rfl ?_
      refine im_ld (q := 35) (i := 6) D77_33 rfl rfl rfl ?_
      refine im_ld (q := 36) (i := 0) D77_35 rfl rfl rfl ?_
      refine im_gfR (q := 39) (b := 1) D77_36 (im_fl cn_77 fl_11_9) sf_0 rfl rfl tR_11_0 rfl ?_
      refine im_ld (q := 41) (i := 8) D77_39 rfl rfl rfl ?_
      refine im_callV (q := 44) (kd := 1) (y := 79) (n := 6) (ci := 1) (a := 2068) (vs := [.ref 2068, vI p1, vL p2, vL p4, vL p6, .ref 1, vI p8]) (r := []) (L2 := [some (.ref 2068), some (vI p1), some (vL p2), none, some (vL p4), none, some (vL p6), none, some (.ref 1), some (vI p8), none, none, none]) D77_41 (im_cal cn_77 cl_11_457) (Or.inl rfl) rfl sf_2068 rfl rfl rfl rfl hd ⟨rfl, rfl, rfl, rfl, rfl, rfl, rfl, trivial⟩ ?_
      refine hP.mono ?_
      rintro _ e15 M7 ⟨x8, rfl, rfl, hP⟩
      refine im_bkS ?_
      obtain ⟨hg9, hP⟩ := hP
      have hJ12 := hP
      have kJ13 : ∀ x11 : Int, (((x8 = 0) ∧ x11 = (-103)) ∨ ((¬ x8 = 0) ∧ x11 = 0)) → im_T g d 77 53 [none, none, none, none, none, none, none, none, none] [vI x11] e M7 K := by
        intro x11 hx14
        have hP := hJ12 x11 hx14
        exact im_iret (q := 54) D77_53 rfl hP
      refine im_ifc (q := 47) (t := 51) D77_44 rfl hg9 (fun hc10 => ?_) (fun hc10 => ?_)
      · refine im_bipush (q := 53) D77_51 rfl ?_
        exact (kJ13 ((-103)) (Or.inl ⟨hc10, rfl⟩)).wk trivial
      · refine im_iconst (q := 48) D77_47 ?_
        refine im_goto (q := 51) (t := 53) D77_48 rfl ?_
        exact (kJ13 (0) (Or.inr ⟨hc10, rfl⟩)).wk trivial
    · replace hP := hP.2 (Decidable.not_not.mp hc6)
      refine im_bipush (q := 24) D77_22 rfl ?_
      exact im_iret (q := 25) D77_24 rfl hP
  · replace hP := hP.2 hc2
    refine im_iconst (q := 8) D77_7 ?_
    exact im_iret (q := 9) D77_8 rfl hP
set_option maxRecDepth 20000 in
set_option maxHeartbeats 4000000 in
theorem k_Journal_hasRoom_0 {g : im_g} {d : Nat} {e : im_E} {M : im_M} {K : im_K} {p1 p2 : Int} (hd : 1 ≤ d) (hP : im_T g (d - 1) 28 0 [some (vI p1), some (vI p2)] [] e M (im_ri (fun x3 e_ M2 => e = e_ ∧ (im_i32 ((M 2068 1) + x3)) ∧ ((∀ x6 : Int, (((16384 < ((M 2068 1) + x3)) ∧ x6 = 0) ∨ ((((M 2068 1) + x3) ≤ 16384) ∧ x6 = 1)) → K (.inl (some (vI x6))) e M2))))) : im_T g d 78 0 [some (.ref 2068), some (vI p1), some (vI p2)] [] e M K := by
  refine im_ld (q := 1) (i := 0) D78_0 rfl rfl rfl ?_
  refine im_rng (j := 1) sf_2068 (by decide) (by decide) (fun hr1 => ?_)
  refine im_gfI (q := 4) D78_1 (im_fl cn_78 fl_1_19) sf_2068 rfl rfl tI_1_1 rfl ?_
  refine im_ld (q := 5) (i := 1) D78_4 rfl rfl rfl ?_
  refine im_ld (q := 6) (i := 2) D78_5 rfl rfl rfl ?_
  refine im_callS (q := 9) (kd := 0) (y := 28) (n := 2) (z := 1) (vs := [vI p1, vI p2]) (r := [vI (M 2068 1)]) (L2 := [some (vI p1), some (vI p2)]) D78_6 rfl (im_cal cn_78 cl_1_33) (Or.inl rfl) rfl rfl rfl rfl rfl hd ⟨rfl, rfl, trivial⟩ ?_
  refine hP.mono ?_
  rintro _ e10 M2 ⟨x3, rfl, rfl, hP⟩
  refine im_bkS ?_
  refine im_iadd (q := 10) D78_9 ?_
  refine im_sipush (q := 13) D78_10 rfl ?_
  obtain ⟨hg4, hP⟩ := hP
  have hJ7 := hP
  have kJ8 : ∀ x6 : Int, (((16384 < ((M 2068 1) + x3)) ∧ x6 = 0) ∨ ((((M 2068 1) + x3) ≤ 16384) ∧ x6 = 1)) → im_T g d 78 21 [none, none, none] [vI x6] e M2 K := by
    intro x6 hx9
    have hP := hJ7 x6 hx9
    exact im_zret (q := 22) D78_21 rfl (by clear hP; omega) hP
  refine im_icmp (q := 16) (t := 20) D78_13 rfl hg4 (by decide) (fun hc5 => ?_) (fun hc5 => ?_)
  · refine im_iconst (q := 21) D78_20 ?_
    exact (kJ8 (0) (Or.inl ⟨hc5, rfl⟩)).wk trivial
  · refine im_iconst (q := 17) D78_16 ?_
    refine im_goto (q := 20) (t := 21) D78_17 rfl ?_
    exact (kJ8 (1) (Or.inr ⟨(Int.not_lt.mp hc5), rfl⟩)).wk trivial

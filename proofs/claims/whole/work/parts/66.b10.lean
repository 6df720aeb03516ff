/-! blocks of the reference -/
theorem D345_0 {g : im_g} : im_D g 345 0 (.aload_n 0) 1 := im_D.of (by decide +kernel)
theorem D345_1 {g : im_g} : im_D g 345 1 (.getfield 449) 4 := im_D.of (by decide +kernel)
theorem D345_4 {g : im_g} : im_D g 345 4 (.istore_n 3) 5 := im_D.of (by decide +kernel)
theorem D345_5 {g : im_g} : im_D g 345 5 (.aload_n 1) 6 := im_D.of (by decide +kernel)
theorem D345_6 {g : im_g} : im_D g 345 6 (.sipush 302) 9 := im_D.of (by decide +kernel)
theorem D345_9 {g : im_g} : im_D g 345 9 (.iload_n 2) 10 := im_D.of (by decide +kernel)
theorem D345_10 {g : im_g} : im_D g 345 10 (.imul) 11 := im_D.of (by decide +kernel)
theorem D345_11 {g : im_g} : im_D g 345 11 (.iconst 1) 12 := im_D.of (by decide +kernel)
theorem D345_12 {g : im_g} : im_D g 345 12 (.iadd) 13 := im_D.of (by decide +kernel)
theorem D345_13 {g : im_g} : im_D g 345 13 (.iaload) 14 := im_D.of (by decide +kernel)
theorem D345_14 {g : im_g} : im_D g 345 14 (.istore 4) 16 := im_D.of (by decide +kernel)
theorem D345_16 {g : im_g} : im_D g 345 16 (.iconst 0) 17 := im_D.of (by decide +kernel)
theorem D345_17 {g : im_g} : im_D g 345 17 (.istore 5) 19 := im_D.of (by decide +kernel)
theorem D345_19 {g : im_g} : im_D g 345 19 (.iload 5) 21 := im_D.of (by decide +kernel)
theorem D345_21 {g : im_g} : im_D g 345 21 (.iload 4) 23 := im_D.of (by decide +kernel)
theorem D345_23 {g : im_g} : im_D g 345 23 (.iconst 2) 24 := im_D.of (by decide +kernel)
theorem D345_24 {g : im_g} : im_D g 345 24 (.iadd) 25 := im_D.of (by decide +kernel)
theorem D345_25 {g : im_g} : im_D g 345 25 (.if_icmp .ge 28) 28 := im_D.of (by decide +kernel)
theorem D345_28 {g : im_g} : im_D g 345 28 (.aload_n 0) 29 := im_D.of (by decide +kernel)
theorem D345_29 {g : im_g} : im_D g 345 29 (.getfield 17) 32 := im_D.of (by decide +kernel)
theorem D345_32 {g : im_g} : im_D g 345 32 (.iload_n 3) 33 := im_D.of (by decide +kernel)
theorem D345_33 {g : im_g} : im_D g 345 33 (.iload 5) 35 := im_D.of (by decide +kernel)
theorem D345_35 {g : im_g} : im_D g 345 35 (.iadd) 36 := im_D.of (by decide +kernel)
theorem D345_36 {g : im_g} : im_D g 345 36 (.aload_n 1) 37 := im_D.of (by decide +kernel)
theorem D345_37 {g : im_g} : im_D g 345 37 (.sipush 302) 40 := im_D.of (by decide +kernel)
theorem D345_40 {g : im_g} : im_D g 345 40 (.iload_n 2) 41 := im_D.of (by decide +kernel)
theorem D345_41 {g : im_g} : im_D g 345 41 (.imul) 42 := im_D.of (by decide +kernel)
theorem D345_42 {g : im_g} : im_D g 345 42 (.iload 5) 44 := im_D.of (by decide +kernel)
theorem D345_44 {g : im_g} : im_D g 345 44 (.iadd) 45 := im_D.of (by decide +kernel)
theorem D345_45 {g : im_g} : im_D g 345 45 (.iaload) 46 := im_D.of (by decide +kernel)
theorem D345_46 {g : im_g} : im_D g 345 46 (.iastore) 47 := im_D.of (by decide +kernel)
theorem D345_47 {g : im_g} : im_D g 345 47 (.iinc 5 1) 50 := im_D.of (by decide +kernel)
theorem D345_50 {g : im_g} : im_D g 345 50 (.goto (-31)) 53 := im_D.of (by decide +kernel)
theorem D345_53 {g : im_g} : im_D g 345 53 (.aload_n 0) 54 := im_D.of (by decide +kernel)
theorem D345_54 {g : im_g} : im_D g 345 54 (.iload_n 3) 55 := im_D.of (by decide +kernel)
theorem D345_55 {g : im_g} : im_D g 345 55 (.iload 4) 57 := im_D.of (by decide +kernel)
theorem D345_57 {g : im_g} : im_D g 345 57 (.iadd) 58 := im_D.of (by decide +kernel)
theorem D345_58 {g : im_g} : im_D g 345 58 (.iconst 2) 59 := im_D.of (by decide +kernel)
theorem D345_59 {g : im_g} : im_D g 345 59 (.iadd) 60 := im_D.of (by decide +kernel)
theorem D345_60 {g : im_g} : im_D g 345 60 (.putfield 449) 63 := im_D.of (by decide +kernel)
theorem D345_63 {g : im_g} : im_D g 345 63 (.iload_n 3) 64 := im_D.of (by decide +kernel)
theorem D345_64 {g : im_g} : im_D g 345 64 (.ireturn) 65 := im_D.of (by decide +kernel)
theorem D346_0 {g : im_g} : im_D g 346 0 (.aload_n 0) 1 := im_D.of (by decide +kernel)
theorem D346_1 {g : im_g} : im_D g 346 1 (.getfield 136) 4 := im_D.of (by decide +kernel)
theorem D346_4 {g : im_g} : im_D g 346 4 (.iload_n 1) 5 := im_D.of (by decide +kernel)
theorem D346_5 {g : im_g} : im_D g 346 5 (.iconst 1) 6 := im_D.of (by decide +kernel)
theorem D346_6 {g : im_g} : im_D g 346 6 (.bastore) 7 := im_D.of (by decide +kernel)
theorem D346_7 {g : im_g} : im_D g 346 7 (.aload_n 0) 8 := im_D.of (by decide +kernel)
theorem D346_8 {g : im_g} : im_D g 346 8 (.getfield 139) 11 := im_D.of (by decide +kernel)
theorem D346_11 {g : im_g} : im_D g 346 11 (.iload_n 1) 12 := im_D.of (by decide +kernel)
theorem D346_12 {g : im_g} : im_D g 346 12 (.aload_n 0) 13 := im_D.of (by decide +kernel)
theorem D346_13 {g : im_g} : im_D g 346 13 (.getfield 109) 16 := im_D.of (by decide +kernel)
theorem D346_16 {g : im_g} : im_D g 346 16 (.iload_n 2) 17 := im_D.of (by decide +kernel)
theorem D346_17 {g : im_g} : im_D g 346 17 (.iaload) 18 := im_D.of (by decide +kernel)
theorem D346_18 {g : im_g} : im_D g 346 18 (.iastore) 19 := im_D.of (by decide +kernel)
theorem D346_19 {g : im_g} : im_D g 346 19 (.aload_n 0) 20 := im_D.of (by decide +kernel)
theorem D346_20 {g : im_g} : im_D g 346 20 (.getfield 142) 23 := im_D.of (by decide +kernel)
theorem D346_23 {g : im_g} : im_D g 346 23 (.iload_n 1) 24 := im_D.of (by decide +kernel)
theorem D346_24 {g : im_g} : im_D g 346 24 (.lload_n 3) 25 := im_D.of (by decide +kernel)
theorem D346_25 {g : im_g} : im_D g 346 25 (.lastore) 26 := im_D.of (by decide +kernel)
theorem D346_26 {g : im_g} : im_D g 346 26 (.aload_n 0) 27 := im_D.of (by decide +kernel)
theorem D346_27 {g : im_g} : im_D g 346 27 (.getfield 145) 30 := im_D.of (by decide +kernel)
theorem D346_30 {g : im_g} : im_D g 346 30 (.iload_n 1) 31 := im_D.of (by decide +kernel)
theorem D346_31 {g : im_g} : im_D g 346 31 (.iconst 0) 32 := im_D.of (by decide +kernel)
theorem D346_32 {g : im_g} : im_D g 346 32 (.iastore) 33 := im_D.of (by decide +kernel)
theorem D346_33 {g : im_g} : im_D g 346 33 (.aload_n 0) 34 := im_D.of (by decide +kernel)
theorem D346_34 {g : im_g} : im_D g 346 34 (.getfield 158) 37 := im_D.of (by decide +kernel)
theorem D346_37 {g : im_g} : im_D g 346 37 (.iload_n 1) 38 := im_D.of (by decide +kernel)
theorem D346_38 {g : im_g} : im_D g 346 38 (.iconst 0) 39 := im_D.of (by decide +kernel)
theorem D346_39 {g : im_g} : im_D g 346 39 (.iastore) 40 := im_D.of (by decide +kernel)
theorem D346_40 {g : im_g} : im_D g 346 40 (.aload_n 0) 41 := im_D.of (by decide +kernel)
theorem D346_41 {g : im_g} : im_D g 346 41 (.getfield 170) 44 := im_D.of (by decide +kernel)
theorem D346_44 {g : im_g} : im_D g 346 44 (.iload_n 1) 45 := im_D.of (by decide +kernel)
theorem D346_45 {g : im_g} : im_D g 346 45 (.iconst 0) 46 := im_D.of (by decide +kernel)
theorem D346_46 {g : im_g} : im_D g 346 46 (.iastore) 47 := im_D.of (by decide +kernel)
theorem D346_47 {g : im_g} : im_D g 346 47 (.aload_n 0) 48 := im_D.of (by decide +kernel)
theorem D346_48 {g : im_g} : im_D g 346 48 (.getfield 179) 51 := im_D.of (by decide +kernel)
theorem D346_51 {g : im_g} : im_D g 346 51 (.iload_n 1) 52 := im_D.of (by decide +kernel)
theorem D346_52 {g : im_g} : im_D g 346 52 (.aload_n 0) 53 := im_D.of (by decide +kernel)
theorem D346_53 {g : im_g} : im_D g 346 53 (.getfield 794) 56 := im_D.of (by decide +kernel)
theorem D346_56 {g : im_g} : im_D g 346 56 (.iastore) 57 := im_D.of (by decide +kernel)
theorem D346_57 {g : im_g} : im_D g 346 57 (.iconst 0) 58 := im_D.of (by decide +kernel)
theorem D346_58 {g : im_g} : im_D g 346 58 (.istore 5) 60 := im_D.of (by decide +kernel)
theorem D346_60 {g : im_g} : im_D g 346 60 (.iload 5) 62 := im_D.of (by decide +kernel)
theorem D346_62 {g : im_g} : im_D g 346 62 (.aload_n 0) 63 := im_D.of (by decide +kernel)
theorem D346_63 {g : im_g} : im_D g 346 63 (.getfield 794) 66 := im_D.of (by decide +kernel)
theorem D346_66 {g : im_g} : im_D g 346 66 (.if_icmp .ge 78) 69 := im_D.of (by decide +kernel)
theorem D346_69 {g : im_g} : im_D g 346 69 (.aload_n 0) 70 := im_D.of (by decide +kernel)
theorem D346_70 {g : im_g} : im_D g 346 70 (.getfield 182) 73 := im_D.of (by decide +kernel)
theorem D346_73 {g : im_g} : im_D g 346 73 (.bipush 20) 75 := im_D.of (by decide +kernel)
theorem D346_75 {g : im_g} : im_D g 346 75 (.iload_n 1) 76 := im_D.of (by decide +kernel)
theorem D346_76 {g : im_g} : im_D g 346 76 (.imul) 77 := im_D.of (by decide +kernel)
theorem D346_77 {g : im_g} : im_D g 346 77 (.iload 5) 79 := im_D.of (by decide +kernel)
theorem D346_79 {g : im_g} : im_D g 346 79 (.iadd) 80 := im_D.of (by decide +kernel)
theorem D346_80 {g : im_g} : im_D g 346 80 (.aload_n 0) 81 := im_D.of (by decide +kernel)
theorem D346_81 {g : im_g} : im_D g 346 81 (.getfield 130) 84 := im_D.of (by decide +kernel)
theorem D346_84 {g : im_g} : im_D g 346 84 (.iload 5) 86 := im_D.of (by decide +kernel)
theorem D346_86 {g : im_g} : im_D g 346 86 (.laload) 87 := im_D.of (by decide +kernel)
theorem D346_87 {g : im_g} : im_D g 346 87 (.lastore) 88 := im_D.of (by decide +kernel)
theorem D346_88 {g : im_g} : im_D g 346 88 (.iconst 0) 89 := im_D.of (by decide +kernel)
theorem D346_89 {g : im_g} : im_D g 346 89 (.istore 6) 91 := im_D.of (by decide +kernel)
theorem D346_91 {g : im_g} : im_D g 346 91 (.iload 6) 93 := im_D.of (by decide +kernel)
theorem D346_93 {g : im_g} : im_D g 346 93 (.sipush 302) 96 := im_D.of (by decide +kernel)
theorem D346_96 {g : im_g} : im_D g 346 96 (.if_icmp .ge 42) 99 := im_D.of (by decide +kernel)
theorem D346_99 {g : im_g} : im_D g 346 99 (.aload_n 0) 100 := im_D.of (by decide +kernel)
theorem D346_100 {g : im_g} : im_D g 346 100 (.getfield 186) 103 := im_D.of (by decide +kernel)
theorem D346_103 {g : im_g} : im_D g 346 103 (.sipush 302) 106 := im_D.of (by decide +kernel)
theorem D346_106 {g : im_g} : im_D g 346 106 (.bipush 20) 108 := im_D.of (by decide +kernel)
theorem D346_108 {g : im_g} : im_D g 346 108 (.iload_n 1) 109 := im_D.of (by decide +kernel)
theorem D346_109 {g : im_g} : im_D g 346 109 (.imul) 110 := im_D.of (by decide +kernel)
theorem D346_110 {g : im_g} : im_D g 346 110 (.iload 5) 112 := im_D.of (by decide +kernel)
theorem D346_112 {g : im_g} : im_D g 346 112 (.iadd) 113 := im_D.of (by decide +kernel)
theorem D346_113 {g : im_g} : im_D g 346 113 (.imul) 114 := im_D.of (by decide +kernel)
theorem D346_114 {g : im_g} : im_D g 346 114 (.iload 6) 116 := im_D.of (by decide +kernel)
theorem D346_116 {g : im_g} : im_D g 346 116 (.iadd) 117 := im_D.of (by decide +kernel)
theorem D346_117 {g : im_g} : im_D g 346 117 (.aload_n 0) 118 := im_D.of (by decide +kernel)
theorem D346_118 {g : im_g} : im_D g 346 118 (.getfield 133) 121 := im_D.of (by decide +kernel)
theorem D346_121 {g : im_g} : im_D g 346 121 (.sipush 302) 124 := im_D.of (by decide +kernel)
theorem D346_124 {g : im_g} : im_D g 346 124 (.iload 5) 126 := im_D.of (by decide +kernel)
theorem D346_126 {g : im_g} : im_D g 346 126 (.imul) 127 := im_D.of (by decide +kernel)
theorem D346_127 {g : im_g} : im_D g 346 127 (.iload 6) 129 := im_D.of (by decide +kernel)
theorem D346_129 {g : im_g} : im_D g 346 129 (.iadd) 130 := im_D.of (by decide +kernel)
theorem D346_130 {g : im_g} : im_D g 346 130 (.iaload) 131 := im_D.of (by decide +kernel)
theorem D346_131 {g : im_g} : im_D g 346 131 (.iastore) 132 := im_D.of (by decide +kernel)
theorem D346_132 {g : im_g} : im_D g 346 132 (.iinc 6 1) 135 := im_D.of (by decide +kernel)
theorem D346_135 {g : im_g} : im_D g 346 135 (.goto (-44)) 138 := im_D.of (by decide +kernel)
theorem D346_138 {g : im_g} : im_D g 346 138 (.iinc 5 1) 141 := im_D.of (by decide +kernel)
theorem D346_141 {g : im_g} : im_D g 346 141 (.goto (-81)) 144 := im_D.of (by decide +kernel)
theorem D346_144 {g : im_g} : im_D g 346 144 (.return_) 145 := im_D.of (by decide +kernel)
theorem D347_0 {g : im_g} : im_D g 347 0 (.aload_n 0) 1 := im_D.of (by decide +kernel)
theorem D347_1 {g : im_g} : im_D g 347 1 (.iconst 2) 2 := im_D.of (by decide +kernel)
theorem D347_2 {g : im_g} : im_D g 347 2 (.iload_n 1) 3 := im_D.of (by decide +kernel)
theorem D347_3 {g : im_g} : im_D g 347 3 (.i2l) 4 := im_D.of (by decide +kernel)
theorem D347_4 {g : im_g} : im_D g 347 4 (.lconst 0) 5 := im_D.of (by decide +kernel)
theorem D347_5 {g : im_g} : im_D g 347 5 (.ldc2_w 729) 8 := im_D.of (by decide +kernel)
theorem D347_8 {g : im_g} : im_D g 347 8 (.invokestatic 428) 11 := im_D.of (by decide +kernel)
theorem D347_11 {g : im_g} : im_D g 347 11 (.aload_n 0) 12 := im_D.of (by decide +kernel)
theorem D347_12 {g : im_g} : im_D g 347 12 (.iload_n 1) 13 := im_D.of (by decide +kernel)
theorem D347_13 {g : im_g} : im_D g 347 13 (.invokevirtual 843) 16 := im_D.of (by decide +kernel)
theorem D347_16 {g : im_g} : im_D g 347 16 (.iconst 1) 17 := im_D.of (by decide +kernel)
theorem D347_17 {g : im_g} : im_D g 347 17 (.invokevirtual 419) 20 := im_D.of (by decide +kernel)
theorem D347_20 {g : im_g} : im_D g 347 20 (.ifCond .ne 5) 23 := im_D.of (by decide +kernel)
theorem D347_23 {g : im_g} : im_D g 347 23 (.iconst 0) 24 := im_D.of (by decide +kernel)
theorem D347_24 {g : im_g} : im_D g 347 24 (.ireturn) 25 := im_D.of (by decide +kernel)
theorem D347_25 {g : im_g} : im_D g 347 25 (.aload_n 0) 26 := im_D.of (by decide +kernel)
theorem D347_26 {g : im_g} : im_D g 347 26 (.iconst 4) 27 := im_D.of (by decide +kernel)
theorem D347_27 {g : im_g} : im_D g 347 27 (.iconst 1) 28 := im_D.of (by decide +kernel)
theorem D347_28 {g : im_g} : im_D g 347 28 (.iload_n 1) 29 := im_D.of (by decide +kernel)
theorem D347_29 {g : im_g} : im_D g 347 29 (.i2l) 30 := im_D.of (by decide +kernel)
theorem D347_30 {g : im_g} : im_D g 347 30 (.lconst 0) 31 := im_D.of (by decide +kernel)
theorem D347_31 {g : im_g} : im_D g 347 31 (.lconst 0) 32 := im_D.of (by decide +kernel)
theorem D347_32 {g : im_g} : im_D g 347 32 (.iconst 0) 33 := im_D.of (by decide +kernel)
theorem D347_33 {g : im_g} : im_D g 347 33 (.invokevirtual 740) 36 := im_D.of (by decide +kernel)
theorem D347_36 {g : im_g} : im_D g 347 36 (.istore_n 2) 37 := im_D.of (by decide +kernel)
theorem D347_37 {g : im_g} : im_D g 347 37 (.iload_n 2) 38 := im_D.of (by decide +kernel)
theorem D347_38 {g : im_g} : im_D g 347 38 (.bipush (-100)) 40 := im_D.of (by decide +kernel)
theorem D347_40 {g : im_g} : im_D g 347 40 (.if_icmp .ne 10) 43 := im_D.of (by decide +kernel)
theorem D347_43 {g : im_g} : im_D g 347 43 (.aload_n 0) 44 := im_D.of (by decide +kernel)
theorem D347_44 {g : im_g} : im_D g 347 44 (.iconst 2) 45 := im_D.of (by decide +kernel)
theorem D347_45 {g : im_g} : im_D g 347 45 (.putfield 409) 48 := im_D.of (by decide +kernel)
theorem D347_48 {g : im_g} : im_D g 347 48 (.iconst 0) 49 := im_D.of (by decide +kernel)
theorem D347_49 {g : im_g} : im_D g 347 49 (.ireturn) 50 := im_D.of (by decide +kernel)
theorem D347_50 {g : im_g} : im_D g 347 50 (.aload_n 0) 51 := im_D.of (by decide +kernel)
theorem D347_51 {g : im_g} : im_D g 347 51 (.getfield 136) 54 := im_D.of (by decide +kernel)
theorem D347_54 {g : im_g} : im_D g 347 54 (.iload_n 1) 55 := im_D.of (by decide +kernel)
theorem D347_55 {g : im_g} : im_D g 347 55 (.aload_n 0) 56 := im_D.of (by decide +kernel)
theorem D347_56 {g : im_g} : im_D g 347 56 (.getfield 136) 59 := im_D.of (by decide +kernel)
theorem D347_59 {g : im_g} : im_D g 347 59 (.iload_n 1) 60 := im_D.of (by decide +kernel)
theorem D347_60 {g : im_g} : im_D g 347 60 (.baload) 61 := im_D.of (by decide +kernel)
theorem D347_61 {g : im_g} : im_D g 347 61 (.ifCond .eq 11) 64 := im_D.of (by decide +kernel)
theorem D347_64 {g : im_g} : im_D g 347 64 (.iload_n 2) 65 := im_D.of (by decide +kernel)
theorem D347_65 {g : im_g} : im_D g 347 65 (.ifCond .ge 7) 68 := im_D.of (by decide +kernel)
theorem D347_68 {g : im_g} : im_D g 347 68 (.iconst 1) 69 := im_D.of (by decide +kernel)
theorem D347_69 {g : im_g} : im_D g 347 69 (.goto 4) 72 := im_D.of (by decide +kernel)
theorem D347_72 {g : im_g} : im_D g 347 72 (.iconst 0) 73 := im_D.of (by decide +kernel)
theorem D347_73 {g : im_g} : im_D g 347 73 (.bastore) 74 := im_D.of (by decide +kernel)
theorem D347_74 {g : im_g} : im_D g 347 74 (.iload_n 2) 75 := im_D.of (by decide +kernel)
theorem D347_75 {g : im_g} : im_D g 347 75 (.ireturn) 76 := im_D.of (by decide +kernel)
theorem D348_0 {g : im_g} : im_D g 348 0 (.aload_n 0) 1 := im_D.of (by decide +kernel)
theorem D348_1 {g : im_g} : im_D g 348 1 (.iload_n 1) 2 := im_D.of (by decide +kernel)
theorem D348_2 {g : im_g} : im_D g 348 2 (.invokevirtual 840) 5 := im_D.of (by decide +kernel)
theorem D348_5 {g : im_g} : im_D g 348 5 (.ifCond .eq 31) 8 := im_D.of (by decide +kernel)
theorem D348_8 {g : im_g} : im_D g 348 8 (.aload_n 0) 9 := im_D.of (by decide +kernel)
theorem D348_9 {g : im_g} : im_D g 348 9 (.getfield 33) 12 := im_D.of (by decide +kernel)
theorem D348_12 {g : im_g} : im_D g 348 12 (.aload_n 0) 13 := im_D.of (by decide +kernel)
theorem D348_13 {g : im_g} : im_D g 348 13 (.getfield 139) 16 := im_D.of (by decide +kernel)
theorem D348_16 {g : im_g} : im_D g 348 16 (.iload_n 1) 17 := im_D.of (by decide +kernel)
theorem D348_17 {g : im_g} : im_D g 348 17 (.iaload) 18 := im_D.of (by decide +kernel)
theorem D348_18 {g : im_g} : im_D g 348 18 (.iaload) 19 := im_D.of (by decide +kernel)
theorem D348_19 {g : im_g} : im_D g 348 19 (.iconst 1) 20 := im_D.of (by decide +kernel)
theorem D348_20 {g : im_g} : im_D g 348 20 (.if_icmp .ne 16) 23 := im_D.of (by decide +kernel)
theorem D348_23 {g : im_g} : im_D g 348 23 (.aload_n 0) 24 := im_D.of (by decide +kernel)
theorem D348_24 {g : im_g} : im_D g 348 24 (.getfield 145) 27 := im_D.of (by decide +kernel)
theorem D348_27 {g : im_g} : im_D g 348 27 (.iload_n 1) 28 := im_D.of (by decide +kernel)
theorem D348_28 {g : im_g} : im_D g 348 28 (.iaload) 29 := im_D.of (by decide +kernel)
theorem D348_29 {g : im_g} : im_D g 348 29 (.ifCond .ne 7) 32 := im_D.of (by decide +kernel)
theorem D348_32 {g : im_g} : im_D g 348 32 (.iconst 1) 33 := im_D.of (by decide +kernel)
theorem D348_33 {g : im_g} : im_D g 348 33 (.goto 4) 36 := im_D.of (by decide +kernel)
theorem D348_36 {g : im_g} : im_D g 348 36 (.iconst 0) 37 := im_D.of (by decide +kernel)
theorem D348_37 {g : im_g} : im_D g 348 37 (.ireturn) 38 := im_D.of (by decide +kernel)
theorem D349_0 {g : im_g} : im_D g 349 0 (.iload_n 1) 1 := im_D.of (by decide +kernel)
theorem D349_1 {g : im_g} : im_D g 349 1 (.i2l) 2 := im_D.of (by decide +kernel)
theorem D349_2 {g : im_g} : im_D g 349 2 (.lconst 0) 3 := im_D.of (by decide +kernel)
theorem D349_3 {g : im_g} : im_D g 349 3 (.ldc2_w 729) 6 := im_D.of (by decide +kernel)
theorem D349_6 {g : im_g} : im_D g 349 6 (.invokestatic 428) 9 := im_D.of (by decide +kernel)
theorem D349_9 {g : im_g} : im_D g 349 9 (.ifCond .eq 16) 12 := im_D.of (by decide +kernel)
theorem D349_12 {g : im_g} : im_D g 349 12 (.aload_n 0) 13 := im_D.of (by decide +kernel)
theorem D349_13 {g : im_g} : im_D g 349 13 (.getfield 136) 16 := im_D.of (by decide +kernel)
theorem D349_16 {g : im_g} : im_D g 349 16 (.iload_n 1) 17 := im_D.of (by decide +kernel)
theorem D349_17 {g : im_g} : im_D g 349 17 (.baload) 18 := im_D.of (by decide +kernel)
theorem D349_18 {g : im_g} : im_D g 349 18 (.ifCond .eq 7) 21 := im_D.of (by decide +kernel)
theorem D349_21 {g : im_g} : im_D g 349 21 (.iconst 1) 22 := im_D.of (by decide +kernel)
theorem D349_22 {g : im_g} : im_D g 349 22 (.goto 4) 25 := im_D.of (by decide +kernel)
theorem D349_25 {g : im_g} : im_D g 349 25 (.iconst 0) 26 := im_D.of (by decide +kernel)
theorem D349_26 {g : im_g} : im_D g 349 26 (.ireturn) 27 := im_D.of (by decide +kernel)
theorem D350_0 {g : im_g} : im_D g 350 0 (.aload_n 0) 1 := im_D.of (by decide +kernel)
theorem D350_1 {g : im_g} : im_D g 350 1 (.iconst 2) 2 := im_D.of (by decide +kernel)
theorem D350_2 {g : im_g} : im_D g 350 2 (.iload_n 1) 3 := im_D.of (by decide +kernel)
theorem D350_3 {g : im_g} : im_D g 350 3 (.i2l) 4 := im_D.of (by decide +kernel)
theorem D350_4 {g : im_g} : im_D g 350 4 (.lconst 0) 5 := im_D.of (by decide +kernel)
theorem D350_5 {g : im_g} : im_D g 350 5 (.ldc2_w 729) 8 := im_D.of (by decide +kernel)
theorem D350_8 {g : im_g} : im_D g 350 8 (.invokestatic 428) 11 := im_D.of (by decide +kernel)
theorem D350_11 {g : im_g} : im_D g 350 11 (.aload_n 0) 12 := im_D.of (by decide +kernel)
theorem D350_12 {g : im_g} : im_D g 350 12 (.iload_n 1) 13 := im_D.of (by decide +kernel)
theorem D350_13 {g : im_g} : im_D g 350 13 (.invokevirtual 840) 16 := im_D.of (by decide +kernel)
theorem D350_16 {g : im_g} : im_D g 350 16 (.iconst 1) 17 := im_D.of (by decide +kernel)
theorem D350_17 {g : im_g} : im_D g 350 17 (.invokevirtual 419) 20 := im_D.of (by decide +kernel)
theorem D350_20 {g : im_g} : im_D g 350 20 (.ifCond .eq 16) 23 := im_D.of (by decide +kernel)
theorem D350_23 {g : im_g} : im_D g 350 23 (.aload_n 0) 24 := im_D.of (by decide +kernel)
theorem D350_24 {g : im_g} : im_D g 350 24 (.aload_n 0) 25 := im_D.of (by decide +kernel)
theorem D350_25 {g : im_g} : im_D g 350 25 (.getfield 139) 28 := im_D.of (by decide +kernel)
theorem D350_28 {g : im_g} : im_D g 350 28 (.iload_n 1) 29 := im_D.of (by decide +kernel)
theorem D350_29 {g : im_g} : im_D g 350 29 (.iaload) 30 := im_D.of (by decide +kernel)
theorem D350_30 {g : im_g} : im_D g 350 30 (.invokevirtual 776) 33 := im_D.of (by decide +kernel)
theorem D350_33 {g : im_g} : im_D g 350 33 (.goto 4) 36 := im_D.of (by decide +kernel)
theorem D350_36 {g : im_g} : im_D g 350 36 (.iconst 0) 37 := im_D.of (by decide +kernel)
theorem D350_37 {g : im_g} : im_D g 350 37 (.ireturn) 38 := im_D.of (by decide +kernel)
theorem D351_0 {g : im_g} : im_D g 351 0 (.aload_n 0) 1 := im_D.of (by decide +kernel)
theorem D351_1 {g : im_g} : im_D g 351 1 (.iconst 3) 2 := im_D.of (by decide +kernel)
theorem D351_2 {g : im_g} : im_D g 351 2 (.iload_n 1) 3 := im_D.of (by decide +kernel)
theorem D351_3 {g : im_g} : im_D g 351 3 (.i2l) 4 := im_D.of (by decide +kernel)
theorem D351_4 {g : im_g} : im_D g 351 4 (.lconst 0) 5 := im_D.of (by decide +kernel)
theorem D351_5 {g : im_g} : im_D g 351 5 (.ldc2_w 729) 8 := im_D.of (by decide +kernel)
theorem D351_8 {g : im_g} : im_D g 351 8 (.invokestatic 428) 11 := im_D.of (by decide +kernel)
theorem D351_11 {g : im_g} : im_D g 351 11 (.iload_n 2) 12 := im_D.of (by decide +kernel)
theorem D351_12 {g : im_g} : im_D g 351 12 (.i2l) 13 := im_D.of (by decide +kernel)
theorem D351_13 {g : im_g} : im_D g 351 13 (.lconst 0) 14 := im_D.of (by decide +kernel)
theorem D351_14 {g : im_g} : im_D g 351 14 (.ldc2_w 846) 17 := im_D.of (by decide +kernel)
theorem D351_17 {g : im_g} : im_D g 351 17 (.invokestatic 428) 20 := im_D.of (by decide +kernel)
theorem D351_20 {g : im_g} : im_D g 351 20 (.aload_n 0) 21 := im_D.of (by decide +kernel)
theorem D351_21 {g : im_g} : im_D g 351 21 (.iload_n 1) 22 := im_D.of (by decide +kernel)
theorem D351_22 {g : im_g} : im_D g 351 22 (.invokevirtual 840) 25 := im_D.of (by decide +kernel)
theorem D351_25 {g : im_g} : im_D g 351 25 (.invokevirtual 419) 28 := im_D.of (by decide +kernel)
theorem D351_28 {g : im_g} : im_D g 351 28 (.ifCond .ne 5) 31 := im_D.of (by decide +kernel)
theorem D351_31 {g : im_g} : im_D g 351 31 (.lconst 0) 32 := im_D.of (by decide +kernel)
theorem D351_32 {g : im_g} : im_D g 351 32 (.lreturn) 33 := im_D.of (by decide +kernel)
theorem D351_33 {g : im_g} : im_D g 351 33 (.iload_n 2) 34 := im_D.of (by decide +kernel)
theorem D351_34 {g : im_g} : im_D g 351 34 (.ifCond .ne 12) 37 := im_D.of (by decide +kernel)
theorem D351_37 {g : im_g} : im_D g 351 37 (.aload_n 0) 38 := im_D.of (by decide +kernel)
theorem D351_38 {g : im_g} : im_D g 351 38 (.getfield 142) 41 := im_D.of (by decide +kernel)
theorem D351_41 {g : im_g} : im_D g 351 41 (.iload_n 1) 42 := im_D.of (by decide +kernel)
theorem D351_42 {g : im_g} : im_D g 351 42 (.laload) 43 := im_D.of (by decide +kernel)
theorem D351_43 {g : im_g} : im_D g 351 43 (.goto 31) 46 := im_D.of (by decide +kernel)
theorem D351_46 {g : im_g} : im_D g 351 46 (.iload_n 2) 47 := im_D.of (by decide +kernel)
theorem D351_47 {g : im_g} : im_D g 351 47 (.iconst 5) 48 := im_D.of (by decide +kernel)
theorem D351_48 {g : im_g} : im_D g 351 48 (.if_icmp .ne 19) 51 := im_D.of (by decide +kernel)
theorem D351_51 {g : im_g} : im_D g 351 51 (.aload_n 0) 52 := im_D.of (by decide +kernel)
theorem D351_52 {g : im_g} : im_D g 351 52 (.iload_n 1) 53 := im_D.of (by decide +kernel)
theorem D351_53 {g : im_g} : im_D g 351 53 (.invokevirtual 843) 56 := im_D.of (by decide +kernel)
theorem D351_56 {g : im_g} : im_D g 351 56 (.ifCond .eq 7) 59 := im_D.of (by decide +kernel)
theorem D351_59 {g : im_g} : im_D g 351 59 (.lconst 1) 60 := im_D.of (by decide +kernel)
theorem D351_60 {g : im_g} : im_D g 351 60 (.goto 14) 63 := im_D.of (by decide +kernel)
theorem D351_63 {g : im_g} : im_D g 351 63 (.lconst 0) 64 := im_D.of (by decide +kernel)
theorem D351_64 {g : im_g} : im_D g 351 64 (.goto 10) 67 := im_D.of (by decide +kernel)
theorem D351_67 {g : im_g} : im_D g 351 67 (.aload_n 0) 68 := im_D.of (by decide +kernel)
theorem D351_68 {g : im_g} : im_D g 351 68 (.iload_n 1) 69 := im_D.of (by decide +kernel)
theorem D351_69 {g : im_g} : im_D g 351 69 (.iload_n 2) 70 := im_D.of (by decide +kernel)
theorem D351_70 {g : im_g} : im_D g 351 70 (.invokevirtual 848) 73 := im_D.of (by decide +kernel)
theorem D351_73 {g : im_g} : im_D g 351 73 (.i2l) 74 := im_D.of (by decide +kernel)
theorem D351_74 {g : im_g} : im_D g 351 74 (.lreturn) 75 := im_D.of (by decide +kernel)
theorem D352_0 {g : im_g} : im_D g 352 0 (.iload_n 2) 1 := im_D.of (by decide +kernel)
theorem D352_1 {g : im_g} : im_D g 352 1 (.iconst 1) 2 := im_D.of (by decide +kernel)
theorem D352_2 {g : im_g} : im_D g 352 2 (.if_icmp .ne 12) 5 := im_D.of (by decide +kernel)
theorem D352_5 {g : im_g} : im_D g 352 5 (.aload_n 0) 6 := im_D.of (by decide +kernel)
theorem D352_6 {g : im_g} : im_D g 352 6 (.getfield 145) 9 := im_D.of (by decide +kernel)
theorem D352_9 {g : im_g} : im_D g 352 9 (.iload_n 1) 10 := im_D.of (by decide +kernel)
theorem D352_10 {g : im_g} : im_D g 352 10 (.iaload) 11 := im_D.of (by decide +kernel)
theorem D352_11 {g : im_g} : im_D g 352 11 (.goto 37) 14 := im_D.of (by decide +kernel)
theorem D352_14 {g : im_g} : im_D g 352 14 (.iload_n 2) 15 := im_D.of (by decide +kernel)
theorem D352_15 {g : im_g} : im_D g 352 15 (.iconst 2) 16 := im_D.of (by decide +kernel)
theorem D352_16 {g : im_g} : im_D g 352 16 (.if_icmp .ne 12) 19 := im_D.of (by decide +kernel)
theorem D352_19 {g : im_g} : im_D g 352 19 (.aload_n 0) 20 := im_D.of (by decide +kernel)
theorem D352_20 {g : im_g} : im_D g 352 20 (.getfield 158) 23 := im_D.of (by decide +kernel)
theorem D352_23 {g : im_g} : im_D g 352 23 (.iload_n 1) 24 := im_D.of (by decide +kernel)
theorem D352_24 {g : im_g} : im_D g 352 24 (.iaload) 25 := im_D.of (by decide +kernel)
theorem D352_25 {g : im_g} : im_D g 352 25 (.goto 23) 28 := im_D.of (by decide +kernel)
theorem D352_28 {g : im_g} : im_D g 352 28 (.iload_n 2) 29 := im_D.of (by decide +kernel)
theorem D352_29 {g : im_g} : im_D g 352 29 (.iconst 3) 30 := im_D.of (by decide +kernel)
theorem D352_30 {g : im_g} : im_D g 352 30 (.if_icmp .ne 12) 33 := im_D.of (by decide +kernel)
theorem D352_33 {g : im_g} : im_D g 352 33 (.aload_n 0) 34 := im_D.of (by decide +kernel)
theorem D352_34 {g : im_g} : im_D g 352 34 (.getfield 170) 37 := im_D.of (by decide +kernel)
theorem D352_37 {g : im_g} : im_D g 352 37 (.iload_n 1) 38 := im_D.of (by decide +kernel)
theorem D352_38 {g : im_g} : im_D g 352 38 (.iaload) 39 := im_D.of (by decide +kernel)
theorem D352_39 {g : im_g} : im_D g 352 39 (.goto 9) 42 := im_D.of (by decide +kernel)
theorem D352_42 {g : im_g} : im_D g 352 42 (.aload_n 0) 43 := im_D.of (by decide +kernel)
theorem D352_43 {g : im_g} : im_D g 352 43 (.getfield 179) 46 := im_D.of (by decide +kernel)
theorem D352_46 {g : im_g} : im_D g 352 46 (.iload_n 1) 47 := im_D.of (by decide +kernel)
theorem D352_47 {g : im_g} : im_D g 352 47 (.iaload) 48 := im_D.of (by decide +kernel)
theorem D352_48 {g : im_g} : im_D g 352 48 (.ireturn) 49 := im_D.of (by decide +kernel)
theorem D353_0 {g : im_g} : im_D g 353 0 (.aload_n 0) 1 := im_D.of (by decide +kernel)
theorem D353_1 {g : im_g} : im_D g 353 1 (.iload_n 1) 2 := im_D.of (by decide +kernel)
theorem D353_2 {g : im_g} : im_D g 353 2 (.iload_n 2) 3 := im_D.of (by decide +kernel)
theorem D353_3 {g : im_g} : im_D g 353 3 (.iload_n 3) 4 := im_D.of (by decide +kernel)
theorem D353_4 {g : im_g} : im_D g 353 4 (.invokevirtual 851) 7 := im_D.of (by decide +kernel)
theorem D353_7 {g : im_g} : im_D g 353 7 (.ifCond .ne 5) 10 := im_D.of (by decide +kernel)
theorem D353_10 {g : im_g} : im_D g 353 10 (.iconst 0) 11 := im_D.of (by decide +kernel)
theorem D353_11 {g : im_g} : im_D g 353 11 (.ireturn) 12 := im_D.of (by decide +kernel)
theorem D353_12 {g : im_g} : im_D g 353 12 (.aload_n 0) 13 := im_D.of (by decide +kernel)
theorem D353_13 {g : im_g} : im_D g 353 13 (.aload_n 0) 14 := im_D.of (by decide +kernel)
theorem D353_14 {g : im_g} : im_D g 353 14 (.getfield 617) 17 := im_D.of (by decide +kernel)
theorem D353_17 {g : im_g} : im_D g 353 17 (.putfield 449) 20 := im_D.of (by decide +kernel)
theorem D353_20 {g : im_g} : im_D g 353 20 (.iload_n 2) 21 := im_D.of (by decide +kernel)
theorem D353_21 {g : im_g} : im_D g 353 21 (.iconst 1) 22 := im_D.of (by decide +kernel)
theorem D353_22 {g : im_g} : im_D g 353 22 (.if_icmp .ne 20) 25 := im_D.of (by decide +kernel)
theorem D353_25 {g : im_g} : im_D g 353 25 (.aload_n 0) 26 := im_D.of (by decide +kernel)
theorem D353_26 {g : im_g} : im_D g 353 26 (.aload_n 0) 27 := im_D.of (by decide +kernel)
theorem D353_27 {g : im_g} : im_D g 353 27 (.getfield 155) 30 := im_D.of (by decide +kernel)
theorem D353_30 {g : im_g} : im_D g 353 30 (.bipush 40) 32 := im_D.of (by decide +kernel)
theorem D353_32 {g : im_g} : im_D g 353 32 (.iload_n 1) 33 := im_D.of (by decide +kernel)
theorem D353_33 {g : im_g} : im_D g 353 33 (.imul) 34 := im_D.of (by decide +kernel)
theorem D353_34 {g : im_g} : im_D g 353 34 (.iload_n 3) 35 := im_D.of (by decide +kernel)
theorem D353_35 {g : im_g} : im_D g 353 35 (.iadd) 36 := im_D.of (by decide +kernel)
theorem D353_36 {g : im_g} : im_D g 353 36 (.invokevirtual 825) 39 := im_D.of (by decide +kernel)
theorem D353_39 {g : im_g} : im_D g 353 39 (.goto 61) 42 := im_D.of (by decide +kernel)
theorem D353_42 {g : im_g} : im_D g 353 42 (.iload_n 2) 43 := im_D.of (by decide +kernel)
theorem D353_43 {g : im_g} : im_D g 353 43 (.iconst 2) 44 := im_D.of (by decide +kernel)
theorem D353_44 {g : im_g} : im_D g 353 44 (.if_icmp .ne 20) 47 := im_D.of (by decide +kernel)
theorem D353_47 {g : im_g} : im_D g 353 47 (.aload_n 0) 48 := im_D.of (by decide +kernel)
theorem D353_48 {g : im_g} : im_D g 353 48 (.aload_n 0) 49 := im_D.of (by decide +kernel)
theorem D353_49 {g : im_g} : im_D g 353 49 (.getfield 167) 52 := im_D.of (by decide +kernel)
theorem D353_52 {g : im_g} : im_D g 353 52 (.bipush 40) 54 := im_D.of (by decide +kernel)
theorem D353_54 {g : im_g} : im_D g 353 54 (.iload_n 1) 55 := im_D.of (by decide +kernel)
theorem D353_55 {g : im_g} : im_D g 353 55 (.imul) 56 := im_D.of (by decide +kernel)
theorem D353_56 {g : im_g} : im_D g 353 56 (.iload_n 3) 57 := im_D.of (by decide +kernel)
theorem D353_57 {g : im_g} : im_D g 353 57 (.iadd) 58 := im_D.of (by decide +kernel)
theorem D353_58 {g : im_g} : im_D g 353 58 (.invokevirtual 825) 61 := im_D.of (by decide +kernel)
theorem D353_61 {g : im_g} : im_D g 353 61 (.goto 39) 64 := im_D.of (by decide +kernel)
theorem D353_64 {g : im_g} : im_D g 353 64 (.iload_n 2) 65 := im_D.of (by decide +kernel)
theorem D353_65 {g : im_g} : im_D g 353 65 (.iconst 3) 66 := im_D.of (by decide +kernel)
theorem D353_66 {g : im_g} : im_D g 353 66 (.if_icmp .ne 20) 69 := im_D.of (by decide +kernel)
theorem D353_69 {g : im_g} : im_D g 353 69 (.aload_n 0) 70 := im_D.of (by decide +kernel)
theorem D353_70 {g : im_g} : im_D g 353 70 (.aload_n 0) 71 := im_D.of (by decide +kernel)
theorem D353_71 {g : im_g} : im_D g 353 71 (.getfield 176) 74 := im_D.of (by decide +kernel)
theorem D353_74 {g : im_g} : im_D g 353 74 (.bipush 40) 76 := im_D.of (by decide +kernel)
theorem D353_76 {g : im_g} : im_D g 353 76 (.iload_n 1) 77 := im_D.of (by decide +kernel)
theorem D353_77 {g : im_g} : im_D g 353 77 (.imul) 78 := im_D.of (by decide +kernel)
theorem D353_78 {g : im_g} : im_D g 353 78 (.iload_n 3) 79 := im_D.of (by decide +kernel)
theorem D353_79 {g : im_g} : im_D g 353 79 (.iadd) 80 := im_D.of (by decide +kernel)
theorem D353_80 {g : im_g} : im_D g 353 80 (.invokevirtual 825) 83 := im_D.of (by decide +kernel)
theorem D353_83 {g : im_g} : im_D g 353 83 (.goto 17) 86 := im_D.of (by decide +kernel)
theorem D353_86 {g : im_g} : im_D g 353 86 (.aload_n 0) 87 := im_D.of (by decide +kernel)
theorem D353_87 {g : im_g} : im_D g 353 87 (.aload_n 0) 88 := im_D.of (by decide +kernel)
theorem D353_88 {g : im_g} : im_D g 353 88 (.getfield 186) 91 := im_D.of (by decide +kernel)
theorem D353_91 {g : im_g} : im_D g 353 91 (.bipush 20) 93 := im_D.of (by decide +kernel)
theorem D353_93 {g : im_g} : im_D g 353 93 (.iload_n 1) 94 := im_D.of (by decide +kernel)
theorem D353_94 {g : im_g} : im_D g 353 94 (.imul) 95 := im_D.of (by decide +kernel)
theorem D353_95 {g : im_g} : im_D g 353 95 (.iload_n 3) 96 := im_D.of (by decide +kernel)
theorem D353_96 {g : im_g} : im_D g 353 96 (.iadd) 97 := im_D.of (by decide +kernel)
theorem D353_97 {g : im_g} : im_D g 353 97 (.invokevirtual 825) 100 := im_D.of (by decide +kernel)
theorem D353_100 {g : im_g} : im_D g 353 100 (.istore 4) 102 := im_D.of (by decide +kernel)
theorem D353_102 {g : im_g} : im_D g 353 102 (.aload_n 0) 103 := im_D.of (by decide +kernel)
theorem D353_103 {g : im_g} : im_D g 353 103 (.iconst 0) 104 := im_D.of (by decide +kernel)
theorem D353_104 {g : im_g} : im_D g 353 104 (.putfield 423) 107 := im_D.of (by decide +kernel)
theorem D353_107 {g : im_g} : im_D g 353 107 (.aload_n 0) 108 := im_D.of (by decide +kernel)
theorem D353_108 {g : im_g} : im_D g 353 108 (.iload 4) 110 := im_D.of (by decide +kernel)
theorem D353_110 {g : im_g} : im_D g 353 110 (.invokevirtual 756) 113 := im_D.of (by decide +kernel)
theorem D353_113 {g : im_g} : im_D g 353 113 (.aload_n 0) 114 := im_D.of (by decide +kernel)
theorem D353_114 {g : im_g} : im_D g 353 114 (.getfield 423) 117 := im_D.of (by decide +kernel)
theorem D353_117 {g : im_g} : im_D g 353 117 (.ireturn) 118 := im_D.of (by decide +kernel)
theorem D354_0 {g : im_g} : im_D g 354 0 (.aload_n 0) 1 := im_D.of (by decide +kernel)
theorem D354_1 {g : im_g} : im_D g 354 1 (.iconst 3) 2 := im_D.of (by decide +kernel)
theorem D354_2 {g : im_g} : im_D g 354 2 (.iload_n 1) 3 := im_D.of (by decide +kernel)
theorem D354_3 {g : im_g} : im_D g 354 3 (.i2l) 4 := im_D.of (by decide +kernel)
theorem D354_4 {g : im_g} : im_D g 354 4 (.lconst 0) 5 := im_D.of (by decide +kernel)
theorem D354_5 {g : im_g} : im_D g 354 5 (.ldc2_w 729) 8 := im_D.of (by decide +kernel)
theorem D354_8 {g : im_g} : im_D g 354 8 (.invokestatic 428) 11 := im_D.of (by decide +kernel)
theorem D354_11 {g : im_g} : im_D g 354 11 (.iload_n 2) 12 := im_D.of (by decide +kernel)
theorem D354_12 {g : im_g} : im_D g 354 12 (.i2l) 13 := im_D.of (by decide +kernel)
theorem D354_13 {g : im_g} : im_D g 354 13 (.lconst 1) 14 := im_D.of (by decide +kernel)
theorem D354_14 {g : im_g} : im_D g 354 14 (.ldc2_w 785) 17 := im_D.of (by decide +kernel)
theorem D354_17 {g : im_g} : im_D g 354 17 (.invokestatic 428) 20 := im_D.of (by decide +kernel)
theorem D354_20 {g : im_g} : im_D g 354 20 (.aload_n 0) 21 := im_D.of (by decide +kernel)
theorem D354_21 {g : im_g} : im_D g 354 21 (.iload_n 1) 22 := im_D.of (by decide +kernel)
theorem D354_22 {g : im_g} : im_D g 354 22 (.invokevirtual 840) 25 := im_D.of (by decide +kernel)
theorem D354_25 {g : im_g} : im_D g 354 25 (.invokevirtual 419) 28 := im_D.of (by decide +kernel)
theorem D354_28 {g : im_g} : im_D g 354 28 (.istore 4) 30 := im_D.of (by decide +kernel)
theorem D354_30 {g : im_g} : im_D g 354 30 (.iload 4) 32 := im_D.of (by decide +kernel)
theorem D354_32 {g : im_g} : im_D g 354 32 (.ifCond .eq 32) 35 := im_D.of (by decide +kernel)
theorem D354_35 {g : im_g} : im_D g 354 35 (.aload_n 0) 36 := im_D.of (by decide +kernel)
theorem D354_36 {g : im_g} : im_D g 354 36 (.iconst 3) 37 := im_D.of (by decide +kernel)
theorem D354_37 {g : im_g} : im_D g 354 37 (.iload_n 3) 38 := im_D.of (by decide +kernel)
theorem D354_38 {g : im_g} : im_D g 354 38 (.i2l) 39 := im_D.of (by decide +kernel)
theorem D354_39 {g : im_g} : im_D g 354 39 (.lconst 0) 40 := im_D.of (by decide +kernel)
theorem D354_40 {g : im_g} : im_D g 354 40 (.aload_n 0) 41 := im_D.of (by decide +kernel)
theorem D354_41 {g : im_g} : im_D g 354 41 (.iload_n 1) 42 := im_D.of (by decide +kernel)
theorem D354_42 {g : im_g} : im_D g 354 42 (.iload_n 2) 43 := im_D.of (by decide +kernel)
theorem D354_43 {g : im_g} : im_D g 354 43 (.invokevirtual 848) 46 := im_D.of (by decide +kernel)
theorem D354_46 {g : im_g} : im_D g 354 46 (.iconst 1) 47 := im_D.of (by decide +kernel)
theorem D354_47 {g : im_g} : im_D g 354 47 (.isub) 48 := im_D.of (by decide +kernel)
theorem D354_48 {g : im_g} : im_D g 354 48 (.i2l) 49 := im_D.of (by decide +kernel)
theorem D354_49 {g : im_g} : im_D g 354 49 (.invokestatic 428) 52 := im_D.of (by decide +kernel)
theorem D354_52 {g : im_g} : im_D g 354 52 (.iconst 1) 53 := im_D.of (by decide +kernel)
theorem D354_53 {g : im_g} : im_D g 354 53 (.iconst 1) 54 := im_D.of (by decide +kernel)
theorem D354_54 {g : im_g} : im_D g 354 54 (.invokevirtual 419) 57 := im_D.of (by decide +kernel)
theorem D354_57 {g : im_g} : im_D g 354 57 (.ifCond .eq 7) 60 := im_D.of (by decide +kernel)
theorem D354_60 {g : im_g} : im_D g 354 60 (.iconst 1) 61 := im_D.of (by decide +kernel)
theorem D354_61 {g : im_g} : im_D g 354 61 (.goto 4) 64 := im_D.of (by decide +kernel)
theorem D354_64 {g : im_g} : im_D g 354 64 (.iconst 0) 65 := im_D.of (by decide +kernel)
theorem D354_65 {g : im_g} : im_D g 354 65 (.ireturn) 66 := im_D.of (by decide +kernel)
theorem D355_0 {g : im_g} : im_D g 355 0 (.aload_n 0) 1 := im_D.of (by decide +kernel)
theorem D355_1 {g : im_g} : im_D g 355 1 (.iload_n 1) 2 := im_D.of (by decide +kernel)
theorem D355_2 {g : im_g} : im_D g 355 2 (.iload_n 2) 3 := im_D.of (by decide +kernel)
theorem D355_3 {g : im_g} : im_D g 355 3 (.iload_n 3) 4 := im_D.of (by decide +kernel)
theorem D355_4 {g : im_g} : im_D g 355 4 (.invokevirtual 851) 7 := im_D.of (by decide +kernel)
theorem D355_7 {g : im_g} : im_D g 355 7 (.ifCond .ne 5) 10 := im_D.of (by decide +kernel)
theorem D355_10 {g : im_g} : im_D g 355 10 (.lconst 0) 11 := im_D.of (by decide +kernel)
theorem D355_11 {g : im_g} : im_D g 355 11 (.lreturn) 12 := im_D.of (by decide +kernel)
theorem D355_12 {g : im_g} : im_D g 355 12 (.bipush 40) 14 := im_D.of (by decide +kernel)
theorem D355_14 {g : im_g} : im_D g 355 14 (.iload_n 1) 15 := im_D.of (by decide +kernel)
theorem D355_15 {g : im_g} : im_D g 355 15 (.imul) 16 := im_D.of (by decide +kernel)
theorem D355_16 {g : im_g} : im_D g 355 16 (.iload_n 3) 17 := im_D.of (by decide +kernel)
theorem D355_17 {g : im_g} : im_D g 355 17 (.iadd) 18 := im_D.of (by decide +kernel)
theorem D355_18 {g : im_g} : im_D g 355 18 (.istore 5) 20 := im_D.of (by decide +kernel)
theorem D355_20 {g : im_g} : im_D g 355 20 (.iload_n 2) 21 := im_D.of (by decide +kernel)
theorem D355_21 {g : im_g} : im_D g 355 21 (.tableswitch 90 1 3 #[27, 50, 73]) 22 := im_D.of (by decide +kernel)
theorem D355_48 {g : im_g} : im_D g 355 48 (.iload 4) 50 := im_D.of (by decide +kernel)
theorem D355_50 {g : im_g} : im_D g 355 50 (.ifCond .eq 13) 53 := im_D.of (by decide +kernel)
theorem D355_53 {g : im_g} : im_D g 355 53 (.aload_n 0) 54 := im_D.of (by decide +kernel)
theorem D355_54 {g : im_g} : im_D g 355 54 (.getfield 151) 57 := im_D.of (by decide +kernel)
theorem D355_57 {g : im_g} : im_D g 355 57 (.iload 5) 59 := im_D.of (by decide +kernel)
theorem D355_59 {g : im_g} : im_D g 355 59 (.laload) 60 := im_D.of (by decide +kernel)
theorem D355_60 {g : im_g} : im_D g 355 60 (.goto 10) 63 := im_D.of (by decide +kernel)
theorem D355_63 {g : im_g} : im_D g 355 63 (.aload_n 0) 64 := im_D.of (by decide +kernel)
theorem D355_64 {g : im_g} : im_D g 355 64 (.getfield 148) 67 := im_D.of (by decide +kernel)
theorem D355_67 {g : im_g} : im_D g 355 67 (.iload 5) 69 := im_D.of (by decide +kernel)
theorem D355_69 {g : im_g} : im_D g 355 69 (.laload) 70 := im_D.of (by decide +kernel)
theorem D355_70 {g : im_g} : im_D g 355 70 (.lreturn) 71 := im_D.of (by decide +kernel)
theorem D355_71 {g : im_g} : im_D g 355 71 (.iload 4) 73 := im_D.of (by decide +kernel)
theorem D355_73 {g : im_g} : im_D g 355 73 (.ifCond .eq 13) 76 := im_D.of (by decide +kernel)
theorem D355_76 {g : im_g} : im_D g 355 76 (.aload_n 0) 77 := im_D.of (by decide +kernel)
theorem D355_77 {g : im_g} : im_D g 355 77 (.getfield 164) 80 := im_D.of (by decide +kernel)
theorem D355_80 {g : im_g} : im_D g 355 80 (.iload 5) 82 := im_D.of (by decide +kernel)
theorem D355_82 {g : im_g} : im_D g 355 82 (.laload) 83 := im_D.of (by decide +kernel)
theorem D355_83 {g : im_g} : im_D g 355 83 (.goto 10) 86 := im_D.of (by decide +kernel)
theorem D355_86 {g : im_g} : im_D g 355 86 (.aload_n 0) 87 := im_D.of (by decide +kernel)
theorem D355_87 {g : im_g} : im_D g 355 87 (.getfield 161) 90 := im_D.of (by decide +kernel)
theorem D355_90 {g : im_g} : im_D g 355 90 (.iload 5) 92 := im_D.of (by decide +kernel)
theorem D355_92 {g : im_g} : im_D g 355 92 (.laload) 93 := im_D.of (by decide +kernel)
theorem D355_93 {g : im_g} : im_D g 355 93 (.lreturn) 94 := im_D.of (by decide +kernel)
theorem D355_94 {g : im_g} : im_D g 355 94 (.iload 4) 96 := im_D.of (by decide +kernel)
theorem D355_96 {g : im_g} : im_D g 355 96 (.ifCond .eq 7) 99 := im_D.of (by decide +kernel)
theorem D355_99 {g : im_g} : im_D g 355 99 (.lconst 0) 100 := im_D.of (by decide +kernel)
theorem D355_100 {g : im_g} : im_D g 355 100 (.goto 10) 103 := im_D.of (by decide +kernel)
theorem D355_103 {g : im_g} : im_D g 355 103 (.aload_n 0) 104 := im_D.of (by decide +kernel)
theorem D355_104 {g : im_g} : im_D g 355 104 (.getfield 173) 107 := im_D.of (by decide +kernel)
theorem D355_107 {g : im_g} : im_D g 355 107 (.iload 5) 109 := im_D.of (by decide +kernel)
theorem D355_109 {g : im_g} : im_D g 355 109 (.laload) 110 := im_D.of (by decide +kernel)
theorem D355_110 {g : im_g} : im_D g 355 110 (.lreturn) 111 := im_D.of (by decide +kernel)
theorem D355_111 {g : im_g} : im_D g 355 111 (.iload 4) 113 := im_D.of (by decide +kernel)
theorem D355_113 {g : im_g} : im_D g 355 113 (.ifCond .eq 7) 116 := im_D.of (by decide +kernel)
theorem D355_116 {g : im_g} : im_D g 355 116 (.lconst 0) 117 := im_D.of (by decide +kernel)
theorem D355_117 {g : im_g} : im_D g 355 117 (.goto 14) 120 := im_D.of (by decide +kernel)
theorem D355_120 {g : im_g} : im_D g 355 120 (.aload_n 0) 121 := im_D.of (by decide +kernel)
theorem D355_121 {g : im_g} : im_D g 355 121 (.getfield 182) 124 := im_D.of (by decide +kernel)
theorem D355_124 {g : im_g} : im_D g 355 124 (.bipush 20) 126 := im_D.of (by decide +kernel)
theorem D355_126 {g : im_g} : im_D g 355 126 (.iload_n 1) 127 := im_D.of (by decide +kernel)
theorem D355_127 {g : im_g} : im_D g 355 127 (.imul) 128 := im_D.of (by decide +kernel)
theorem D355_128 {g : im_g} : im_D g 355 128 (.iload_n 3) 129 := im_D.of (by decide +kernel)
theorem D355_129 {g : im_g} : im_D g 355 129 (.iadd) 130 := im_D.of (by decide +kernel)
theorem D355_130 {g : im_g} : im_D g 355 130 (.laload) 131 := im_D.of (by decide +kernel)
theorem D355_131 {g : im_g} : im_D g 355 131 (.lreturn) 132 := im_D.of (by decide +kernel)
theorem D356_0 {g : im_g} : im_D g 356 0 (.aload_n 0) 1 := im_D.of (by decide +kernel)
theorem D356_1 {g : im_g} : im_D g 356 1 (.getfield 412) 4 := im_D.of (by decide +kernel)
theorem D356_4 {g : im_g} : im_D g 356 4 (.ifCond .eq 10) 7 := im_D.of (by decide +kernel)
theorem D356_7 {g : im_g} : im_D g 356 7 (.aload_n 0) 8 := im_D.of (by decide +kernel)
theorem D356_8 {g : im_g} : im_D g 356 8 (.iconst 2) 9 := im_D.of (by decide +kernel)
theorem D356_9 {g : im_g} : im_D g 356 9 (.putfield 409) 12 := im_D.of (by decide +kernel)
theorem D356_12 {g : im_g} : im_D g 356 12 (.iconst 0) 13 := im_D.of (by decide +kernel)
theorem D356_13 {g : im_g} : im_D g 356 13 (.ireturn) 14 := im_D.of (by decide +kernel)
theorem D356_14 {g : im_g} : im_D g 356 14 (.aload_n 0) 15 := im_D.of (by decide +kernel)
theorem D356_15 {g : im_g} : im_D g 356 15 (.invokevirtual 734) 18 := im_D.of (by decide +kernel)
theorem D356_18 {g : im_g} : im_D g 356 18 (.aload_n 0) 19 := im_D.of (by decide +kernel)
theorem D356_19 {g : im_g} : im_D g 356 19 (.iconst 2) 20 := im_D.of (by decide +kernel)
theorem D356_20 {g : im_g} : im_D g 356 20 (.iload_n 1) 21 := im_D.of (by decide +kernel)
theorem D356_21 {g : im_g} : im_D g 356 21 (.i2l) 22 := im_D.of (by decide +kernel)
theorem D356_22 {g : im_g} : im_D g 356 22 (.lconst 0) 23 := im_D.of (by decide +kernel)
theorem D356_23 {g : im_g} : im_D g 356 23 (.ldc2_w 729) 26 := im_D.of (by decide +kernel)
theorem D356_26 {g : im_g} : im_D g 356 26 (.invokestatic 428) 29 := im_D.of (by decide +kernel)
theorem D356_29 {g : im_g} : im_D g 356 29 (.aload_n 0) 30 := im_D.of (by decide +kernel)
theorem D356_30 {g : im_g} : im_D g 356 30 (.iload_n 1) 31 := im_D.of (by decide +kernel)
theorem D356_31 {g : im_g} : im_D g 356 31 (.invokevirtual 840) 34 := im_D.of (by decide +kernel)
theorem D356_34 {g : im_g} : im_D g 356 34 (.iconst 1) 35 := im_D.of (by decide +kernel)
theorem D356_35 {g : im_g} : im_D g 356 35 (.invokevirtual 419) 38 := im_D.of (by decide +kernel)
theorem D356_38 {g : im_g} : im_D g 356 38 (.ifCond .ne 5) 41 := im_D.of (by decide +kernel)
theorem D356_41 {g : im_g} : im_D g 356 41 (.iconst 0) 42 := im_D.of (by decide +kernel)
theorem D356_42 {g : im_g} : im_D g 356 42 (.ireturn) 43 := im_D.of (by decide +kernel)
theorem D356_43 {g : im_g} : im_D g 356 43 (.aload_n 0) 44 := im_D.of (by decide +kernel)
theorem D356_44 {g : im_g} : im_D g 356 44 (.iload_n 1) 45 := im_D.of (by decide +kernel)
theorem D356_45 {g : im_g} : im_D g 356 45 (.lload_n 2) 46 := im_D.of (by decide +kernel)
theorem D356_46 {g : im_g} : im_D g 356 46 (.lload 4) 48 := im_D.of (by decide +kernel)
theorem D356_48 {g : im_g} : im_D g 356 48 (.invokevirtual 1062) 51 := im_D.of (by decide +kernel)
theorem D356_51 {g : im_g} : im_D g 356 51 (.istore 6) 53 := im_D.of (by decide +kernel)
theorem D356_53 {g : im_g} : im_D g 356 53 (.iload 6) 55 := im_D.of (by decide +kernel)
theorem D356_55 {g : im_g} : im_D g 356 55 (.ifCond .ne 18) 58 := im_D.of (by decide +kernel)
theorem D356_58 {g : im_g} : im_D g 356 58 (.aload_n 0) 59 := im_D.of (by decide +kernel)
theorem D356_59 {g : im_g} : im_D g 356 59 (.bipush 6) 61 := im_D.of (by decide +kernel)
theorem D356_61 {g : im_g} : im_D g 356 61 (.iconst 3) 62 := im_D.of (by decide +kernel)
theorem D356_62 {g : im_g} : im_D g 356 62 (.iload_n 1) 63 := im_D.of (by decide +kernel)
theorem D356_63 {g : im_g} : im_D g 356 63 (.i2l) 64 := im_D.of (by decide +kernel)
theorem D356_64 {g : im_g} : im_D g 356 64 (.lload_n 2) 65 := im_D.of (by decide +kernel)
theorem D356_65 {g : im_g} : im_D g 356 65 (.lload 4) 67 := im_D.of (by decide +kernel)
theorem D356_67 {g : im_g} : im_D g 356 67 (.iconst 1) 68 := im_D.of (by decide +kernel)
theorem D356_68 {g : im_g} : im_D g 356 68 (.invokevirtual 740) 71 := im_D.of (by decide +kernel)
theorem D356_71 {g : im_g} : im_D g 356 71 (.istore 6) 73 := im_D.of (by decide +kernel)
theorem D356_73 {g : im_g} : im_D g 356 73 (.iload 6) 75 := im_D.of (by decide +kernel)
theorem D356_75 {g : im_g} : im_D g 356 75 (.bipush (-100)) 77 := im_D.of (by decide +kernel)
theorem D356_77 {g : im_g} : im_D g 356 77 (.if_icmp .ne 10) 80 := im_D.of (by decide +kernel)
theorem D356_80 {g : im_g} : im_D g 356 80 (.aload_n 0) 81 := im_D.of (by decide +kernel)
theorem D356_81 {g : im_g} : im_D g 356 81 (.iconst 2) 82 := im_D.of (by decide +kernel)
theorem D356_82 {g : im_g} : im_D g 356 82 (.putfield 409) 85 := im_D.of (by decide +kernel)
theorem D356_85 {g : im_g} : im_D g 356 85 (.iconst 0) 86 := im_D.of (by decide +kernel)
theorem D356_86 {g : im_g} : im_D g 356 86 (.ireturn) 87 := im_D.of (by decide +kernel)
theorem D356_87 {g : im_g} : im_D g 356 87 (.iload 6) 89 := im_D.of (by decide +kernel)
theorem D356_89 {g : im_g} : im_D g 356 89 (.ifCond .ge 8) 92 := im_D.of (by decide +kernel)
theorem D356_92 {g : im_g} : im_D g 356 92 (.iload 6) 94 := im_D.of (by decide +kernel)
theorem D356_94 {g : im_g} : im_D g 356 94 (.goto 8) 97 := im_D.of (by decide +kernel)
theorem D356_97 {g : im_g} : im_D g 356 97 (.aload_n 0) 98 := im_D.of (by decide +kernel)
theorem D356_98 {g : im_g} : im_D g 356 98 (.iload_n 1) 99 := im_D.of (by decide +kernel)
theorem D356_99 {g : im_g} : im_D g 356 99 (.invokevirtual 1066) 102 := im_D.of (by decide +kernel)
theorem D356_102 {g : im_g} : im_D g 356 102 (.ireturn) 103 := im_D.of (by decide +kernel)
theorem D357_0 {g : im_g} : im_D g 357 0 (.aload_n 0) 1 := im_D.of (by decide +kernel)
theorem D357_1 {g : im_g} : im_D g 357 1 (.iload_n 1) 2 := im_D.of (by decide +kernel)
theorem D357_2 {g : im_g} : im_D g 357 2 (.invokevirtual 840) 5 := im_D.of (by decide +kernel)
theorem D357_5 {g : im_g} : im_D g 357 5 (.ifCond .ne 6) 8 := im_D.of (by decide +kernel)
theorem D357_8 {g : im_g} : im_D g 357 8 (.bipush (-101)) 10 := im_D.of (by decide +kernel)
theorem D357_10 {g : im_g} : im_D g 357 10 (.ireturn) 11 := im_D.of (by decide +kernel)
theorem D357_11 {g : im_g} : im_D g 357 11 (.aload_n 0) 12 := im_D.of (by decide +kernel)
theorem D357_12 {g : im_g} : im_D g 357 12 (.invokevirtual 1041) 15 := im_D.of (by decide +kernel)
theorem D357_15 {g : im_g} : im_D g 357 15 (.aload_n 0) 16 := im_D.of (by decide +kernel)
theorem D357_16 {g : im_g} : im_D g 357 16 (.getfield 403) 19 := im_D.of (by decide +kernel)
theorem D357_19 {g : im_g} : im_D g 357 19 (.ifCond .le 5) 22 := im_D.of (by decide +kernel)
theorem D357_22 {g : im_g} : im_D g 357 22 (.iconst (-1)) 23 := im_D.of (by decide +kernel)
theorem D357_23 {g : im_g} : im_D g 357 23 (.ireturn) 24 := im_D.of (by decide +kernel)
theorem D357_24 {g : im_g} : im_D g 357 24 (.aload_n 0) 25 := im_D.of (by decide +kernel)
theorem D357_25 {g : im_g} : im_D g 357 25 (.iload_n 1) 26 := im_D.of (by decide +kernel)
theorem D357_26 {g : im_g} : im_D g 357 26 (.invokevirtual 1044) 29 := im_D.of (by decide +kernel)
theorem D357_29 {g : im_g} : im_D g 357 29 (.aload_n 0) 30 := im_D.of (by decide +kernel)
theorem D357_30 {g : im_g} : im_D g 357 30 (.invokevirtual 1047) 33 := im_D.of (by decide +kernel)
theorem D357_33 {g : im_g} : im_D g 357 33 (.aload_n 0) 34 := im_D.of (by decide +kernel)
theorem D357_34 {g : im_g} : im_D g 357 34 (.iconst 0) 35 := im_D.of (by decide +kernel)
theorem D357_35 {g : im_g} : im_D g 357 35 (.putfield 941) 38 := im_D.of (by decide +kernel)
theorem D357_38 {g : im_g} : im_D g 357 38 (.aload_n 0) 39 := im_D.of (by decide +kernel)
theorem D357_39 {g : im_g} : im_D g 357 39 (.lload_n 2) 40 := im_D.of (by decide +kernel)
theorem D357_40 {g : im_g} : im_D g 357 40 (.lload 4) 42 := im_D.of (by decide +kernel)
theorem D357_42 {g : im_g} : im_D g 357 42 (.invokevirtual 1050) 45 := im_D.of (by decide +kernel)
theorem D357_45 {g : im_g} : im_D g 357 45 (.ireturn) 46 := im_D.of (by decide +kernel)
theorem D358_0 {g : im_g} : im_D g 358 0 (.aload_n 0) 1 := im_D.of (by decide +kernel)
theorem D358_1 {g : im_g} : im_D g 358 1 (.invokevirtual 707) 4 := im_D.of (by decide +kernel)
theorem D358_4 {g : im_g} : im_D g 358 4 (.aload_n 0) 5 := im_D.of (by decide +kernel)
theorem D358_5 {g : im_g} : im_D g 358 5 (.iconst 0) 6 := im_D.of (by decide +kernel)
theorem D358_6 {g : im_g} : im_D g 358 6 (.putfield 723) 9 := im_D.of (by decide +kernel)
theorem D358_9 {g : im_g} : im_D g 358 9 (.aload_n 0) 10 := im_D.of (by decide +kernel)
theorem D358_10 {g : im_g} : im_D g 358 10 (.invokevirtual 620) 13 := im_D.of (by decide +kernel)
theorem D358_13 {g : im_g} : im_D g 358 13 (.aload_n 0) 14 := im_D.of (by decide +kernel)
theorem D358_14 {g : im_g} : im_D g 358 14 (.getfield 403) 17 := im_D.of (by decide +kernel)
theorem D358_17 {g : im_g} : im_D g 358 17 (.ifCond .ne 118) 20 := im_D.of (by decide +kernel)
theorem D358_20 {g : im_g} : im_D g 358 20 (.aload_n 0) 21 := im_D.of (by decide +kernel)
theorem D358_21 {g : im_g} : im_D g 358 21 (.getfield 591) 24 := im_D.of (by decide +kernel)
theorem D358_24 {g : im_g} : im_D g 358 24 (.ifCond .eq 111) 27 := im_D.of (by decide +kernel)
theorem D358_27 {g : im_g} : im_D g 358 27 (.aload_n 0) 28 := im_D.of (by decide +kernel)
theorem D358_28 {g : im_g} : im_D g 358 28 (.getfield 591) 31 := im_D.of (by decide +kernel)
theorem D358_31 {g : im_g} : im_D g 358 31 (.iconst 2) 32 := im_D.of (by decide +kernel)
theorem D358_32 {g : im_g} : im_D g 358 32 (.if_icmp .ne 40) 35 := im_D.of (by decide +kernel)
theorem D358_35 {g : im_g} : im_D g 358 35 (.aload_n 0) 36 := im_D.of (by decide +kernel)
theorem D358_36 {g : im_g} : im_D g 358 36 (.getfield 597) 39 := im_D.of (by decide +kernel)
theorem D358_39 {g : im_g} : im_D g 358 39 (.ldc2_w 519) 42 := im_D.of (by decide +kernel)
theorem D358_42 {g : im_g} : im_D g 358 42 (.lcmp) 43 := im_D.of (by decide +kernel)
theorem D358_43 {g : im_g} : im_D g 358 43 (.ifCond .eq 25) 46 := im_D.of (by decide +kernel)
theorem D358_46 {g : im_g} : im_D g 358 46 (.aload_n 0) 47 := im_D.of (by decide +kernel)
theorem D358_47 {g : im_g} : im_D g 358 47 (.getfield 597) 50 := im_D.of (by decide +kernel)
theorem D358_50 {g : im_g} : im_D g 358 50 (.ldc2_w 521) 53 := im_D.of (by decide +kernel)
theorem D358_53 {g : im_g} : im_D g 358 53 (.lcmp) 54 := im_D.of (by decide +kernel)
theorem D358_54 {g : im_g} : im_D g 358 54 (.ifCond .eq 14) 57 := im_D.of (by decide +kernel)
theorem D358_57 {g : im_g} : im_D g 358 57 (.aload_n 0) 58 := im_D.of (by decide +kernel)
theorem D358_58 {g : im_g} : im_D g 358 58 (.getfield 597) 61 := im_D.of (by decide +kernel)
theorem D358_61 {g : im_g} : im_D g 358 61 (.ldc2_w 523) 64 := im_D.of (by decide +kernel)
theorem D358_64 {g : im_g} : im_D g 358 64 (.lcmp) 65 := im_D.of (by decide +kernel)
theorem D358_65 {g : im_g} : im_D g 358 65 (.ifCond .ne 7) 68 := im_D.of (by decide +kernel)
theorem D358_68 {g : im_g} : im_D g 358 68 (.iconst 1) 69 := im_D.of (by decide +kernel)
theorem D358_69 {g : im_g} : im_D g 358 69 (.goto 4) 72 := im_D.of (by decide +kernel)
theorem D358_72 {g : im_g} : im_D g 358 72 (.iconst 0) 73 := im_D.of (by decide +kernel)
theorem D358_73 {g : im_g} : im_D g 358 73 (.istore_n 1) 74 := im_D.of (by decide +kernel)
theorem D358_74 {g : im_g} : im_D g 358 74 (.iload_n 1) 75 := im_D.of (by decide +kernel)
theorem D358_75 {g : im_g} : im_D g 358 75 (.ifCond .ne 10) 78 := im_D.of (by decide +kernel)
theorem D358_78 {g : im_g} : im_D g 358 78 (.aload_n 0) 79 := im_D.of (by decide +kernel)
theorem D358_79 {g : im_g} : im_D g 358 79 (.invokevirtual 639) 82 := im_D.of (by decide +kernel)
theorem D358_82 {g : im_g} : im_D g 358 82 (.goto 50) 85 := im_D.of (by decide +kernel)
theorem D358_85 {g : im_g} : im_D g 358 85 (.aload_n 0) 86 := im_D.of (by decide +kernel)
theorem D358_86 {g : im_g} : im_D g 358 86 (.getfield 723) 89 := im_D.of (by decide +kernel)
theorem D358_89 {g : im_g} : im_D g 358 89 (.bipush 40) 91 := im_D.of (by decide +kernel)
theorem D358_91 {g : im_g} : im_D g 358 91 (.if_icmp .ne 12) 94 := im_D.of (by decide +kernel)
theorem D358_94 {g : im_g} : im_D g 358 94 (.aload_n 0) 95 := im_D.of (by decide +kernel)
theorem D358_95 {g : im_g} : im_D g 358 95 (.bipush 9) 97 := im_D.of (by decide +kernel)
theorem D358_97 {g : im_g} : im_D g 358 97 (.invokevirtual 614) 100 := im_D.of (by decide +kernel)
theorem D358_100 {g : im_g} : im_D g 358 100 (.goto 32) 103 := im_D.of (by decide +kernel)
theorem D358_103 {g : im_g} : im_D g 358 103 (.aload_n 0) 104 := im_D.of (by decide +kernel)
theorem D358_104 {g : im_g} : im_D g 358 104 (.aload_n 0) 105 := im_D.of (by decide +kernel)
theorem D358_105 {g : im_g} : im_D g 358 105 (.getfield 723) 108 := im_D.of (by decide +kernel)
theorem D358_108 {g : im_g} : im_D g 358 108 (.invokevirtual 726) 111 := im_D.of (by decide +kernel)
theorem D358_111 {g : im_g} : im_D g 358 111 (.aload_n 0) 112 := im_D.of (by decide +kernel)
theorem D358_112 {g : im_g} : im_D g 358 112 (.dup) 113 := im_D.of (by decide +kernel)
theorem D358_113 {g : im_g} : im_D g 358 113 (.getfield 723) 116 := im_D.of (by decide +kernel)
theorem D358_116 {g : im_g} : im_D g 358 116 (.iconst 1) 117 := im_D.of (by decide +kernel)
theorem D358_117 {g : im_g} : im_D g 358 117 (.iadd) 118 := im_D.of (by decide +kernel)
theorem D358_118 {g : im_g} : im_D g 358 118 (.putfield 723) 121 := im_D.of (by decide +kernel)
theorem D358_121 {g : im_g} : im_D g 358 121 (.aload_n 0) 122 := im_D.of (by decide +kernel)
theorem D358_122 {g : im_g} : im_D g 358 122 (.getfield 403) 125 := im_D.of (by decide +kernel)
theorem D358_125 {g : im_g} : im_D g 358 125 (.ifCond .ne 7) 128 := im_D.of (by decide +kernel)
theorem D358_128 {g : im_g} : im_D g 358 128 (.aload_n 0) 129 := im_D.of (by decide +kernel)
theorem D358_129 {g : im_g} : im_D g 358 129 (.invokevirtual 620) 132 := im_D.of (by decide +kernel)
theorem D358_132 {g : im_g} : im_D g 358 132 (.goto (-119)) 135 := im_D.of (by decide +kernel)
theorem D358_135 {g : im_g} : im_D g 358 135 (.return_) 136 := im_D.of (by decide +kernel)
theorem D359_0 {g : im_g} : im_D g 359 0 (.aload_n 0) 1 := im_D.of (by decide +kernel)
theorem D359_1 {g : im_g} : im_D g 359 1 (.getfield 91) 4 := im_D.of (by decide +kernel)
theorem D359_4 {g : im_g} : im_D g 359 4 (.iload_n 1) 5 := im_D.of (by decide +kernel)
theorem D359_5 {g : im_g} : im_D g 359 5 (.aload_n 0) 6 := im_D.of (by decide +kernel)
theorem D359_6 {g : im_g} : im_D g 359 6 (.getfield 597) 9 := im_D.of (by decide +kernel)
theorem D359_9 {g : im_g} : im_D g 359 9 (.ldc2_w 519) 12 := im_D.of (by decide +kernel)
theorem D359_12 {g : im_g} : im_D g 359 12 (.lcmp) 13 := im_D.of (by decide +kernel)
theorem D359_13 {g : im_g} : im_D g 359 13 (.ifCond .ne 8) 16 := im_D.of (by decide +kernel)
theorem D359_16 {g : im_g} : im_D g 359 16 (.bipush 8) 18 := im_D.of (by decide +kernel)
theorem D359_18 {g : im_g} : im_D g 359 18 (.goto 21) 21 := im_D.of (by decide +kernel)
theorem D359_21 {g : im_g} : im_D g 359 21 (.aload_n 0) 22 := im_D.of (by decide +kernel)
theorem D359_22 {g : im_g} : im_D g 359 22 (.getfield 597) 25 := im_D.of (by decide +kernel)
theorem D359_25 {g : im_g} : im_D g 359 25 (.ldc2_w 521) 28 := im_D.of (by decide +kernel)
theorem D359_28 {g : im_g} : im_D g 359 28 (.lcmp) 29 := im_D.of (by decide +kernel)
theorem D359_29 {g : im_g} : im_D g 359 29 (.ifCond .ne 8) 32 := im_D.of (by decide +kernel)
theorem D359_32 {g : im_g} : im_D g 359 32 (.bipush 9) 34 := im_D.of (by decide +kernel)
theorem D359_34 {g : im_g} : im_D g 359 34 (.goto 5) 37 := im_D.of (by decide +kernel)
theorem D359_37 {g : im_g} : im_D g 359 37 (.bipush 10) 39 := im_D.of (by decide +kernel)
theorem D359_39 {g : im_g} : im_D g 359 39 (.iastore) 40 := im_D.of (by decide +kernel)
theorem D359_40 {g : im_g} : im_D g 359 40 (.aload_n 0) 41 := im_D.of (by decide +kernel)
theorem D359_41 {g : im_g} : im_D g 359 41 (.invokevirtual 649) 44 := im_D.of (by decide +kernel)
theorem D359_44 {g : im_g} : im_D g 359 44 (.aload_n 0) 45 := im_D.of (by decide +kernel)
theorem D359_45 {g : im_g} : im_D g 359 45 (.getfield 91) 48 := im_D.of (by decide +kernel)
theorem D359_48 {g : im_g} : im_D g 359 48 (.iload_n 1) 49 := im_D.of (by decide +kernel)
theorem D359_49 {g : im_g} : im_D g 359 49 (.iaload) 50 := im_D.of (by decide +kernel)
theorem D359_50 {g : im_g} : im_D g 359 50 (.bipush 10) 52 := im_D.of (by decide +kernel)
theorem D359_52 {g : im_g} : im_D g 359 52 (.if_icmp .ne 4) 55 := im_D.of (by decide +kernel)
theorem D359_55 {g : im_g} : im_D g 359 55 (.return_) 56 := im_D.of (by decide +kernel)
theorem D359_56 {g : im_g} : im_D g 359 56 (.aload_n 0) 57 := im_D.of (by decide +kernel)
theorem D359_57 {g : im_g} : im_D g 359 57 (.getfield 94) 60 := im_D.of (by decide +kernel)
theorem D359_60 {g : im_g} : im_D g 359 60 (.iload_n 1) 61 := im_D.of (by decide +kernel)
theorem D359_61 {g : im_g} : im_D g 359 61 (.aload_n 0) 62 := im_D.of (by decide +kernel)
theorem D359_62 {g : im_g} : im_D g 359 62 (.invokevirtual 719) 65 := im_D.of (by decide +kernel)
theorem D359_65 {g : im_g} : im_D g 359 65 (.lastore) 66 := im_D.of (by decide +kernel)
theorem D359_66 {g : im_g} : im_D g 359 66 (.aload_n 0) 67 := im_D.of (by decide +kernel)
theorem D359_67 {g : im_g} : im_D g 359 67 (.getfield 97) 70 := im_D.of (by decide +kernel)
theorem D359_70 {g : im_g} : im_D g 359 70 (.iload_n 1) 71 := im_D.of (by decide +kernel)
theorem D359_71 {g : im_g} : im_D g 359 71 (.aload_n 0) 72 := im_D.of (by decide +kernel)
theorem D359_72 {g : im_g} : im_D g 359 72 (.invokevirtual 719) 75 := im_D.of (by decide +kernel)
theorem D359_75 {g : im_g} : im_D g 359 75 (.lastore) 76 := im_D.of (by decide +kernel)
theorem D359_76 {g : im_g} : im_D g 359 76 (.aload_n 0) 77 := im_D.of (by decide +kernel)
theorem D359_77 {g : im_g} : im_D g 359 77 (.getfield 100) 80 := im_D.of (by decide +kernel)
theorem D359_80 {g : im_g} : im_D g 359 80 (.iload_n 1) 81 := im_D.of (by decide +kernel)
theorem D359_81 {g : im_g} : im_D g 359 81 (.aload_n 0) 82 := im_D.of (by decide +kernel)
theorem D359_82 {g : im_g} : im_D g 359 82 (.getfield 91) 85 := im_D.of (by decide +kernel)
theorem D359_85 {g : im_g} : im_D g 359 85 (.iload_n 1) 86 := im_D.of (by decide +kernel)
theorem D359_86 {g : im_g} : im_D g 359 86 (.iaload) 87 := im_D.of (by decide +kernel)
theorem D359_87 {g : im_g} : im_D g 359 87 (.bipush 8) 89 := im_D.of (by decide +kernel)
theorem D359_89 {g : im_g} : im_D g 359 89 (.if_icmp .ne 10) 92 := im_D.of (by decide +kernel)
theorem D359_92 {g : im_g} : im_D g 359 92 (.aload_n 0) 93 := im_D.of (by decide +kernel)
theorem D359_93 {g : im_g} : im_D g 359 93 (.invokevirtual 719) 96 := im_D.of (by decide +kernel)
theorem D359_96 {g : im_g} : im_D g 359 96 (.goto 4) 99 := im_D.of (by decide +kernel)
theorem D359_99 {g : im_g} : im_D g 359 99 (.lconst 0) 100 := im_D.of (by decide +kernel)
theorem D359_100 {g : im_g} : im_D g 359 100 (.lastore) 101 := im_D.of (by decide +kernel)
theorem D359_101 {g : im_g} : im_D g 359 101 (.aload_n 0) 102 := im_D.of (by decide +kernel)
theorem D359_102 {g : im_g} : im_D g 359 102 (.getfield 403) 105 := im_D.of (by decide +kernel)
theorem D359_105 {g : im_g} : im_D g 359 105 (.ifCond .le 4) 108 := im_D.of (by decide +kernel)
theorem D359_108 {g : im_g} : im_D g 359 108 (.return_) 109 := im_D.of (by decide +kernel)
theorem D359_109 {g : im_g} : im_D g 359 109 (.aload_n 0) 110 := im_D.of (by decide +kernel)
theorem D359_110 {g : im_g} : im_D g 359 110 (.invokevirtual 620) 113 := im_D.of (by decide +kernel)
theorem D359_113 {g : im_g} : im_D g 359 113 (.aload_n 0) 114 := im_D.of (by decide +kernel)
theorem D359_114 {g : im_g} : im_D g 359 114 (.getfield 591) 117 := im_D.of (by decide +kernel)
theorem D359_117 {g : im_g} : im_D g 359 117 (.iconst 1) 118 := im_D.of (by decide +kernel)
theorem D359_118 {g : im_g} : im_D g 359 118 (.if_icmp .ne 20) 121 := im_D.of (by decide +kernel)
theorem D359_121 {g : im_g} : im_D g 359 121 (.aload_n 0) 122 := im_D.of (by decide +kernel)
theorem D359_122 {g : im_g} : im_D g 359 122 (.getfield 103) 125 := im_D.of (by decide +kernel)
theorem D359_125 {g : im_g} : im_D g 359 125 (.iload_n 1) 126 := im_D.of (by decide +kernel)
theorem D359_126 {g : im_g} : im_D g 359 126 (.aload_n 0) 127 := im_D.of (by decide +kernel)
theorem D359_127 {g : im_g} : im_D g 359 127 (.invokevirtual 659) 130 := im_D.of (by decide +kernel)
theorem D359_130 {g : im_g} : im_D g 359 130 (.iastore) 131 := im_D.of (by decide +kernel)
theorem D359_131 {g : im_g} : im_D g 359 131 (.aload_n 0) 132 := im_D.of (by decide +kernel)
theorem D359_132 {g : im_g} : im_D g 359 132 (.invokevirtual 649) 135 := im_D.of (by decide +kernel)
theorem D359_135 {g : im_g} : im_D g 359 135 (.goto 7) 138 := im_D.of (by decide +kernel)
theorem D359_138 {g : im_g} : im_D g 359 138 (.aload_n 0) 139 := im_D.of (by decide +kernel)
theorem D359_139 {g : im_g} : im_D g 359 139 (.invokevirtual 639) 142 := im_D.of (by decide +kernel)
theorem D359_142 {g : im_g} : im_D g 359 142 (.return_) 143 := im_D.of (by decide +kernel)
theorem D360_0 {g : im_g} : im_D g 360 0 (.lconst 0) 1 := im_D.of (by decide +kernel)
theorem D360_1 {g : im_g} : im_D g 360 1 (.lstore_n 1) 2 := im_D.of (by decide +kernel)
theorem D360_2 {g : im_g} : im_D g 360 2 (.aload_n 0) 3 := im_D.of (by decide +kernel)
theorem D360_3 {g : im_g} : im_D g 360 3 (.getfield 403) 6 := im_D.of (by decide +kernel)
theorem D360_6 {g : im_g} : im_D g 360 6 (.ifCond .ne 31) 9 := im_D.of (by decide +kernel)
theorem D360_9 {g : im_g} : im_D g 360 9 (.aload_n 0) 10 := im_D.of (by decide +kernel)
theorem D360_10 {g : im_g} : im_D g 360 10 (.invokevirtual 620) 13 := im_D.of (by decide +kernel)
theorem D360_13 {g : im_g} : im_D g 360 13 (.aload_n 0) 14 := im_D.of (by decide +kernel)
theorem D360_14 {g : im_g} : im_D g 360 14 (.getfield 591) 17 := im_D.of (by decide +kernel)
theorem D360_17 {g : im_g} : im_D g 360 17 (.iconst 3) 18 := im_D.of (by decide +kernel)
theorem D360_18 {g : im_g} : im_D g 360 18 (.if_icmp .ne 15) 21 := im_D.of (by decide +kernel)
theorem D360_21 {g : im_g} : im_D g 360 21 (.aload_n 0) 22 := im_D.of (by decide +kernel)
theorem D360_22 {g : im_g} : im_D g 360 22 (.getfield 597) 25 := im_D.of (by decide +kernel)
theorem D360_25 {g : im_g} : im_D g 360 25 (.lstore_n 1) 26 := im_D.of (by decide +kernel)
theorem D360_26 {g : im_g} : im_D g 360 26 (.aload_n 0) 27 := im_D.of (by decide +kernel)
theorem D360_27 {g : im_g} : im_D g 360 27 (.invokevirtual 649) 30 := im_D.of (by decide +kernel)
theorem D360_30 {g : im_g} : im_D g 360 30 (.goto 7) 33 := im_D.of (by decide +kernel)
theorem D360_33 {g : im_g} : im_D g 360 33 (.aload_n 0) 34 := im_D.of (by decide +kernel)
theorem D360_34 {g : im_g} : im_D g 360 34 (.invokevirtual 639) 37 := im_D.of (by decide +kernel)
theorem D360_37 {g : im_g} : im_D g 360 37 (.lload_n 1) 38 := im_D.of (by decide +kernel)
theorem D360_38 {g : im_g} : im_D g 360 38 (.lreturn) 39 := im_D.of (by decide +kernel)
set_option maxRecDepth 20000 in
set_option maxHeartbeats 4000000 in
theorem b_load_0 {g : im_g} {d : Nat} {e : im_E} {M : im_M} {K : im_K} {p2 : Int} {p1 n1 : Nat} (hs1 : (im_sh0 ++ e)[p1]? = some (1, n1, [])) (hn1 : n1 ≤ 2147483647) (hP : (0 ≤ ((302 * p2) + 1) ∧ ((302 * p2) + 1) < n1) ∧ im_T g d 345 19 [some (.ref 6952), some (.ref p1), some (vI p2), some (vI (M 6952 7)), some (vI (M p1 ((302 * p2) + 1))), some (vI 0)] [] e M K) : im_T g d 345 0 [some (.ref 6952), some (.ref p1), some (vI p2), none, none, none] [] e M K := by
  refine im_ld (q := 1) (i := 0) D345_0 rfl rfl rfl ?_
  refine im_rng (j := 7) sf_6952 (by decide) (by decide) (fun hr1 => ?_)
  refine im_gfI (q := 4) D345_1 (im_fl cn_345 fl_12_449) sf_6952 rfl rfl tI_12_7 rfl ?_
  refine im_st1 (q := 5) (i := 3) (L' := [some (.ref 6952), some (.ref p1), some (vI p2), some (vI (M 6952 7)), none, none]) D345_4 (Or.inl ⟨_, rfl, rfl⟩) (Nat.le_of_ble_eq_true rfl) rfl ?_
  refine im_ld (q := 6) (i := 1) D345_5 rfl rfl rfl ?_
  refine im_sipush (q := 9) D345_6 rfl ?_
  refine im_ld (q := 10) (i := 2) D345_9 rfl rfl rfl ?_
  refine im_imul (q := 11) D345_10 ?_
  refine im_iconst (q := 12) D345_11 ?_
  refine im_iadd (q := 13) D345_12 ?_
  obtain ⟨hg2, hP⟩ := hP
  refine im_rng (j := ((302 * p2) + 1)) hs1 hg2.1 hg2.2 (fun hr3 => ?_)
  refine im_iald (q := 14) D345_13 hs1 hg2.1 hg2.2 hn1 rfl ?_
  refine im_st1 (q := 16) (i := 4) (L' := [some (.ref 6952), some (.ref p1), some (vI p2), some (vI (M 6952 7)), some (vI (M p1 ((302 * p2) + 1))), none]) D345_14 (Or.inr rfl) (Nat.le_of_ble_eq_true rfl) rfl ?_
  refine im_iconst (q := 17) D345_16 ?_
  refine im_st1 (q := 19) (i := 5) (L' := [some (.ref 6952), some (.ref p1), some (vI p2), some (vI (M 6952 7)), some (vI (M p1 ((302 * p2) + 1))), some (vI 0)]) D345_17 (Or.inr rfl) (Nat.le_of_ble_eq_true rfl) rfl ?_
  exact hP.wk ⟨rfl, rfl, rfl, rfl, rfl, rfl, trivial⟩
set_option maxRecDepth 20000 in
set_option maxHeartbeats 4000000 in
theorem b_load_19 {g : im_g} {d : Nat} {e : im_E} {M : im_M} {K : im_K} {p2 p3 p4 p5 : Int} {p1 n1 : Nat} (hs1 : (im_sh0 ++ e)[p1]? = some (1, n1, [])) (hn1 : n1 ≤ 2147483647) (hP : (im_i32 p5) ∧ (im_i32 (p4 + 2)) ∧ (((p4 + 2) ≤ p5 → (im_i32 ((p3 + p4) + 2)) ∧ K (.inl (some (vI p3))) e (im_u M 6952 7 ((p3 + p4) + 2))) ∧ (p5 < (p4 + 2) → (0 ≤ ((302 * p2) + p5) ∧ ((302 * p2) + p5) < n1) ∧ (0 ≤ (p3 + p5) ∧ (p3 + p5) < 1100000) ∧ im_T g d 345 19 [some (.ref 6952), some (.ref p1), some (vI p2), some (vI p3), some (vI p4), some (vI (p5 + 1))] [] e (im_u M 6955 (p3 + p5) (M p1 ((302 * p2) + p5))) K))) : im_T g d 345 19 [some (.ref 6952), some (.ref p1), some (vI p2), some (vI p3), some (vI p4), some (vI p5)] [] e M K := by
  refine im_ld (q := 21) (i := 5) D345_19 rfl rfl rfl ?_
  refine im_ld (q := 23) (i := 4) D345_21 rfl rfl rfl ?_
  refine im_iconst (q := 24) D345_23 ?_
  refine im_iadd (q := 25) D345_24 ?_
  obtain ⟨hg1, hP⟩ := hP
  obtain ⟨hg2, hP⟩ := hP
  refine im_icmp (q := 28) (t := 53) D345_25 rfl hg1 hg2 (fun hc3 => ?_) (fun hc3 => ?_)
  · replace hP := hP.1 hc3
    refine im_ld (q := 54) (i := 0) D345_53 rfl rfl rfl ?_
    refine im_ld (q := 55) (i := 3) D345_54 rfl rfl rfl ?_
    refine im_ld (q := 57) (i := 4) D345_55 rfl rfl rfl ?_
    refine im_iadd (q := 58) D345_57 ?_
    refine im_iconst (q := 59) D345_58 ?_
    refine im_iadd (q := 60) D345_59 ?_
    obtain ⟨hg6, hP⟩ := hP
    refine im_pfI (q := 63) D345_60 (im_fl cn_345 fl_12_449) sf_6952 rfl rfl ti_12_7 hg6 ?_
    refine im_ld (q := 64) (i := 3) D345_63 rfl rfl rfl ?_
    exact im_iret (q := 65) D345_64 rfl hP
  · replace hP := hP.2 (Int.not_le.mp hc3)
    refine im_ld (q := 29) (i := 0) D345_28 rfl rfl rfl ?_
    refine im_gfR (q := 32) (b := 6955) D345_29 (im_fl cn_345 fl_12_17) sf_6952 rfl rfl tR_12_5 rf_6952_5 ?_
    refine im_ld (q := 33) (i := 3) D345_32 rfl rfl rfl ?_
    refine im_ld (q := 35) (i := 5) D345_33 rfl rfl rfl ?_
    refine im_iadd (q := 36) D345_35 ?_
    refine im_ld (q := 37) (i := 1) D345_36 rfl rfl rfl ?_
    refine im_sipush (q := 40) D345_37 rfl ?_
    refine im_ld (q := 41) (i := 2) D345_40 rfl rfl rfl ?_
    refine im_imul (q := 42) D345_41 ?_
    refine im_ld (q := 44) (i := 5) D345_42 rfl rfl rfl ?_
    refine im_iadd (q := 45) D345_44 ?_
    obtain ⟨hg4, hP⟩ := hP
    refine im_rng (j := ((302 * p2) + p5)) hs1 hg4.1 hg4.2 (fun hr5 => ?_)
    refine im_iald (q := 46) D345_45 hs1 hg4.1 hg4.2 hn1 rfl ?_
    obtain ⟨hg7, hP⟩ := hP
    refine im_iast (q := 47) D345_46 sf_6955 hg7.1 hg7.2 (by decide) hr5 ?_
    refine im_iinc (q := 50) (i := 5) (L' := [some (.ref 6952), some (.ref p1), some (vI p2), some (vI p3), some (vI p4), some (vI (p5 + 1))]) D345_47 rfl (Nat.le_of_ble_eq_true rfl) rfl ?_
    refine im_goto (q := 53) (t := 19) D345_50 rfl ?_
    exact hP.wk ⟨rfl, rfl, rfl, rfl, rfl, rfl, trivial⟩
set_option maxRecDepth 20000 in
set_option maxHeartbeats 4000000 in
theorem b_doBegin_0 {g : im_g} {d : Nat} {e : im_E} {M : im_M} {K : im_K} {p1 p2 p3 : Int} (hP : (0 ≤ p1 ∧ p1 < 16) ∧ (0 ≤ p2 ∧ p2 < 16) ∧ (im_i64 p3) ∧ im_T g d 346 60 [some (.ref 6952), some (vI p1), none, none, none, some (vI 0), none] [] e (im_u (im_u (im_u (im_u (im_u (im_u (im_u M 6994 p1 1) 6995 p1 (M 6985 p2)) 6996 p1 p3) 6997 p1 0) 7001 p1 0) 7005 p1 0) 7008 p1 (M 6952 62)) K) : im_T g d 346 0 [some (.ref 6952), some (vI p1), some (vI p2), some (vL p3), none, none, none] [] e M K := by
  refine im_ld (q := 1) (i := 0) D346_0 rfl rfl rfl ?_
  refine im_gfR (q := 4) (b := 6994) D346_1 (im_fl cn_346 fl_12_136) sf_6952 rfl rfl tR_12_66 rf_6952_66 ?_
  refine im_ld (q := 5) (i := 1) D346_4 rfl rfl rfl ?_
  refine im_iconst (q := 6) D346_5 ?_
  obtain ⟨hg1, hP⟩ := hP
  refine im_zast (q := 7) D346_6 sf_6994 hg1.1 hg1.2 (by decide) (by decide) ?_
  refine im_ld (q := 8) (i := 0) D346_7 rfl rfl rfl ?_
  refine im_gfR (q := 11) (b := 6995) D346_8 (im_fl cn_346 fl_12_139) sf_6952 rfl rfl tR_12_67 rf_6952_67 ?_
  refine im_ld (q := 12) (i := 1) D346_11 rfl rfl rfl ?_
  refine im_ld (q := 13) (i := 0) D346_12 rfl rfl rfl ?_
  refine im_gfR (q := 16) (b := 6985) D346_13 (im_fl cn_346 fl_12_109) sf_6952 rfl rfl tR_12_53 rf_6952_53 ?_
  refine im_ld (q := 17) (i := 2) D346_16 rfl rfl rfl ?_
  obtain ⟨hg2, hP⟩ := hP
  refine im_rng (j := p2) sf_6985 hg2.1 hg2.2 (fun hr3 => ?_)
  refine im_iald (q := 18) D346_17 sf_6985 hg2.1 hg2.2 (by decide) (im_rdn _ _ _ _ (by decide)) ?_
  refine im_iast (q := 19) D346_18 sf_6995 hg1.1 hg1.2 (by decide) (im_rgc hr3 (im_rdn _ _ _ _ (by decide))) ?_
  refine im_ld (q := 20) (i := 0) D346_19 rfl rfl rfl ?_
  refine im_gfR (q := 23) (b := 6996) D346_20 (im_fl cn_346 fl_12_142) sf_6952 rfl rfl tR_12_68 rf_6952_68 ?_
  refine im_ld (q := 24) (i := 1) D346_23 rfl rfl rfl ?_
  refine im_ld (q := 25) (i := 3) D346_24 rfl rfl rfl ?_
  obtain ⟨hg4, hP⟩ := hP
  refine im_last (q := 26) D346_25 sf_6996 hg1.1 hg1.2 (by decide) hg4 ?_
  refine im_ld (q := 27) (i := 0) D346_26 rfl rfl rfl ?_
  refine im_gfR (q := 30) (b := 6997) D346_27 (im_fl cn_346 fl_12_145) sf_6952 rfl rfl tR_12_69 rf_6952_69 ?_
  refine im_ld (q := 31) (i := 1) D346_30 rfl rfl rfl ?_
  refine im_iconst (q := 32) D346_31 ?_
  refine im_iast (q := 33) D346_32 sf_6997 hg1.1 hg1.2 (by decide) (by decide) ?_
  refine im_ld (q := 34) (i := 0) D346_33 rfl rfl rfl ?_
  refine im_gfR (q := 37) (b := 7001) D346_34 (im_fl cn_346 fl_12_158) sf_6952 rfl rfl tR_12_73 rf_6952_73 ?_
  refine im_ld (q := 38) (i := 1) D346_37 rfl rfl rfl ?_
  refine im_iconst (q := 39) D346_38 ?_
  refine im_iast (q := 40) D346_39 sf_7001 hg1.1 hg1.2 (by decide) (by decide) ?_
  refine im_ld (q := 41) (i := 0) D346_40 rfl rfl rfl ?_
  refine im_gfR (q := 44) (b := 7005) D346_41 (im_fl cn_346 fl_12_170) sf_6952 rfl rfl tR_12_77 rf_6952_77 ?_
  refine im_ld (q := 45) (i := 1) D346_44 rfl rfl rfl ?_
  refine im_iconst (q := 46) D346_45 ?_
  refine im_iast (q := 47) D346_46 sf_7005 hg1.1 hg1.2 (by decide) (by decide) ?_
  refine im_ld (q := 48) (i := 0) D346_47 rfl rfl rfl ?_
  refine im_gfR (q := 51) (b := 7008) D346_48 (im_fl cn_346 fl_12_179) sf_6952 rfl rfl tR_12_80 rf_6952_80 ?_
  refine im_ld (q := 52) (i := 1) D346_51 rfl rfl rfl ?_
  refine im_ld (q := 53) (i := 0) D346_52 rfl rfl rfl ?_
  refine im_rng (j := 62) sf_6952 (by decide) (by decide) (fun hr5 => ?_)
  refine im_gfI (q := 56) D346_53 (im_fl cn_346 fl_12_794) sf_6952 rfl rfl tI_12_62 ((im_rdn _ _ _ _ (by decide)).trans ((im_rdn _ _ _ _ (by decide)).trans ((im_rdn _ _ _ _ (by decide)).trans ((im_rdn _ _ _ _ (by decide)).trans ((im_rdn _ _ _ _ (by decide)).trans (im_rdn _ _ _ _ (by decide))))))) ?_
  refine im_iast (q := 57) D346_56 sf_7008 hg1.1 hg1.2 (by decide) (im_rgc hr5 ((im_rdn _ _ _ _ (by decide)).trans ((im_rdn _ _ _ _ (by decide)).trans ((im_rdn _ _ _ _ (by decide)).trans ((im_rdn _ _ _ _ (by decide)).trans ((im_rdn _ _ _ _ (by decide)).trans (im_rdn _ _ _ _ (by decide)))))))) ?_
  refine im_iconst (q := 58) D346_57 ?_
  refine im_st1 (q := 60) (i := 5) (L' := [some (.ref 6952), some (vI p1), some (vI p2), some (vL p3), none, some (vI 0), none]) D346_58 (Or.inr rfl) (Nat.le_of_ble_eq_true rfl) rfl ?_
  exact hP.wk ⟨rfl, rfl, rfl, trivial⟩
set_option maxRecDepth 20000 in
set_option maxHeartbeats 4000000 in
theorem b_doBegin_60 {g : im_g} {d : Nat} {e : im_E} {M : im_M} {K : im_K} {p1 p5 : Int} (hP : (im_i32 p5) ∧ (((M 6952 62) ≤ p5 → K (.inl none) e M) ∧ (p5 < (M 6952 62) → (0 ≤ p5 ∧ p5 < 21) ∧ (0 ≤ ((20 * p1) + p5) ∧ ((20 * p1) + p5) < 320) ∧ im_T g d 346 91 [some (.ref 6952), some (vI p1), none, none, none, some (vI p5), some (vI 0)] [] e (im_u M 7009 ((20 * p1) + p5) (M 6992 p5)) K))) : im_T g d 346 60 [some (.ref 6952), some (vI p1), none, none, none, some (vI p5), none] [] e M K := by
  refine im_ld (q := 62) (i := 5) D346_60 rfl rfl rfl ?_
  refine im_ld (q := 63) (i := 0) D346_62 rfl rfl rfl ?_
  refine im_rng (j := 62) sf_6952 (by decide) (by decide) (fun hr1 => ?_)
  refine im_gfI (q := 66) D346_63 (im_fl cn_346 fl_12_794) sf_6952 rfl rfl tI_12_62 rfl ?_
  obtain ⟨hg2, hP⟩ := hP
  refine im_icmp (q := 69) (t := 144) D346_66 rfl hg2 hr1 (fun hc3 => ?_) (fun hc3 => ?_)
  · replace hP := hP.1 hc3
    exact im_vret (q := 145) D346_144 rfl hP
  · replace hP := hP.2 (Int.not_le.mp hc3)
    refine im_ld (q := 70) (i := 0) D346_69 rfl rfl rfl ?_
    refine im_gfR (q := 73) (b := 7009) D346_70 (im_fl cn_346 fl_12_182) sf_6952 rfl rfl tR_12_81 rf_6952_81 ?_
    refine im_bipush (q := 75) D346_73 rfl ?_
    refine im_ld (q := 76) (i := 1) D346_75 rfl rfl rfl ?_
    refine im_imul (q := 77) D346_76 ?_
    refine im_ld (q := 79) (i := 5) D346_77 rfl rfl rfl ?_
    refine im_iadd (q := 80) D346_79 ?_
    refine im_ld (q := 81) (i := 0) D346_80 rfl rfl rfl ?_
    refine im_gfR (q := 84) (b := 6992) D346_81 (im_fl cn_346 fl_12_130) sf_6952 rfl rfl tR_12_63 rf_6952_63 ?_
    refine im_ld (q := 86) (i := 5) D346_84 rfl rfl rfl ?_
    obtain ⟨hg4, hP⟩ := hP
    refine im_rng (j := p5) sf_6992 hg4.1 hg4.2 (fun hr5 => ?_)
    refine im_lald (q := 87) D346_86 sf_6992 hg4.1 hg4.2 (by decide) rfl ?_
    obtain ⟨hg6, hP⟩ := hP
    refine im_last (q := 88) D346_87 sf_7009 hg6.1 hg6.2 (by decide) hr5 ?_
    refine im_iconst (q := 89) D346_88 ?_
    refine im_st1 (q := 91) (i := 6) (L' := [some (.ref 6952), some (vI p1), none, none, none, some (vI p5), some (vI 0)]) D346_89 (Or.inr rfl) (Nat.le_of_ble_eq_true rfl) rfl ?_
    exact hP.wk ⟨rfl, rfl, rfl, rfl, trivial⟩
set_option maxRecDepth 20000 in
set_option maxHeartbeats 4000000 in
theorem b_doBegin_91 {g : im_g} {d : Nat} {e : im_E} {M : im_M} {K : im_K} {p1 p5 p6 : Int} (hP : (im_i32 p6) ∧ ((302 ≤ p6 → im_T g d 346 60 [some (.ref 6952), some (vI p1), none, none, none, some (vI (p5 + 1)), none] [] e M K) ∧ (p6 < 302 → (0 ≤ ((302 * p5) + p6) ∧ ((302 * p5) + p6) < 6342) ∧ (0 ≤ ((302 * ((20 * p1) + p5)) + p6) ∧ ((302 * ((20 * p1) + p5)) + p6) < 96640) ∧ im_T g d 346 91 [some (.ref 6952), some (vI p1), none, none, none, some (vI p5), some (vI (p6 + 1))] [] e (im_u M 7010 ((302 * ((20 * p1) + p5)) + p6) (M 6993 ((302 * p5) + p6))) K))) : im_T g d 346 91 [some (.ref 6952), some (vI p1), none, none, none, some (vI p5), some (vI p6)] [] e M K := by
  refine im_ld (q := 93) (i := 6) D346_91 rfl rfl rfl ?_
  refine im_sipush (q := 96) D346_93 rfl ?_
  obtain ⟨hg1, hP⟩ := hP
  refine im_icmp (q := 99) (t := 138) D346_96 rfl hg1 (by decide) (fun hc2 => ?_) (fun hc2 => ?_)
  · replace hP := hP.1 hc2
    refine im_iinc (q := 141) (i := 5) (L' := [some (.ref 6952), some (vI p1), none, none, none, some (vI (p5 + 1)), some (vI p6)]) D346_138 rfl (Nat.le_of_ble_eq_true rfl) rfl ?_
    refine im_goto (q := 144) (t := 60) D346_141 rfl ?_
    exact hP.wk ⟨rfl, rfl, rfl, trivial⟩
  · replace hP := hP.2 (Int.not_le.mp hc2)
    refine im_ld (q := 100) (i := 0) D346_99 rfl rfl rfl ?_
    refine im_gfR (q := 103) (b := 7010) D346_100 (im_fl cn_346 fl_12_186) sf_6952 rfl rfl tR_12_82 rf_6952_82 ?_
    refine im_sipush (q := 106) D346_103 rfl ?_
    refine im_bipush (q := 108) D346_106 rfl ?_
    refine im_ld (q := 109) (i := 1) D346_108 rfl rfl rfl ?_
    refine im_imul (q := 110) D346_109 ?_
    refine im_ld (q := 112) (i := 5) D346_110 rfl rfl rfl ?_
    refine im_iadd (q := 113) D346_112 ?_
    refine im_imul (q := 114) D346_113 ?_
    refine im_ld (q := 116) (i := 6) D346_114 rfl rfl rfl ?_
    refine im_iadd (q := 117) D346_116 ?_
    refine im_ld (q := 118) (i := 0) D346_117 rfl rfl rfl ?_
    refine im_gfR (q := 121) (b := 6993) D346_118 (im_fl cn_346 fl_12_133) sf_6952 rfl rfl tR_12_64 rf_6952_64 ?_
    refine im_sipush (q := 124) D346_121 rfl ?_
    refine im_ld (q := 126) (i := 5) D346_124 rfl rfl rfl ?_
    refine im_imul (q := 127) D346_126 ?_
    refine im_ld (q := 129) (i := 6) D346_127 rfl rfl rfl ?_
    refine im_iadd (q := 130) D346_129 ?_
    obtain ⟨hg3, hP⟩ := hP
    refine im_rng (j := ((302 * p5) + p6)) sf_6993 hg3.1 hg3.2 (fun hr4 => ?_)
    refine im_iald (q := 131) D346_130 sf_6993 hg3.1 hg3.2 (by decide) rfl ?_
    obtain ⟨hg5, hP⟩ := hP
    refine im_iast (q := 132) D346_131 sf_7010 hg5.1 hg5.2 (by decide) hr4 ?_
    refine im_iinc (q := 135) (i := 6) (L' := [some (.ref 6952), some (vI p1), none, none, none, some (vI p5), some (vI (p6 + 1))]) D346_132 rfl (Nat.le_of_ble_eq_true rfl) rfl ?_
    refine im_goto (q := 138) (t := 91) D346_135 rfl ?_
    exact hP.wk ⟨rfl, rfl, rfl, rfl, trivial⟩
set_option maxRecDepth 20000 in
set_option maxHeartbeats 4000000 in
theorem b_end_0 {g : im_g} {d : Nat} {e : im_E} {M : im_M} {K : im_K} {p1 : Int} (hd : 1 ≤ d) (hP : (im_i32 p1) ∧ im_T g (d - 1) 268 0 [some (vL p1), none, some (vL 0), none, some (vL 15), none] [] e M (im_ri (fun x3 e_ M2 => e = e_ ∧ im_T g (d - 1) 348 0 [some (.ref 6952), some (vI p1)] [] e M2 (im_ri (fun x5 e_ M4 => e = e_ ∧ im_T g (d - 1) 264 0 [some (.ref 6952), some (vI 2), some (vI x3), some (vI x5), some (vI 1)] [] e M4 (im_ri (fun x7 e_ M6 => e = e_ ∧ (im_i32 x7) ∧ ((¬ x7 = 0 → im_T g (d - 1) 307 0 [some (.ref 6952), some (vI 4), some (vI 1), some (vL p1), none, some (vL 0), none, some (vL 0), none, some (vI 0), none, none, none, none] [] e M6 (im_ri (fun x11 e_ M10 => e = e_ ∧ (im_i32 x11) ∧ ((((¬ x11 = (-100) → (0 ≤ p1 ∧ p1 < 16) ∧ ((¬ (M10 6994 p1) = 0 → ((x11 < 0 → K (.inl (some (vI x11))) e (im_u M10 6994 p1 1)))))) ∧ (x11 = (-100) → K (.inl (some (vI 0))) e (im_u M10 6952 0 2)))) ∧ ((((¬ x11 = (-100)) ∧ ((M10 6994 p1) = 0)) ∨ ((¬ x11 = (-100)) ∧ (¬ (M10 6994 p1) = 0) ∧ (0 ≤ x11))) → (0 ≤ p1 ∧ p1 < 16) ∧ K (.inl (some (vI x11))) e (im_u M10 6994 p1 0)))))) ∧ (x7 = 0 → K (.inl (some (vI 0))) e M6))))))))) : im_T g d 347 0 [some (.ref 6952), some (vI p1), none] [] e M K := by
  refine im_ld (q := 1) (i := 0) D347_0 rfl rfl rfl ?_
  refine im_iconst (q := 2) D347_1 ?_
  refine im_ld (q := 3) (i := 1) D347_2 rfl rfl rfl ?_
  obtain ⟨hg1, hP⟩ := hP
  refine im_i2l (q := 4) D347_3 hg1 ?_
  refine im_lconst (q := 5) (z := 0) D347_4 rfl ?_
  refine im_ldc2 (q := 8) (n := 15) D347_5 rfl ?_
  refine im_callS (q := 11) (kd := 0) (y := 268) (n := 3) (z := 12) (vs := [vL p1, vL 0, vL 15]) (r := [vI 2, .ref 6952]) (L2 := [some (vL p1), none, some (vL 0), none, some (vL 15), none]) D347_8 rfl (im_cal cn_347 cl_12_428) (Or.inl rfl) rfl rfl rfl rfl rfl hd ⟨rfl, rfl, rfl, trivial⟩ ?_
  refine hP.mono ?_
  rintro _ e25 M2 ⟨x3, rfl, rfl, hP⟩
  refine im_bkS ?_
  refine im_ld (q := 12) (i := 0) D347_11 rfl rfl rfl ?_
  refine im_ld (q := 13) (i := 1) D347_12 rfl rfl rfl ?_
  refine im_callV (q := 16) (kd := 1) (y := 348) (n := 1) (ci := 12) (a := 6952) (vs := [.ref 6952, vI p1]) (r := [vI x3, vI 2, .ref 6952]) (L2 := [some (.ref 6952), some (vI p1)]) D347_13 (im_cal cn_347 cl_12_843) (Or.inl rfl) rfl sf_6952 rfl rfl rfl rfl hd ⟨rfl, rfl, trivial⟩ ?_
  refine hP.mono ?_
  rintro _ e24 M4 ⟨x5, rfl, rfl, hP⟩
  refine im_bkS ?_
  refine im_iconst (q := 17) D347_16 ?_
  refine im_callV (q := 20) (kd := 1) (y := 264) (n := 4) (ci := 12) (a := 6952) (vs := [.ref 6952, vI 2, vI x3, vI x5, vI 1]) (r := []) (L2 := [some (.ref 6952), some (vI 2), some (vI x3), some (vI x5), some (vI 1)]) D347_17 (im_cal cn_347 cl_12_419) (Or.inl rfl) rfl sf_6952 rfl rfl rfl rfl hd ⟨rfl, rfl, rfl, rfl, rfl, trivial⟩ ?_
  refine hP.mono ?_
  rintro _ e23 M6 ⟨x7, rfl, rfl, hP⟩
  refine im_bkS ?_
  obtain ⟨hg8, hP⟩ := hP
  refine im_ifc (q := 23) (t := 25) D347_20 rfl hg8 (fun hc9 => ?_) (fun hc9 => ?_)
  · replace hP := hP.1 hc9
    refine im_ld (q := 26) (i := 0) D347_25 rfl rfl rfl ?_
    refine im_iconst (q := 27) D347_26 ?_
    refine im_iconst (q := 28) D347_27 ?_
    refine im_ld (q := 29) (i := 1) D347_28 rfl rfl rfl ?_
    refine im_i2l (q := 30) D347_29 hg1 ?_
    refine im_lconst (q := 31) (z := 0) D347_30 rfl ?_
    refine im_lconst (q := 32) (z := 0) D347_31 rfl ?_
    refine im_iconst (q := 33) D347_32 ?_
    refine im_callV (q := 36) (kd := 1) (y := 307) (n := 6) (ci := 12) (a := 6952) (vs := [.ref 6952, vI 4, vI 1, vL p1, vL 0, vL 0, vI 0]) (r := []) (L2 := [some (.ref 6952), some (vI 4), some (vI 1), some (vL p1), none, some (vL 0), none, some (vL 0), none, some (vI 0), none, none, none, none]) D347_33 (im_cal cn_347 cl_12_740) (Or.inl rfl) rfl sf_6952 rfl rfl rfl rfl hd ⟨rfl, rfl, rfl, rfl, rfl, rfl, rfl, trivial⟩ ?_
    refine hP.mono ?_
    rintro _ e22 M10 ⟨x11, rfl, rfl, hP⟩
    refine im_bkS ?_
    refine im_st1 (q := 37) (i := 2) (L' := [some (.ref 6952), some (vI p1), some (vI x11)]) D347_36 (Or.inl ⟨_, rfl, rfl⟩) (Nat.le_of_ble_eq_true rfl) rfl ?_
    refine im_ld (q := 38) (i := 2) D347_37 rfl rfl rfl ?_
    refine im_bipush (q := 40) D347_38 rfl ?_
    obtain ⟨hg12, hP⟩ := hP
    obtain ⟨hP, hJ18⟩ := hP
    have kJ19 : (((¬ x11 = (-100)) ∧ ((M10 6994 p1) = 0)) ∨ ((¬ x11 = (-100)) ∧ (¬ (M10 6994 p1) = 0) ∧ (0 ≤ x11))) → im_T g d 347 72 [none, none, some (vI x11)] [vI p1, .ref 6994] e M10 K := by
      intro  hx20
      have hP := hJ18  hx20
      refine im_iconst (q := 73) D347_72 ?_
      obtain ⟨hg21, hP⟩ := hP
      refine im_zast (q := 74) D347_73 sf_6994 hg21.1 hg21.2 (by decide) (by decide) ?_
      refine im_ld (q := 75) (i := 2) D347_74 rfl rfl rfl ?_
      exact im_iret (q := 76) D347_75 rfl hP
    refine im_icmp (q := 43) (t := 50) D347_40 rfl hg12 (by decide) (fun hc13 => ?_) (fun hc13 => ?_)
    · replace hP := hP.1 hc13
      refine im_ld (q := 51) (i := 0) D347_50 rfl rfl rfl ?_
      refine im_gfR (q := 54) (b := 6994) D347_51 (im_fl cn_347 fl_12_136) sf_6952 rfl rfl tR_12_66 rf_6952_66 ?_
      refine im_ld (q := 55) (i := 1) D347_54 rfl rfl rfl ?_
      refine im_ld (q := 56) (i := 0) D347_55 rfl rfl rfl ?_
      refine im_gfR (q := 59) (b := 6994) D347_56 (im_fl cn_347 fl_12_136) sf_6952 rfl rfl tR_12_66 rf_6952_66 ?_
      refine im_ld (q := 60) (i := 1) D347_59 rfl rfl rfl ?_
      obtain ⟨hg14, hP⟩ := hP
      refine im_rng (j := p1) sf_6994 hg14.1 hg14.2 (fun hr15 => ?_)
      refine im_bald (q := 61) D347_60 sf_6994 (Or.inr rfl) hg14.1 hg14.2 (by decide) rfl ?_
      refine im_ifc (q := 64) (t := 72) D347_61 rfl (im_z32 hr15) (fun hc16 => ?_) (fun hc16 => ?_)
      · exact (kJ19  (Or.inl ⟨hc13, hc16⟩)).wk ⟨rfl, trivial⟩
      · replace hP := hP hc16
        refine im_ld (q := 65) (i := 2) D347_64 rfl rfl rfl ?_
        refine im_ifc (q := 68) (t := 72) D347_65 rfl hg12 (fun hc17 => ?_) (fun hc17 => ?_)
        · exact (kJ19  (Or.inr ⟨hc13, hc16, hc17⟩)).wk ⟨rfl, trivial⟩
        · replace hP := hP (Int.not_le.mp hc17)
          refine im_iconst (q := 69) D347_68 ?_
          refine im_goto (q := 72) (t := 73) D347_69 rfl ?_
          refine im_zast (q := 74) D347_73 sf_6994 hg14.1 hg14.2 (by decide) (by decide) ?_
          refine im_ld (q := 75) (i := 2) D347_74 rfl rfl rfl ?_
          exact im_iret (q := 76) D347_75 rfl hP
    · replace hP := hP.2 (Decidable.not_not.mp hc13)
      refine im_ld (q := 44) (i := 0) D347_43 rfl rfl rfl ?_
      refine im_iconst (q := 45) D347_44 ?_
      refine im_pfI (q := 48) D347_45 (im_fl cn_347 fl_12_409) sf_6952 rfl rfl ti_12_0 (by decide) ?_
      refine im_iconst (q := 49) D347_48 ?_
      exact im_iret (q := 50) D347_49 rfl hP
  · replace hP := hP.2 (Decidable.not_not.mp hc9)
    refine im_iconst (q := 24) D347_23 ?_
    exact im_iret (q := 25) D347_24 rfl hP
set_option maxRecDepth 20000 in
set_option maxHeartbeats 4000000 in
theorem b_isOver_0 {g : im_g} {d : Nat} {e : im_E} {M : im_M} {K : im_K} {p1 : Int} (hd : 1 ≤ d) (hP : im_T g (d - 1) 349 0 [some (.ref 6952), some (vI p1)] [] e M (im_ri (fun x2 e_ M1 => e = e_ ∧ (im_i32 x2) ∧ ((((¬ x2 = 0 → (0 ≤ p1 ∧ p1 < 16) ∧ (0 ≤ (M1 6995 p1) ∧ (M1 6995 p1) < 5100) ∧ (((M1 6960 (M1 6995 p1)) = 1 → (((M1 6997 p1) = 0 → K (.inl (some (vI 1))) e M1))))))) ∧ ((((x2 = 0)) ∨ ((¬ x2 = 0) ∧ (¬ (M1 6960 (M1 6995 p1)) = 1)) ∨ ((¬ x2 = 0) ∧ ((M1 6960 (M1 6995 p1)) = 1) ∧ (¬ (M1 6997 p1) = 0))) → K (.inl (some (vI 0))) e M1))))) : im_T g d 348 0 [some (.ref 6952), some (vI p1)] [] e M K := by
  refine im_ld (q := 1) (i := 0) D348_0 rfl rfl rfl ?_
  refine im_ld (q := 2) (i := 1) D348_1 rfl rfl rfl ?_
  refine im_callV (q := 5) (kd := 1) (y := 349) (n := 1) (ci := 12) (a := 6952) (vs := [.ref 6952, vI p1]) (r := []) (L2 := [some (.ref 6952), some (vI p1)]) D348_2 (im_cal cn_348 cl_12_840) (Or.inl rfl) rfl sf_6952 rfl rfl rfl rfl hd ⟨rfl, rfl, trivial⟩ ?_
  refine hP.mono ?_
  rintro _ e15 M1 ⟨x2, rfl, rfl, hP⟩
  refine im_bkS ?_
  obtain ⟨hg3, hP⟩ := hP
  obtain ⟨hP, hJ12⟩ := hP
  have kJ13 : (((x2 = 0)) ∨ ((¬ x2 = 0) ∧ (¬ (M1 6960 (M1 6995 p1)) = 1)) ∨ ((¬ x2 = 0) ∧ ((M1 6960 (M1 6995 p1)) = 1) ∧ (¬ (M1 6997 p1) = 0))) → im_T g d 348 36 [none, none] [] e M1 K := by
    intro  hx14
    have hP := hJ12  hx14
    refine im_iconst (q := 37) D348_36 ?_
    exact im_zret (q := 38) D348_37 rfl (by decide) hP
  refine im_ifc (q := 8) (t := 36) D348_5 rfl hg3 (fun hc4 => ?_) (fun hc4 => ?_)
  · exact (kJ13  (Or.inl hc4)).wk trivial
  · replace hP := hP hc4
    refine im_ld (q := 9) (i := 0) D348_8 rfl rfl rfl ?_
    refine im_gfR (q := 12) (b := 6960) D348_9 (im_fl cn_348 fl_12_33) sf_6952 rfl rfl tR_12_21 rf_6952_21 ?_
    refine im_ld (q := 13) (i := 0) D348_12 rfl rfl rfl ?_
    refine im_gfR (q := 16) (b := 6995) D348_13 (im_fl cn_348 fl_12_139) sf_6952 rfl rfl tR_12_67 rf_6952_67 ?_
    refine im_ld (q := 17) (i := 1) D348_16 rfl rfl rfl ?_
    obtain ⟨hg5, hP⟩ := hP
    refine im_rng (j := p1) sf_6995 hg5.1 hg5.2 (fun hr6 => ?_)
    refine im_iald (q := 18) D348_17 sf_6995 hg5.1 hg5.2 (by decide) rfl ?_
    obtain ⟨hg7, hP⟩ := hP
    refine im_rng (j := (M1 6995 p1)) sf_6960 hg7.1 hg7.2 (fun hr8 => ?_)
    refine im_iald (q := 19) D348_18 sf_6960 hg7.1 hg7.2 (by decide) rfl ?_
    refine im_iconst (q := 20) D348_19 ?_
    refine im_icmp (q := 23) (t := 36) D348_20 rfl hr8 (by decide) (fun hc9 => ?_) (fun hc9 => ?_)
    · exact (kJ13  (Or.inr (Or.inl ⟨hc4, hc9⟩))).wk trivial
    · replace hP := hP (Decidable.not_not.mp hc9)
      refine im_ld (q := 24) (i := 0) D348_23 rfl rfl rfl ?_
      refine im_gfR (q := 27) (b := 6997) D348_24 (im_fl cn_348 fl_12_145) sf_6952 rfl rfl tR_12_69 rf_6952_69 ?_
      refine im_ld (q := 28) (i := 1) D348_27 rfl rfl rfl ?_
      refine im_rng (j := p1) sf_6997 hg5.1 hg5.2 (fun hr10 => ?_)
      refine im_iald (q := 29) D348_28 sf_6997 hg5.1 hg5.2 (by decide) rfl ?_
      refine im_ifc (q := 32) (t := 36) D348_29 rfl hr10 (fun hc11 => ?_) (fun hc11 => ?_)
      · exact (kJ13  (Or.inr (Or.inr ⟨hc4, (Decidable.not_not.mp hc9), hc11⟩))).wk trivial
      · replace hP := hP (Decidable.not_not.mp hc11)
        refine im_iconst (q := 33) D348_32 ?_
        refine im_goto (q := 36) (t := 37) D348_33 rfl ?_
        exact im_zret (q := 38) D348_37 rfl (by decide) hP
set_option maxRecDepth 20000 in
set_option maxHeartbeats 4000000 in
theorem b_isBegun_0 {g : im_g} {d : Nat} {e : im_E} {M : im_M} {K : im_K} {p1 : Int} (hd : 1 ≤ d) (hP : (im_i32 p1) ∧ im_T g (d - 1) 268 0 [some (vL p1), none, some (vL 0), none, some (vL 15), none] [] e M (im_ri (fun x3 e_ M2 => e = e_ ∧ (im_i32 x3) ∧ ((((¬ x3 = 0 → (0 ≤ p1 ∧ p1 < 16) ∧ ((¬ (M2 6994 p1) = 0 → K (.inl (some (vI 1))) e M2))))) ∧ ((((x3 = 0)) ∨ ((¬ x3 = 0) ∧ ((M2 6994 p1) = 0))) → K (.inl (some (vI 0))) e M2))))) : im_T g d 349 0 [some (.ref 6952), some (vI p1)] [] e M K := by
  refine im_ld (q := 1) (i := 1) D349_0 rfl rfl rfl ?_
  obtain ⟨hg1, hP⟩ := hP
  refine im_i2l (q := 2) D349_1 hg1 ?_
  refine im_lconst (q := 3) (z := 0) D349_2 rfl ?_
  refine im_ldc2 (q := 6) (n := 15) D349_3 rfl ?_
  refine im_callS (q := 9) (kd := 0) (y := 268) (n := 3) (z := 12) (vs := [vL p1, vL 0, vL 15]) (r := []) (L2 := [some (vL p1), none, some (vL 0), none, some (vL 15), none]) D349_6 rfl (im_cal cn_349 cl_12_428) (Or.inl rfl) rfl rfl rfl rfl rfl hd ⟨rfl, rfl, rfl, trivial⟩ ?_
  refine hP.mono ?_
  rintro _ e12 M2 ⟨x3, rfl, rfl, hP⟩
  refine im_bkS ?_
  obtain ⟨hg4, hP⟩ := hP
  obtain ⟨hP, hJ9⟩ := hP
  have kJ10 : (((x3 = 0)) ∨ ((¬ x3 = 0) ∧ ((M2 6994 p1) = 0))) → im_T g d 349 25 [none, none] [] e M2 K := by
    intro  hx11
    have hP := hJ9  hx11
    refine im_iconst (q := 26) D349_25 ?_
    exact im_zret (q := 27) D349_26 rfl (by decide) hP
  refine im_ifc (q := 12) (t := 25) D349_9 rfl hg4 (fun hc5 => ?_) (fun hc5 => ?_)
  · exact (kJ10  (Or.inl hc5)).wk trivial
  · replace hP := hP hc5
    refine im_ld (q := 13) (i := 0) D349_12 rfl rfl rfl ?_
    refine im_gfR (q := 16) (b := 6994) D349_13 (im_fl cn_349 fl_12_136) sf_6952 rfl rfl tR_12_66 rf_6952_66 ?_
    refine im_ld (q := 17) (i := 1) D349_16 rfl rfl rfl ?_
    obtain ⟨hg6, hP⟩ := hP
    refine im_rng (j := p1) sf_6994 hg6.1 hg6.2 (fun hr7 => ?_)
    refine im_bald (q := 18) D349_17 sf_6994 (Or.inr rfl) hg6.1 hg6.2 (by decide) rfl ?_
    refine im_ifc (q := 21) (t := 25) D349_18 rfl (im_z32 hr7) (fun hc8 => ?_) (fun hc8 => ?_)
    · exact (kJ10  (Or.inr ⟨hc5, hc8⟩)).wk trivial
    · replace hP := hP hc8
      refine im_iconst (q := 22) D349_21 ?_
      refine im_goto (q := 25) (t := 26) D349_22 rfl ?_
      exact im_zret (q := 27) D349_26 rfl (by decide) hP
set_option maxRecDepth 20000 in
set_option maxHeartbeats 4000000 in
theorem b_rest_0 {g : im_g} {d : Nat} {e : im_E} {M : im_M} {K : im_K} {p1 : Int} (hd : 1 ≤ d) (hP : (im_i32 p1) ∧ im_T g (d - 1) 268 0 [some (vL p1), none, some (vL 0), none, some (vL 15), none] [] e M (im_ri (fun x3 e_ M2 => e = e_ ∧ im_T g (d - 1) 349 0 [some (.ref 6952), some (vI p1)] [] e M2 (im_ri (fun x5 e_ M4 => e = e_ ∧ im_T g (d - 1) 264 0 [some (.ref 6952), some (vI 2), some (vI x3), some (vI x5), some (vI 1)] [] e M4 (im_ri (fun x7 e_ M6 => e = e_ ∧ (im_i32 x7) ∧ ((x7 = 0 → K (.inl (some (vI 0))) e M6) ∧ (¬ x7 = 0 → (0 ≤ p1 ∧ p1 < 16) ∧ im_T g (d - 1) 316 0 [some (.ref 6952), some (vI (M6 6995 p1)), none, none] [] e M6 (im_ri (fun x13 e_ M12 => e = e_ ∧ K (.inl (some (vI x13))) e M12))))))))))) : im_T g d 350 0 [some (.ref 6952), some (vI p1)] [] e M K := by
  refine im_ld (q := 1) (i := 0) D350_0 rfl rfl rfl ?_
  refine im_iconst (q := 2) D350_1 ?_
  refine im_ld (q := 3) (i := 1) D350_2 rfl rfl rfl ?_
  obtain ⟨hg1, hP⟩ := hP
  refine im_i2l (q := 4) D350_3 hg1 ?_
  refine im_lconst (q := 5) (z := 0) D350_4 rfl ?_
  refine im_ldc2 (q := 8) (n := 15) D350_5 rfl ?_
  refine im_callS (q := 11) (kd := 0) (y := 268) (n := 3) (z := 12) (vs := [vL p1, vL 0, vL 15]) (r := [vI 2, .ref 6952]) (L2 := [some (vL p1), none, some (vL 0), none, some (vL 15), none]) D350_8 rfl (im_cal cn_350 cl_12_428) (Or.inl rfl) rfl rfl rfl rfl rfl hd ⟨rfl, rfl, rfl, trivial⟩ ?_
  refine hP.mono ?_
  rintro _ e17 M2 ⟨x3, rfl, rfl, hP⟩
  refine im_bkS ?_
  refine im_ld (q := 12) (i := 0) D350_11 rfl rfl rfl ?_
  refine im_ld (q := 13) (i := 1) D350_12 rfl rfl rfl ?_
  refine im_callV (q := 16) (kd := 1) (y := 349) (n := 1) (ci := 12) (a := 6952) (vs := [.ref 6952, vI p1]) (r := [vI x3, vI 2, .ref 6952]) (L2 := [some (.ref 6952), some (vI p1)]) D350_13 (im_cal cn_350 cl_12_840) (Or.inl rfl) rfl sf_6952 rfl rfl rfl rfl hd ⟨rfl, rfl, trivial⟩ ?_
  refine hP.mono ?_
  rintro _ e16 M4 ⟨x5, rfl, rfl, hP⟩
  refine im_bkS ?_
  refine im_iconst (q := 17) D350_16 ?_
  refine im_callV (q := 20) (kd := 1) (y := 264) (n := 4) (ci := 12) (a := 6952) (vs := [.ref 6952, vI 2, vI x3, vI x5, vI 1]) (r := []) (L2 := [some (.ref 6952), some (vI 2), some (vI x3), some (vI x5), some (vI 1)]) D350_17 (im_cal cn_350 cl_12_419) (Or.inl rfl) rfl sf_6952 rfl rfl rfl rfl hd ⟨rfl, rfl, rfl, rfl, rfl, trivial⟩ ?_
  refine hP.mono ?_
  rintro _ e15 M6 ⟨x7, rfl, rfl, hP⟩
  refine im_bkS ?_
  obtain ⟨hg8, hP⟩ := hP
  refine im_ifc (q := 23) (t := 36) D350_20 rfl hg8 (fun hc9 => ?_) (fun hc9 => ?_)
  · replace hP := hP.1 hc9
    refine im_iconst (q := 37) D350_36 ?_
    exact im_iret (q := 38) D350_37 rfl hP
  · replace hP := hP.2 hc9
    refine im_ld (q := 24) (i := 0) D350_23 rfl rfl rfl ?_
    refine im_ld (q := 25) (i := 0) D350_24 rfl rfl rfl ?_
    refine im_gfR (q := 28) (b := 6995) D350_25 (im_fl cn_350 fl_12_139) sf_6952 rfl rfl tR_12_67 rf_6952_67 ?_
    refine im_ld (q := 29) (i := 1) D350_28 rfl rfl rfl ?_
    obtain ⟨hg10, hP⟩ := hP
    refine im_rng (j := p1) sf_6995 hg10.1 hg10.2 (fun hr11 => ?_)
    refine im_iald (q := 30) D350_29 sf_6995 hg10.1 hg10.2 (by decide) rfl ?_
    refine im_callV (q := 33) (kd := 1) (y := 316) (n := 1) (ci := 12) (a := 6952) (vs := [.ref 6952, vI (M6 6995 p1)]) (r := []) (L2 := [some (.ref 6952), some (vI (M6 6995 p1)), none, none]) D350_30 (im_cal cn_350 cl_12_776) (Or.inl rfl) rfl sf_6952 rfl rfl rfl rfl hd ⟨rfl, rfl, trivial⟩ ?_
    refine hP.mono ?_
    rintro _ e14 M12 ⟨x13, rfl, rfl, hP⟩
    refine im_bkS ?_
    refine im_goto (q := 36) (t := 37) D350_33 rfl ?_
    exact im_iret (q := 38) D350_37 rfl hP
set_option maxRecDepth 20000 in
set_option maxHeartbeats 4000000 in
theorem b_state_0 {g : im_g} {d : Nat} {e : im_E} {M : im_M} {K : im_K} {p1 p2 : Int} (hd : 1 ≤ d) (hP : (im_i32 p1) ∧ im_T g (d - 1) 268 0 [some (vL p1), none, some (vL 0), none, some (vL 15), none] [] e M (im_ri (fun x3 e_ M2 => e = e_ ∧ (im_i32 p2) ∧ im_T g (d - 1) 268 0 [some (vL p2), none, some (vL 0), none, some (vL 5), none] [] e M2 (im_ri (fun x6 e_ M5 => e = e_ ∧ im_T g (d - 1) 349 0 [some (.ref 6952), some (vI p1)] [] e M5 (im_ri (fun x8 e_ M7 => e = e_ ∧ im_T g (d - 1) 264 0 [some (.ref 6952), some (vI 3), some (vI x3), some (vI x6), some (vI x8)] [] e M7 (im_ri (fun x10 e_ M9 => e = e_ ∧ (im_i32 x10) ∧ ((¬ x10 = 0 → ((¬ p2 = 0 → ((¬ p2 = 5 → im_T g (d - 1) 352 0 [some (.ref 6952), some (vI p1), some (vI p2)] [] e M9 (im_ri (fun x18 e_ M17 => e = e_ ∧ (im_i32 x18) ∧ K (.inl (some (vL x18))) e M17))) ∧ (p2 = 5 → im_T g (d - 1) 348 0 [some (.ref 6952), some (vI p1)] [] e M9 (im_ri (fun x22 e_ M21 => e = e_ ∧ (im_i32 x22) ∧ ((∀ x25 : Int, (((x22 = 0) ∧ x25 = 0) ∨ ((¬ x22 = 0) ∧ x25 = 1)) → K (.inl (some (vL x25))) e M21))))))) ∧ (p2 = 0 → (0 ≤ p1 ∧ p1 < 16) ∧ K (.inl (some (vL (M9 6996 p1)))) e M9))) ∧ (x10 = 0 → K (.inl (some (vL 0))) e M9))))))))))) : im_T g d 351 0 [some (.ref 6952), some (vI p1), some (vI p2)] [] e M K := by
  refine im_ld (q := 1) (i := 0) D351_0 rfl rfl rfl ?_
  refine im_iconst (q := 2) D351_1 ?_
  refine im_ld (q := 3) (i := 1) D351_2 rfl rfl rfl ?_
  obtain ⟨hg1, hP⟩ := hP
  refine im_i2l (q := 4) D351_3 hg1 ?_
  refine im_lconst (q := 5) (z := 0) D351_4 rfl ?_
  refine im_ldc2 (q := 8) (n := 15) D351_5 rfl ?_
  refine im_callS (q := 11) (kd := 0) (y := 268) (n := 3) (z := 12) (vs := [vL p1, vL 0, vL 15]) (r := [vI 3, .ref 6952]) (L2 := [some (vL p1), none, some (vL 0), none, some (vL 15), none]) D351_8 rfl (im_cal cn_351 cl_12_428) (Or.inl rfl) rfl rfl rfl rfl rfl hd ⟨rfl, rfl, rfl, trivial⟩ ?_
  refine hP.mono ?_
  rintro _ e33 M2 ⟨x3, rfl, rfl, hP⟩
  refine im_bkS ?_
  refine im_ld (q := 12) (i := 2) D351_11 rfl rfl rfl ?_
  obtain ⟨hg4, hP⟩ := hP
  refine im_i2l (q := 13) D351_12 hg4 ?_
  refine im_lconst (q := 14) (z := 0) D351_13 rfl ?_
  refine im_ldc2 (q := 17) (n := 5) D351_14 rfl ?_
  refine im_callS (q := 20) (kd := 0) (y := 268) (n := 3) (z := 12) (vs := [vL p2, vL 0, vL 5]) (r := [vI x3, vI 3, .ref 6952]) (L2 := [some (vL p2), none, some (vL 0), none, some (vL 5), none]) D351_17 rfl (im_cal cn_351 cl_12_428) (Or.inl rfl) rfl rfl rfl rfl rfl hd ⟨rfl, rfl, rfl, trivial⟩ ?_
  refine hP.mono ?_
  rintro _ e32 M5 ⟨x6, rfl, rfl, hP⟩
  refine im_bkS ?_
  refine im_ld (q := 21) (i := 0) D351_20 rfl rfl rfl ?_
  refine im_ld (q := 22) (i := 1) D351_21 rfl rfl rfl ?_
  refine im_callV (q := 25) (kd := 1) (y := 349) (n := 1) (ci := 12) (a := 6952) (vs := [.ref 6952, vI p1]) (r := [vI x6, vI x3, vI 3, .ref 6952]) (L2 := [some (.ref 6952), some (vI p1)]) D351_22 (im_cal cn_351 cl_12_840) (Or.inl rfl) rfl sf_6952 rfl rfl rfl rfl hd ⟨rfl, rfl, trivial⟩ ?_
  refine hP.mono ?_
  rintro _ e31 M7 ⟨x8, rfl, rfl, hP⟩
  refine im_bkS ?_
  refine im_callV (q := 28) (kd := 1) (y := 264) (n := 4) (ci := 12) (a := 6952) (vs := [.ref 6952, vI 3, vI x3, vI x6, vI x8]) (r := []) (L2 := [some (.ref 6952), some (vI 3), some (vI x3), some (vI x6), some (vI x8)]) D351_25 (im_cal cn_351 cl_12_419) (Or.inl rfl) rfl sf_6952 rfl rfl rfl rfl hd ⟨rfl, rfl, rfl, rfl, rfl, trivial⟩ ?_
  refine hP.mono ?_
  rintro _ e30 M9 ⟨x10, rfl, rfl, hP⟩
  refine im_bkS ?_
  obtain ⟨hg11, hP⟩ := hP
  refine im_ifc (q := 31) (t := 33) D351_28 rfl hg11 (fun hc12 => ?_) (fun hc12 => ?_)
  · replace hP := hP.1 hc12
    refine im_ld (q := 34) (i := 2) D351_33 rfl rfl rfl ?_
    refine im_ifc (q := 37) (t := 46) D351_34 rfl hg4 (fun hc13 => ?_) (fun hc13 => ?_)
    · replace hP := hP.1 hc13
      refine im_ld (q := 47) (i := 2) D351_46 rfl rfl rfl ?_
      refine im_iconst (q := 48) D351_47 ?_
      refine im_icmp (q := 51) (t := 67) D351_48 rfl hg4 (by decide) (fun hc14 => ?_) (fun hc14 => ?_)
      · replace hP := hP.1 hc14
        refine im_ld (q := 68) (i := 0) D351_67 rfl rfl rfl ?_
        refine im_ld (q := 69) (i := 1) D351_68 rfl rfl rfl ?_
        refine im_ld (q := 70) (i := 2) D351_69 rfl rfl rfl ?_
        refine im_callV (q := 73) (kd := 1) (y := 352) (n := 2) (ci := 12) (a := 6952) (vs := [.ref 6952, vI p1, vI p2]) (r := []) (L2 := [some (.ref 6952), some (vI p1), some (vI p2)]) D351_70 (im_cal cn_351 cl_12_848) (Or.inl rfl) rfl sf_6952 rfl rfl rfl rfl hd ⟨rfl, rfl, rfl, trivial⟩ ?_
        refine hP.mono ?_
        rintro _ e20 M17 ⟨x18, rfl, rfl, hP⟩
        refine im_bkS ?_
        obtain ⟨hg19, hP⟩ := hP
        refine im_i2l (q := 74) D351_73 hg19 ?_
        exact im_lret (q := 75) D351_74 rfl hP
      · replace hP := hP.2 (Decidable.not_not.mp hc14)
        refine im_ld (q := 52) (i := 0) D351_51 rfl rfl rfl ?_
        refine im_ld (q := 53) (i := 1) D351_52 rfl rfl rfl ?_
        refine im_callV (q := 56) (kd := 1) (y := 348) (n := 1) (ci := 12) (a := 6952) (vs := [.ref 6952, vI p1]) (r := []) (L2 := [some (.ref 6952), some (vI p1)]) D351_53 (im_cal cn_351 cl_12_843) (Or.inl rfl) rfl sf_6952 rfl rfl rfl rfl hd ⟨rfl, rfl, trivial⟩ ?_
        refine hP.mono ?_
        rintro _ e29 M21 ⟨x22, rfl, rfl, hP⟩
        refine im_bkS ?_
        obtain ⟨hg23, hP⟩ := hP
        have hJ26 := hP
        have kJ27 : ∀ x25 : Int, (((x22 = 0) ∧ x25 = 0) ∨ ((¬ x22 = 0) ∧ x25 = 1)) → im_T g d 351 74 [none, none, none] [vL x25] e M21 K := by
          intro x25 hx28
          have hP := hJ26 x25 hx28
          exact im_lret (q := 75) D351_74 rfl hP
        refine im_ifc (q := 59) (t := 63) D351_56 rfl hg23 (fun hc24 => ?_) (fun hc24 => ?_)
        · refine im_lconst (q := 64) (z := 0) D351_63 rfl ?_
          refine im_goto (q := 67) (t := 74) D351_64 rfl ?_
          exact (kJ27 (0) (Or.inl ⟨hc24, rfl⟩)).wk trivial
        · refine im_lconst (q := 60) (z := 1) D351_59 rfl ?_
          refine im_goto (q := 63) (t := 74) D351_60 rfl ?_
          exact (kJ27 (1) (Or.inr ⟨hc24, rfl⟩)).wk trivial
    · replace hP := hP.2 (Decidable.not_not.mp hc13)
      refine im_ld (q := 38) (i := 0) D351_37 rfl rfl rfl ?_
      refine im_gfR (q := 41) (b := 6996) D351_38 (im_fl cn_351 fl_12_142) sf_6952 rfl rfl tR_12_68 rf_6952_68 ?_
      refine im_ld (q := 42) (i := 1) D351_41 rfl rfl rfl ?_
      obtain ⟨hg15, hP⟩ := hP
      refine im_rng (j := p1) sf_6996 hg15.1 hg15.2 (fun hr16 => ?_)
      refine im_lald (q := 43) D351_42 sf_6996 hg15.1 hg15.2 (by decide) rfl ?_
      refine im_goto (q := 46) (t := 74) D351_43 rfl ?_
      exact im_lret (q := 75) D351_74 rfl hP
  · replace hP := hP.2 (Decidable.not_not.mp hc12)
    refine im_lconst (q := 32) (z := 0) D351_31 rfl ?_
    exact im_lret (q := 33) D351_32 rfl hP
set_option maxRecDepth 20000 in
set_option maxHeartbeats 4000000 in
theorem b_countOf_0 {g : im_g} {d : Nat} {e : im_E} {M : im_M} {K : im_K} {p1 p2 : Int} (hP : (im_i32 p2) ∧ ((((¬ p2 = 1 → ((¬ p2 = 2 → ((¬ p2 = 3 → (0 ≤ p1 ∧ p1 < 16)) ∧ (p2 = 3 → (0 ≤ p1 ∧ p1 < 16)))) ∧ (p2 = 2 → (0 ≤ p1 ∧ p1 < 16)))) ∧ (p2 = 1 → (0 ≤ p1 ∧ p1 < 16)))) ∧ (∀ x13 : Int, (((¬ p2 = 1) ∧ (¬ p2 = 2) ∧ (¬ p2 = 3) ∧ x13 = (M 7008 p1)) ∨ ((¬ p2 = 1) ∧ (¬ p2 = 2) ∧ (p2 = 3) ∧ x13 = (M 7005 p1)) ∨ ((¬ p2 = 1) ∧ (p2 = 2) ∧ x13 = (M 7001 p1)) ∨ ((p2 = 1) ∧ x13 = (M 6997 p1))) → K (.inl (some (vI x13))) e M))) : im_T g d 352 0 [some (.ref 6952), some (vI p1), some (vI p2)] [] e M K := by
  refine im_ld (q := 1) (i := 2) D352_0 rfl rfl rfl ?_
  refine im_iconst (q := 2) D352_1 ?_
  obtain ⟨hg1, hP⟩ := hP
  obtain ⟨hP, hJ14⟩ := hP
  have kJ15 : ∀ x13 : Int, (((¬ p2 = 1) ∧ (¬ p2 = 2) ∧ (¬ p2 = 3) ∧ x13 = (M 7008 p1)) ∨ ((¬ p2 = 1) ∧ (¬ p2 = 2) ∧ (p2 = 3) ∧ x13 = (M 7005 p1)) ∨ ((¬ p2 = 1) ∧ (p2 = 2) ∧ x13 = (M 7001 p1)) ∨ ((p2 = 1) ∧ x13 = (M 6997 p1))) → im_T g d 352 48 [none, none, none] [vI x13] e M K := by
    intro x13 hx16
    have hP := hJ14 x13 hx16
    exact im_iret (q := 49) D352_48 rfl hP
  refine im_icmp (q := 5) (t := 14) D352_2 rfl hg1 (by decide) (fun hc2 => ?_) (fun hc2 => ?_)
  · replace hP := hP.1 hc2
    refine im_ld (q := 15) (i := 2) D352_14 rfl rfl rfl ?_
    refine im_iconst (q := 16) D352_15 ?_
    refine im_icmp (q := 19) (t := 28) D352_16 rfl hg1 (by decide) (fun hc3 => ?_) (fun hc3 => ?_)
    · replace hP := hP.1 hc3
      refine im_ld (q := 29) (i := 2) D352_28 rfl rfl rfl ?_
      refine im_iconst (q := 30) D352_29 ?_
      refine im_icmp (q := 33) (t := 42) D352_30 rfl hg1 (by decide) (fun hc4 => ?_) (fun hc4 => ?_)
      · replace hP := hP.1 hc4
        refine im_ld (q := 43) (i := 0) D352_42 rfl rfl rfl ?_
        refine im_gfR (q := 46) (b := 7008) D352_43 (im_fl cn_352 fl_12_179) sf_6952 rfl rfl tR_12_80 rf_6952_80 ?_
        refine im_ld (q := 47) (i := 1) D352_46 rfl rfl rfl ?_
        have hg5 := hP
        refine im_rng (j := p1) sf_7008 hg5.1 hg5.2 (fun hr6 => ?_)
        refine im_iald (q := 48) D352_47 sf_7008 hg5.1 hg5.2 (by decide) rfl ?_
        exact (kJ15 ((M 7008 p1)) (Or.inl ⟨hc2, hc3, hc4, rfl⟩)).wk trivial
      · replace hP := hP.2 (Decidable.not_not.mp hc4)
        refine im_ld (q := 34) (i := 0) D352_33 rfl rfl rfl ?_
        refine im_gfR (q := 37) (b := 7005) D352_34 (im_fl cn_352 fl_12_170) sf_6952 rfl rfl tR_12_77 rf_6952_77 ?_
        refine im_ld (q := 38) (i := 1) D352_37 rfl rfl rfl ?_
        have hg7 := hP
        refine im_rng (j := p1) sf_7005 hg7.1 hg7.2 (fun hr8 => ?_)
        refine im_iald (q := 39) D352_38 sf_7005 hg7.1 hg7.2 (by decide) rfl ?_
        refine im_goto (q := 42) (t := 48) D352_39 rfl ?_
        exact (kJ15 ((M 7005 p1)) (Or.inr (Or.inl ⟨hc2, hc3, (Decidable.not_not.mp hc4), rfl⟩))).wk trivial
    · replace hP := hP.2 (Decidable.not_not.mp hc3)
      refine im_ld (q := 20) (i := 0) D352_19 rfl rfl rfl ?_
      refine im_gfR (q := 23) (b := 7001) D352_20 (im_fl cn_352 fl_12_158) sf_6952 rfl rfl tR_12_73 rf_6952_73 ?_
      refine im_ld (q := 24) (i := 1) D352_23 rfl rfl rfl ?_
      have hg9 := hP
      refine im_rng (j := p1) sf_7001 hg9.1 hg9.2 (fun hr10 => ?_)
      refine im_iald (q := 25) D352_24 sf_7001 hg9.1 hg9.2 (by decide) rfl ?_
      refine im_goto (q := 28) (t := 48) D352_25 rfl ?_
      exact (kJ15 ((M 7001 p1)) (Or.inr (Or.inr (Or.inl ⟨hc2, (Decidable.not_not.mp hc3), rfl⟩)))).wk trivial
  · replace hP := hP.2 (Decidable.not_not.mp hc2)
    refine im_ld (q := 6) (i := 0) D352_5 rfl rfl rfl ?_
    refine im_gfR (q := 9) (b := 6997) D352_6 (im_fl cn_352 fl_12_145) sf_6952 rfl rfl tR_12_69 rf_6952_69 ?_
    refine im_ld (q := 10) (i := 1) D352_9 rfl rfl rfl ?_
    have hg11 := hP
    refine im_rng (j := p1) sf_6997 hg11.1 hg11.2 (fun hr12 => ?_)
    refine im_iald (q := 11) D352_10 sf_6997 hg11.1 hg11.2 (by decide) rfl ?_
    refine im_goto (q := 14) (t := 48) D352_11 rfl ?_
    exact (kJ15 ((M 6997 p1)) (Or.inr (Or.inr (Or.inr ⟨(Decidable.not_not.mp hc2), rfl⟩)))).wk trivial
set_option maxRecDepth 20000 in
set_option maxHeartbeats 4000000 in
theorem b_entry_0 {g : im_g} {d : Nat} {e : im_E} {M : im_M} {K : im_K} {p1 p2 p3 : Int} (hd : 1 ≤ d) (hP : im_T g (d - 1) 354 0 [some (.ref 6952), some (vI p1), some (vI p2), some (vI p3), none] [] e M (im_ri (fun x2 e_ M1 => e = e_ ∧ (im_i32 x2) ∧ ((¬ x2 = 0 → (im_i32 p2) ∧ ((¬ p2 = 1 → ((¬ p2 = 2 → ((¬ p2 = 3 → im_T g (d - 1) 345 0 [some (.ref 6952), some (.ref 7010), some (vI ((20 * p1) + p3)), none, none, none] [] e (im_u M1 6952 7 (M1 6952 6)) (im_ri (fun x11 e_ M10 => e = e_ ∧ im_T g (d - 1) 324 0 [some (.ref 6952), some (vI x11), none] [] e (im_u M10 6952 4 0) (im_r0 (fun  e_ M12 => e = e_ ∧ K (.inl (some (vI (M12 6952 4)))) e M12))))) ∧ (p2 = 3 → im_T g (d - 1) 345 0 [some (.ref 6952), some (.ref 7007), some (vI ((40 * p1) + p3)), none, none, none] [] e (im_u M1 6952 7 (M1 6952 6)) (im_ri (fun x17 e_ M16 => e = e_ ∧ im_T g (d - 1) 324 0 [some (.ref 6952), some (vI x17), none] [] e (im_u M16 6952 4 0) (im_r0 (fun  e_ M18 => e = e_ ∧ K (.inl (some (vI (M18 6952 4)))) e M18))))))) ∧ (p2 = 2 → im_T g (d - 1) 345 0 [some (.ref 6952), some (.ref 7004), some (vI ((40 * p1) + p3)), none, none, none] [] e (im_u M1 6952 7 (M1 6952 6)) (im_ri (fun x23 e_ M22 => e = e_ ∧ im_T g (d - 1) 324 0 [some (.ref 6952), some (vI x23), none] [] e (im_u M22 6952 4 0) (im_r0 (fun  e_ M24 => e = e_ ∧ K (.inl (some (vI (M24 6952 4)))) e M24))))))) ∧ (p2 = 1 → im_T g (d - 1) 345 0 [some (.ref 6952), some (.ref 7000), some (vI ((40 * p1) + p3)), none, none, none] [] e (im_u M1 6952 7 (M1 6952 6)) (im_ri (fun x29 e_ M28 => e = e_ ∧ im_T g (d - 1) 324 0 [some (.ref 6952), some (vI x29), none] [] e (im_u M28 6952 4 0) (im_r0 (fun  e_ M30 => e = e_ ∧ K (.inl (some (vI (M30 6952 4)))) e M30))))))) ∧ (x2 = 0 → K (.inl (some (vI 0))) e M1))))) : im_T g d 353 0 [some (.ref 6952), some (vI p1), some (vI p2), some (vI p3), none] [] e M K := by
  refine im_ld (q := 1) (i := 0) D353_0 rfl rfl rfl ?_
  refine im_ld (q := 2) (i := 1) D353_1 rfl rfl rfl ?_
  refine im_ld (q := 3) (i := 2) D353_2 rfl rfl rfl ?_
  refine im_ld (q := 4) (i := 3) D353_3 rfl rfl rfl ?_
  refine im_callV (q := 7) (kd := 1) (y := 354) (n := 3) (ci := 12) (a := 6952) (vs := [.ref 6952, vI p1, vI p2, vI p3]) (r := []) (L2 := [some (.ref 6952), some (vI p1), some (vI p2), some (vI p3), none]) D353_4 (im_cal cn_353 cl_12_851) (Or.inl rfl) rfl sf_6952 rfl rfl rfl rfl hd ⟨rfl, rfl, rfl, rfl, trivial⟩ ?_
  refine hP.mono ?_
  rintro _ e34 M1 ⟨x2, rfl, rfl, hP⟩
  refine im_bkS ?_
  obtain ⟨hg3, hP⟩ := hP
  refine im_ifc (q := 10) (t := 12) D353_7 rfl hg3 (fun hc4 => ?_) (fun hc4 => ?_)
  · replace hP := hP.1 hc4
    refine im_ld (q := 13) (i := 0) D353_12 rfl rfl rfl ?_
    refine im_ld (q := 14) (i := 0) D353_13 rfl rfl rfl ?_
    refine im_rng (j := 6) sf_6952 (by decide) (by decide) (fun hr5 => ?_)
    refine im_gfI (q := 17) D353_14 (im_fl cn_353 fl_12_617) sf_6952 rfl rfl tI_12_6 rfl ?_
    refine im_pfI (q := 20) D353_17 (im_fl cn_353 fl_12_449) sf_6952 rfl rfl ti_12_7 hr5 ?_
    refine im_ld (q := 21) (i := 2) D353_20 rfl rfl rfl ?_
    refine im_iconst (q := 22) D353_21 ?_
    obtain ⟨hg6, hP⟩ := hP
    refine im_icmp (q := 25) (t := 42) D353_22 rfl hg6 (by decide) (fun hc7 => ?_) (fun hc7 => ?_)
    · replace hP := hP.1 hc7
      refine im_ld (q := 43) (i := 2) D353_42 rfl rfl rfl ?_
      refine im_iconst (q := 44) D353_43 ?_
      refine im_icmp (q := 47) (t := 64) D353_44 rfl hg6 (by decide) (fun hc8 => ?_) (fun hc8 => ?_)
      · replace hP := hP.1 hc8
        refine im_ld (q := 65) (i := 2) D353_64 rfl rfl rfl ?_
        refine im_iconst (q := 66) D353_65 ?_
        refine im_icmp (q := 69) (t := 86) D353_66 rfl hg6 (by decide) (fun hc9 => ?_) (fun hc9 => ?_)
        · replace hP := hP.1 hc9
          refine im_ld (q := 87) (i := 0) D353_86 rfl rfl rfl ?_
          refine im_ld (q := 88) (i := 0) D353_87 rfl rfl rfl ?_
          refine im_gfR (q := 91) (b := 7010) D353_88 (im_fl cn_353 fl_12_186) sf_6952 rfl rfl tR_12_82 rf_6952_82 ?_
          refine im_bipush (q := 93) D353_91 rfl ?_
          refine im_ld (q := 94) (i := 1) D353_93 rfl rfl rfl ?_
          refine im_imul (q := 95) D353_94 ?_
          refine im_ld (q := 96) (i := 3) D353_95 rfl rfl rfl ?_
          refine im_iadd (q := 97) D353_96 ?_
          refine im_callV (q := 100) (kd := 1) (y := 345) (n := 2) (ci := 12) (a := 6952) (vs := [.ref 6952, .ref 7010, vI ((20 * p1) + p3)]) (r := []) (L2 := [some (.ref 6952), some (.ref 7010), some (vI ((20 * p1) + p3)), none, none, none]) D353_97 (im_cal cn_353 cl_12_825) (Or.inl rfl) rfl sf_6952 rfl rfl rfl rfl hd ⟨rfl, rfl, rfl, trivial⟩ ?_
          refine hP.mono ?_
          rintro _ e15 M10 ⟨x11, rfl, rfl, hP⟩
          refine im_bkS ?_
          refine im_st1 (q := 102) (i := 4) (L' := [some (.ref 6952), some (vI p1), some (vI p2), some (vI p3), some (vI x11)]) D353_100 (Or.inr rfl) (Nat.le_of_ble_eq_true rfl) rfl ?_
          refine im_ld (q := 103) (i := 0) D353_102 rfl rfl rfl ?_
          refine im_iconst (q := 104) D353_103 ?_
          refine im_pfI (q := 107) D353_104 (im_fl cn_353 fl_12_423) sf_6952 rfl rfl ti_12_4 (by decide) ?_
          refine im_ld (q := 108) (i := 0) D353_107 rfl rfl rfl ?_
          refine im_ld (q := 110) (i := 4) D353_108 rfl rfl rfl ?_
          refine im_callV (q := 113) (kd := 1) (y := 324) (n := 1) (ci := 12) (a := 6952) (vs := [.ref 6952, vI x11]) (r := []) (L2 := [some (.ref 6952), some (vI x11), none]) D353_110 (im_cal cn_353 cl_12_756) (Or.inl rfl) rfl sf_6952 rfl rfl rfl rfl hd ⟨rfl, rfl, trivial⟩ ?_
          refine hP.mono ?_
          rintro _ e14 M12 ⟨rfl, rfl, hP⟩
          refine im_bkN ?_
          refine im_ld (q := 114) (i := 0) D353_113 rfl rfl rfl ?_
          refine im_rng (j := 4) sf_6952 (by decide) (by decide) (fun hr13 => ?_)
          refine im_gfI (q := 117) D353_114 (im_fl cn_353 fl_12_423) sf_6952 rfl rfl tI_12_4 rfl ?_
          exact im_iret (q := 118) D353_117 rfl hP
        · replace hP := hP.2 (Decidable.not_not.mp hc9)
          refine im_ld (q := 70) (i := 0) D353_69 rfl rfl rfl ?_
          refine im_ld (q := 71) (i := 0) D353_70 rfl rfl rfl ?_
          refine im_gfR (q := 74) (b := 7007) D353_71 (im_fl cn_353 fl_12_176) sf_6952 rfl rfl tR_12_79 rf_6952_79 ?_
          refine im_bipush (q := 76) D353_74 rfl ?_
          refine im_ld (q := 77) (i := 1) D353_76 rfl rfl rfl ?_
          refine im_imul (q := 78) D353_77 ?_
          refine im_ld (q := 79) (i := 3) D353_78 rfl rfl rfl ?_
          refine im_iadd (q := 80) D353_79 ?_
          refine im_callV (q := 83) (kd := 1) (y := 345) (n := 2) (ci := 12) (a := 6952) (vs := [.ref 6952, .ref 7007, vI ((40 * p1) + p3)]) (r := []) (L2 := [some (.ref 6952), some (.ref 7007), some (vI ((40 * p1) + p3)), none, none, none]) D353_80 (im_cal cn_353 cl_12_825) (Or.inl rfl) rfl sf_6952 rfl rfl rfl rfl hd ⟨rfl, rfl, rfl, trivial⟩ ?_
          refine hP.mono ?_
          rintro _ e21 M16 ⟨x17, rfl, rfl, hP⟩
          refine im_bkS ?_
          refine im_goto (q := 86) (t := 100) D353_83 rfl ?_
          refine im_st1 (q := 102) (i := 4) (L' := [some (.ref 6952), some (vI p1), some (vI p2), some (vI p3), some (vI x17)]) D353_100 (Or.inr rfl) (Nat.le_of_ble_eq_true rfl) rfl ?_
          refine im_ld (q := 103) (i := 0) D353_102 rfl rfl rfl ?_
          refine im_iconst (q := 104) D353_103 ?_
          refine im_pfI (q := 107) D353_104 (im_fl cn_353 fl_12_423) sf_6952 rfl rfl ti_12_4 (by decide) ?_
          refine im_ld (q := 108) (i := 0) D353_107 rfl rfl rfl ?_
          refine im_ld (q := 110) (i := 4) D353_108 rfl rfl rfl ?_
          refine im_callV (q := 113) (kd := 1) (y := 324) (n := 1) (ci := 12) (a := 6952) (vs := [.ref 6952, vI x17]) (r := []) (L2 := [some (.ref 6952), some (vI x17), none]) D353_110 (im_cal cn_353 cl_12_756) (Or.inl rfl) rfl sf_6952 rfl rfl rfl rfl hd ⟨rfl, rfl, trivial⟩ ?_
          refine hP.mono ?_
          rintro _ e20 M18 ⟨rfl, rfl, hP⟩
          refine im_bkN ?_
          refine im_ld (q := 114) (i := 0) D353_113 rfl rfl rfl ?_
          refine im_rng (j := 4) sf_6952 (by decide) (by decide) (fun hr19 => ?_)
          refine im_gfI (q := 117) D353_114 (im_fl cn_353 fl_12_423) sf_6952 rfl rfl tI_12_4 rfl ?_
          exact im_iret (q := 118) D353_117 rfl hP
      · replace hP := hP.2 (Decidable.not_not.mp hc8)
        refine im_ld (q := 48) (i := 0) D353_47 rfl rfl rfl ?_
        refine im_ld (q := 49) (i := 0) D353_48 rfl rfl rfl ?_
        refine im_gfR (q := 52) (b := 7004) D353_49 (im_fl cn_353 fl_12_167) sf_6952 rfl rfl tR_12_76 rf_6952_76 ?_
        refine im_bipush (q := 54) D353_52 rfl ?_
        refine im_ld (q := 55) (i := 1) D353_54 rfl rfl rfl ?_
        refine im_imul (q := 56) D353_55 ?_
        refine im_ld (q := 57) (i := 3) D353_56 rfl rfl rfl ?_
        refine im_iadd (q := 58) D353_57 ?_
        refine im_callV (q := 61) (kd := 1) (y := 345) (n := 2) (ci := 12) (a := 6952) (vs := [.ref 6952, .ref 7004, vI ((40 * p1) + p3)]) (r := []) (L2 := [some (.ref 6952), some (.ref 7004), some (vI ((40 * p1) + p3)), none, none, none]) D353_58 (im_cal cn_353 cl_12_825) (Or.inl rfl) rfl sf_6952 rfl rfl rfl rfl hd ⟨rfl, rfl, rfl, trivial⟩ ?_
        refine hP.mono ?_
        rintro _ e27 M22 ⟨x23, rfl, rfl, hP⟩
        refine im_bkS ?_
        refine im_goto (q := 64) (t := 100) D353_61 rfl ?_
        refine im_st1 (q := 102) (i := 4) (L' := [some (.ref 6952), some (vI p1), some (vI p2), some (vI p3), some (vI x23)]) D353_100 (Or.inr rfl) (Nat.le_of_ble_eq_true rfl) rfl ?_
        refine im_ld (q := 103) (i := 0) D353_102 rfl rfl rfl ?_
        refine im_iconst (q := 104) D353_103 ?_
        refine im_pfI (q := 107) D353_104 (im_fl cn_353 fl_12_423) sf_6952 rfl rfl ti_12_4 (by decide) ?_
        refine im_ld (q := 108) (i := 0) D353_107 rfl rfl rfl ?_
        refine im_ld (q := 110) (i := 4) D353_108 rfl rfl rfl ?_
        refine im_callV (q := 113) (kd := 1) (y := 324) (n := 1) (ci := 12) (a := 6952) (vs := [.ref 6952, vI x23]) (r := []) (L2 := [some (.ref 6952), some (vI x23), none]) D353_110 (im_cal cn_353 cl_12_756) (Or.inl rfl) rfl sf_6952 rfl rfl rfl rfl hd ⟨rfl, rfl, trivial⟩ ?_
        refine hP.mono ?_
        rintro _ e26 M24 ⟨rfl, rfl, hP⟩
        refine im_bkN ?_
        refine im_ld (q := 114) (i := 0) D353_113 rfl rfl rfl ?_
        refine im_rng (j := 4) sf_6952 (by decide) (by decide) (fun hr25 => ?_)
        refine im_gfI (q := 117) D353_114 (im_fl cn_353 fl_12_423) sf_6952 rfl rfl tI_12_4 rfl ?_
        exact im_iret (q := 118) D353_117 rfl hP
    · replace hP := hP.2 (Decidable.not_not.mp hc7)
      refine im_ld (q := 26) (i := 0) D353_25 rfl rfl rfl ?_
      refine im_ld (q := 27) (i := 0) D353_26 rfl rfl rfl ?_
      refine im_gfR (q := 30) (b := 7000) D353_27 (im_fl cn_353 fl_12_155) sf_6952 rfl rfl tR_12_72 rf_6952_72 ?_
      refine im_bipush (q := 32) D353_30 rfl ?_
      refine im_ld (q := 33) (i := 1) D353_32 rfl rfl rfl ?_
      refine im_imul (q := 34) D353_33 ?_
      refine im_ld (q := 35) (i := 3) D353_34 rfl rfl rfl ?_
      refine im_iadd (q := 36) D353_35 ?_
      refine im_callV (q := 39) (kd := 1) (y := 345) (n := 2) (ci := 12) (a := 6952) (vs := [.ref 6952, .ref 7000, vI ((40 * p1) + p3)]) (r := []) (L2 := [some (.ref 6952), some (.ref 7000), some (vI ((40 * p1) + p3)), none, none, none]) D353_36 (im_cal cn_353 cl_12_825) (Or.inl rfl) rfl sf_6952 rfl rfl rfl rfl hd ⟨rfl, rfl, rfl, trivial⟩ ?_
      refine hP.mono ?_
      rintro _ e33 M28 ⟨x29, rfl, rfl, hP⟩
      refine im_bkS ?_
      refine im_goto (q := 42) (t := 100) D353_39 rfl ?_
      refine im_st1 (q := 102) (i := 4) (L' := [some (.ref 6952), some (vI p1), some (vI p2), some (vI p3), some (vI x29)]) D353_100 (Or.inr rfl) (Nat.le_of_ble_eq_true rfl) rfl ?_
      refine im_ld (q := 103) (i := 0) D353_102 rfl rfl rfl ?_
      refine im_iconst (q := 104) D353_103 ?_
      refine im_pfI (q := 107) D353_104 (im_fl cn_353 fl_12_423) sf_6952 rfl rfl ti_12_4 (by decide) ?_
      refine im_ld (q := 108) (i := 0) D353_107 rfl rfl rfl ?_
      refine im_ld (q := 110) (i := 4) D353_108 rfl rfl rfl ?_
      refine im_callV (q := 113) (kd := 1) (y := 324) (n := 1) (ci := 12) (a := 6952) (vs := [.ref 6952, vI x29]) (r := []) (L2 := [some (.ref 6952), some (vI x29), none]) D353_110 (im_cal cn_353 cl_12_756) (Or.inl rfl) rfl sf_6952 rfl rfl rfl rfl hd ⟨rfl, rfl, trivial⟩ ?_
      refine hP.mono ?_
      rintro _ e32 M30 ⟨rfl, rfl, hP⟩
      refine im_bkN ?_
      refine im_ld (q := 114) (i := 0) D353_113 rfl rfl rfl ?_
      refine im_rng (j := 4) sf_6952 (by decide) (by decide) (fun hr31 => ?_)
      refine im_gfI (q := 117) D353_114 (im_fl cn_353 fl_12_423) sf_6952 rfl rfl tI_12_4 rfl ?_
      exact im_iret (q := 118) D353_117 rfl hP
  · replace hP := hP.2 (Decidable.not_not.mp hc4)
    refine im_iconst (q := 11) D353_10 ?_
    exact im_iret (q := 12) D353_11 rfl hP
set_option maxRecDepth 20000 in
set_option maxHeartbeats 4000000 in
theorem b_mayEntry_0 {g : im_g} {d : Nat} {e : im_E} {M : im_M} {K : im_K} {p1 p2 p3 : Int} (hd : 1 ≤ d) (hP : (im_i32 p1) ∧ im_T g (d - 1) 268 0 [some (vL p1), none, some (vL 0), none, some (vL 15), none] [] e M (im_ri (fun x3 e_ M2 => e = e_ ∧ (im_i32 p2) ∧ im_T g (d - 1) 268 0 [some (vL p2), none, some (vL 1), none, some (vL 4), none] [] e M2 (im_ri (fun x6 e_ M5 => e = e_ ∧ im_T g (d - 1) 349 0 [some (.ref 6952), some (vI p1)] [] e M5 (im_ri (fun x8 e_ M7 => e = e_ ∧ im_T g (d - 1) 264 0 [some (.ref 6952), some (vI 3), some (vI x3), some (vI x6), some (vI x8)] [] e M7 (im_ri (fun x10 e_ M9 => e = e_ ∧ (im_i32 x10) ∧ ((x10 = 0 → K (.inl (some (vI 0))) e M9) ∧ (¬ x10 = 0 → (im_i32 p3) ∧ im_T g (d - 1) 352 0 [some (.ref 6952), some (vI p1), some (vI p2)] [] e M9 (im_ri (fun x15 e_ M14 => e = e_ ∧ (im_i32 (x15 - 1)) ∧ im_T g (d - 1) 268 0 [some (vL p3), none, some (vL 0), none, some (vL (x15 - 1)), none] [] e M14 (im_ri (fun x18 e_ M17 => e = e_ ∧ im_T g (d - 1) 264 0 [some (.ref 6952), some (vI 3), some (vI x18), some (vI 1), some (vI 1)] [] e M17 (im_ri (fun x20 e_ M19 => e = e_ ∧ (im_i32 x20) ∧ ((x20 = 0 → K (.inl (some (vI 0))) e M19) ∧ (¬ x20 = 0 → K (.inl (some (vI 1))) e M19))))))))))))))))))) : im_T g d 354 0 [some (.ref 6952), some (vI p1), some (vI p2), some (vI p3), none] [] e M K := by
  refine im_ld (q := 1) (i := 0) D354_0 rfl rfl rfl ?_
  refine im_iconst (q := 2) D354_1 ?_
  refine im_ld (q := 3) (i := 1) D354_2 rfl rfl rfl ?_
  obtain ⟨hg1, hP⟩ := hP
  refine im_i2l (q := 4) D354_3 hg1 ?_
  refine im_lconst (q := 5) (z := 0) D354_4 rfl ?_
  refine im_ldc2 (q := 8) (n := 15) D354_5 rfl ?_
  refine im_callS (q := 11) (kd := 0) (y := 268) (n := 3) (z := 12) (vs := [vL p1, vL 0, vL 15]) (r := [vI 3, .ref 6952]) (L2 := [some (vL p1), none, some (vL 0), none, some (vL 15), none]) D354_8 rfl (im_cal cn_354 cl_12_428) (Or.inl rfl) rfl rfl rfl rfl rfl hd ⟨rfl, rfl, rfl, trivial⟩ ?_
  refine hP.mono ?_
  rintro _ e29 M2 ⟨x3, rfl, rfl, hP⟩
  refine im_bkS ?_
  refine im_ld (q := 12) (i := 2) D354_11 rfl rfl rfl ?_
  obtain ⟨hg4, hP⟩ := hP
  refine im_i2l (q := 13) D354_12 hg4 ?_
  refine im_lconst (q := 14) (z := 1) D354_13 rfl ?_
  refine im_ldc2 (q := 17) (n := 4) D354_14 rfl ?_
  refine im_callS (q := 20) (kd := 0) (y := 268) (n := 3) (z := 12) (vs := [vL p2, vL 1, vL 4]) (r := [vI x3, vI 3, .ref 6952]) (L2 := [some (vL p2), none, some (vL 1), none, some (vL 4), none]) D354_17 rfl (im_cal cn_354 cl_12_428) (Or.inl rfl) rfl rfl rfl rfl rfl hd ⟨rfl, rfl, rfl, trivial⟩ ?_
  refine hP.mono ?_
  rintro _ e28 M5 ⟨x6, rfl, rfl, hP⟩
  refine im_bkS ?_
  refine im_ld (q := 21) (i := 0) D354_20 rfl rfl rfl ?_
  refine im_ld (q := 22) (i := 1) D354_21 rfl rfl rfl ?_
  refine im_callV (q := 25) (kd := 1) (y := 349) (n := 1) (ci := 12) (a := 6952) (vs := [.ref 6952, vI p1]) (r := [vI x6, vI x3, vI 3, .ref 6952]) (L2 := [some (.ref 6952), some (vI p1)]) D354_22 (im_cal cn_354 cl_12_840) (Or.inl rfl) rfl sf_6952 rfl rfl rfl rfl hd ⟨rfl, rfl, trivial⟩ ?_
  refine hP.mono ?_
  rintro _ e27 M7 ⟨x8, rfl, rfl, hP⟩
  refine im_bkS ?_
  refine im_callV (q := 28) (kd := 1) (y := 264) (n := 4) (ci := 12) (a := 6952) (vs := [.ref 6952, vI 3, vI x3, vI x6, vI x8]) (r := []) (L2 := [some (.ref 6952), some (vI 3), some (vI x3), some (vI x6), some (vI x8)]) D354_25 (im_cal cn_354 cl_12_419) (Or.inl rfl) rfl sf_6952 rfl rfl rfl rfl hd ⟨rfl, rfl, rfl, rfl, rfl, trivial⟩ ?_
  refine hP.mono ?_
  rintro _ e26 M9 ⟨x10, rfl, rfl, hP⟩
  refine im_bkS ?_
  refine im_st1 (q := 30) (i := 4) (L' := [some (.ref 6952), some (vI p1), some (vI p2), some (vI p3), some (vI x10)]) D354_28 (Or.inr rfl) (Nat.le_of_ble_eq_true rfl) rfl ?_
  refine im_ld (q := 32) (i := 4) D354_30 rfl rfl rfl ?_
  obtain ⟨hg11, hP⟩ := hP
  refine im_ifc (q := 35) (t := 64) D354_32 rfl hg11 (fun hc12 => ?_) (fun hc12 => ?_)
  · replace hP := hP.1 hc12
    refine im_iconst (q := 65) D354_64 ?_
    exact im_zret (q := 66) D354_65 rfl (by decide) hP
  · replace hP := hP.2 hc12
    refine im_ld (q := 36) (i := 0) D354_35 rfl rfl rfl ?_
    refine im_iconst (q := 37) D354_36 ?_
    refine im_ld (q := 38) (i := 3) D354_37 rfl rfl rfl ?_
    obtain ⟨hg13, hP⟩ := hP
    refine im_i2l (q := 39) D354_38 hg13 ?_
    refine im_lconst (q := 40) (z := 0) D354_39 rfl ?_
    refine im_ld (q := 41) (i := 0) D354_40 rfl rfl rfl ?_
    refine im_ld (q := 42) (i := 1) D354_41 rfl rfl rfl ?_
    refine im_ld (q := 43) (i := 2) D354_42 rfl rfl rfl ?_
    refine im_callV (q := 46) (kd := 1) (y := 352) (n := 2) (ci := 12) (a := 6952) (vs := [.ref 6952, vI p1, vI p2]) (r := [vL 0, vL p3, vI 3, .ref 6952]) (L2 := [some (.ref 6952), some (vI p1), some (vI p2)]) D354_43 (im_cal cn_354 cl_12_848) (Or.inl rfl) rfl sf_6952 rfl rfl rfl rfl hd ⟨rfl, rfl, rfl, trivial⟩ ?_
    refine hP.mono ?_
    rintro _ e25 M14 ⟨x15, rfl, rfl, hP⟩
    refine im_bkS ?_
    refine im_iconst (q := 47) D354_46 ?_
    refine im_isub (q := 48) D354_47 ?_
    obtain ⟨hg16, hP⟩ := hP
    refine im_i2l (q := 49) D354_48 hg16 ?_
    refine im_callS (q := 52) (kd := 0) (y := 268) (n := 3) (z := 12) (vs := [vL p3, vL 0, vL (x15 - 1)]) (r := [vI 3, .ref 6952]) (L2 := [some (vL p3), none, some (vL 0), none, some (vL (x15 - 1)), none]) D354_49 rfl (im_cal cn_354 cl_12_428) (Or.inl rfl) rfl rfl rfl rfl rfl hd ⟨rfl, rfl, rfl, trivial⟩ ?_
    refine hP.mono ?_
    rintro _ e24 M17 ⟨x18, rfl, rfl, hP⟩
    refine im_bkS ?_
    refine im_iconst (q := 53) D354_52 ?_
    refine im_iconst (q := 54) D354_53 ?_
    refine im_callV (q := 57) (kd := 1) (y := 264) (n := 4) (ci := 12) (a := 6952) (vs := [.ref 6952, vI 3, vI x18, vI 1, vI 1]) (r := []) (L2 := [some (.ref 6952), some (vI 3), some (vI x18), some (vI 1), some (vI 1)]) D354_54 (im_cal cn_354 cl_12_419) (Or.inl rfl) rfl sf_6952 rfl rfl rfl rfl hd ⟨rfl, rfl, rfl, rfl, rfl, trivial⟩ ?_
    refine hP.mono ?_
    rintro _ e23 M19 ⟨x20, rfl, rfl, hP⟩
    refine im_bkS ?_
    obtain ⟨hg21, hP⟩ := hP
    refine im_ifc (q := 60) (t := 64) D354_57 rfl hg21 (fun hc22 => ?_) (fun hc22 => ?_)
    · replace hP := hP.1 hc22
      refine im_iconst (q := 65) D354_64 ?_
      exact im_zret (q := 66) D354_65 rfl (by decide) hP
    · replace hP := hP.2 hc22
      refine im_iconst (q := 61) D354_60 ?_
      refine im_goto (q := 64) (t := 65) D354_61 rfl ?_
      exact im_zret (q := 66) D354_65 rfl (by decide) hP
set_option maxRecDepth 20000 in
set_option maxHeartbeats 4000000 in
theorem b_name_0 {g : im_g} {d : Nat} {e : im_E} {M : im_M} {K : im_K} {p1 p2 p3 p4 : Int} (hd : 1 ≤ d) (hP : im_T g (d - 1) 354 0 [some (.ref 6952), some (vI p1), some (vI p2), some (vI p3), none] [] e M (im_ri (fun x2 e_ M1 => e = e_ ∧ (im_i32 x2) ∧ ((¬ x2 = 0 → (im_i32 p2) ∧ ((p2 = 1 → (im_i32 p4) ∧ ((((p4 = 0 → (0 ≤ ((40 * p1) + p3) ∧ ((40 * p1) + p3) < 640)) ∧ (¬ p4 = 0 → (0 ≤ ((40 * p1) + p3) ∧ ((40 * p1) + p3) < 640)))) ∧ (∀ x12 : Int, (((p4 = 0) ∧ x12 = (M1 6998 ((40 * p1) + p3))) ∨ ((¬ p4 = 0) ∧ x12 = (M1 6999 ((40 * p1) + p3)))) → K (.inl (some (vL x12))) e M1))) ∧ (p2 = 2 → (im_i32 p4) ∧ ((((p4 = 0 → (0 ≤ ((40 * p1) + p3) ∧ ((40 * p1) + p3) < 640)) ∧ (¬ p4 = 0 → (0 ≤ ((40 * p1) + p3) ∧ ((40 * p1) + p3) < 640)))) ∧ (∀ x23 : Int, (((p4 = 0) ∧ x23 = (M1 7002 ((40 * p1) + p3))) ∨ ((¬ p4 = 0) ∧ x23 = (M1 7003 ((40 * p1) + p3)))) → K (.inl (some (vL x23))) e M1))) ∧ (p2 = 3 → (im_i32 p4) ∧ ((((p4 = 0 → (0 ≤ ((40 * p1) + p3) ∧ ((40 * p1) + p3) < 640)))) ∧ (∀ x32 : Int, (((p4 = 0) ∧ x32 = (M1 7006 ((40 * p1) + p3))) ∨ ((¬ p4 = 0) ∧ x32 = 0)) → K (.inl (some (vL x32))) e M1))) ∧ (p2 < 1 ∨ 3 < p2 → (im_i32 p4) ∧ ((((p4 = 0 → (0 ≤ ((20 * p1) + p3) ∧ ((20 * p1) + p3) < 320)))) ∧ (∀ x41 : Int, (((p4 = 0) ∧ x41 = (M1 7009 ((20 * p1) + p3))) ∨ ((¬ p4 = 0) ∧ x41 = 0)) → K (.inl (some (vL x41))) e M1))))) ∧ (x2 = 0 → K (.inl (some (vL 0))) e M1))))) : im_T g d 355 0 [some (.ref 6952), some (vI p1), some (vI p2), some (vI p3), some (vI p4), none] [] e M K := by
  refine im_ld (q := 1) (i := 0) D355_0 rfl rfl rfl ?_
  refine im_ld (q := 2) (i := 1) D355_1 rfl rfl rfl ?_
  refine im_ld (q := 3) (i := 2) D355_2 rfl rfl rfl ?_
  refine im_ld (q := 4) (i := 3) D355_3 rfl rfl rfl ?_
  refine im_callV (q := 7) (kd := 1) (y := 354) (n := 3) (ci := 12) (a := 6952) (vs := [.ref 6952, vI p1, vI p2, vI p3]) (r := []) (L2 := [some (.ref 6952), some (vI p1), some (vI p2), some (vI p3), none]) D355_4 (im_cal cn_355 cl_12_851) (Or.inl rfl) rfl sf_6952 rfl rfl rfl rfl hd ⟨rfl, rfl, rfl, rfl, trivial⟩ ?_
  refine hP.mono ?_
  rintro _ e46 M1 ⟨x2, rfl, rfl, hP⟩
  refine im_bkS ?_
  obtain ⟨hg3, hP⟩ := hP
  refine im_ifc (q := 10) (t := 12) D355_7 rfl hg3 (fun hc4 => ?_) (fun hc4 => ?_)
  · replace hP := hP.1 hc4
    refine im_bipush (q := 14) D355_12 rfl ?_
    refine im_ld (q := 15) (i := 1) D355_14 rfl rfl rfl ?_
    refine im_imul (q := 16) D355_15 ?_
    refine im_ld (q := 17) (i := 3) D355_16 rfl rfl rfl ?_
    refine im_iadd (q := 18) D355_17 ?_
    refine im_st1 (q := 20) (i := 5) (L' := [some (.ref 6952), some (vI p1), some (vI p2), some (vI p3), some (vI p4), some (vI ((40 * p1) + p3))]) D355_18 (Or.inr rfl) (Nat.le_of_ble_eq_true rfl) rfl ?_
    refine im_ld (q := 21) (i := 2) D355_20 rfl rfl rfl ?_
    obtain ⟨hg5, hP⟩ := hP
    by_cases hc16 : p2 = 1
    · refine im_tsw (q := 22) (t := 48) D355_21 hg5 (fun _ => by rcases hc16 with hc16 <;> (rw [hc16]; rfl)) (by rcases hc16 with hc16 <;> (rw [hc16]; rfl)) ?_
      replace hP := hP.1 hc16
      refine im_ld (q := 50) (i := 4) D355_48 rfl rfl rfl ?_
      obtain ⟨hg6, hP⟩ := hP
      obtain ⟨hP, hJ13⟩ := hP
      have kJ14 : ∀ x12 : Int, (((p4 = 0) ∧ x12 = (M1 6998 ((40 * p1) + p3))) ∨ ((¬ p4 = 0) ∧ x12 = (M1 6999 ((40 * p1) + p3)))) → im_T g d 355 70 [none, none, none, none, none, none] [vL x12] e M1 K := by
        intro x12 hx15
        have hP := hJ13 x12 hx15
        exact im_lret (q := 71) D355_70 rfl hP
      refine im_ifc (q := 53) (t := 63) D355_50 rfl hg6 (fun hc7 => ?_) (fun hc7 => ?_)
      · replace hP := hP.1 hc7
        refine im_ld (q := 64) (i := 0) D355_63 rfl rfl rfl ?_
        refine im_gfR (q := 67) (b := 6998) D355_64 (im_fl cn_355 fl_12_148) sf_6952 rfl rfl tR_12_70 rf_6952_70 ?_
        refine im_ld (q := 69) (i := 5) D355_67 rfl rfl rfl ?_
        have hg8 := hP
        refine im_rng (j := ((40 * p1) + p3)) sf_6998 hg8.1 hg8.2 (fun hr9 => ?_)
        refine im_lald (q := 70) D355_69 sf_6998 hg8.1 hg8.2 (by decide) rfl ?_
        exact (kJ14 ((M1 6998 ((40 * p1) + p3))) (Or.inl ⟨hc7, rfl⟩)).wk trivial
      · replace hP := hP.2 hc7
        refine im_ld (q := 54) (i := 0) D355_53 rfl rfl rfl ?_
        refine im_gfR (q := 57) (b := 6999) D355_54 (im_fl cn_355 fl_12_151) sf_6952 rfl rfl tR_12_71 rf_6952_71 ?_
        refine im_ld (q := 59) (i := 5) D355_57 rfl rfl rfl ?_
        have hg10 := hP
        refine im_rng (j := ((40 * p1) + p3)) sf_6999 hg10.1 hg10.2 (fun hr11 => ?_)
        refine im_lald (q := 60) D355_59 sf_6999 hg10.1 hg10.2 (by decide) rfl ?_
        refine im_goto (q := 63) (t := 70) D355_60 rfl ?_
        exact (kJ14 ((M1 6999 ((40 * p1) + p3))) (Or.inr ⟨hc7, rfl⟩)).wk trivial
    by_cases hc27 : p2 = 2
    · refine im_tsw (q := 22) (t := 71) D355_21 hg5 (fun _ => by rcases hc27 with hc27 <;> (rw [hc27]; rfl)) (by rcases hc27 with hc27 <;> (rw [hc27]; rfl)) ?_
      replace hP := hP.2.1 hc27
      refine im_ld (q := 73) (i := 4) D355_71 rfl rfl rfl ?_
      obtain ⟨hg17, hP⟩ := hP
      obtain ⟨hP, hJ24⟩ := hP
      have kJ25 : ∀ x23 : Int, (((p4 = 0) ∧ x23 = (M1 7002 ((40 * p1) + p3))) ∨ ((¬ p4 = 0) ∧ x23 = (M1 7003 ((40 * p1) + p3)))) → im_T g d 355 93 [none, none, none, none, none, none] [vL x23] e M1 K := by
        intro x23 hx26
        have hP := hJ24 x23 hx26
        exact im_lret (q := 94) D355_93 rfl hP
      refine im_ifc (q := 76) (t := 86) D355_73 rfl hg17 (fun hc18 => ?_) (fun hc18 => ?_)
      · replace hP := hP.1 hc18
        refine im_ld (q := 87) (i := 0) D355_86 rfl rfl rfl ?_
        refine im_gfR (q := 90) (b := 7002) D355_87 (im_fl cn_355 fl_12_161) sf_6952 rfl rfl tR_12_74 rf_6952_74 ?_
        refine im_ld (q := 92) (i := 5) D355_90 rfl rfl rfl ?_
        have hg19 := hP
        refine im_rng (j := ((40 * p1) + p3)) sf_7002 hg19.1 hg19.2 (fun hr20 => ?_)
        refine im_lald (q := 93) D355_92 sf_7002 hg19.1 hg19.2 (by decide) rfl ?_
        exact (kJ25 ((M1 7002 ((40 * p1) + p3))) (Or.inl ⟨hc18, rfl⟩)).wk trivial
      · replace hP := hP.2 hc18
        refine im_ld (q := 77) (i := 0) D355_76 rfl rfl rfl ?_
        refine im_gfR (q := 80) (b := 7003) D355_77 (im_fl cn_355 fl_12_164) sf_6952 rfl rfl tR_12_75 rf_6952_75 ?_
        refine im_ld (q := 82) (i := 5) D355_80 rfl rfl rfl ?_
        have hg21 := hP
        refine im_rng (j := ((40 * p1) + p3)) sf_7003 hg21.1 hg21.2 (fun hr22 => ?_)
        refine im_lald (q := 83) D355_82 sf_7003 hg21.1 hg21.2 (by decide) rfl ?_
        refine im_goto (q := 86) (t := 93) D355_83 rfl ?_
        exact (kJ25 ((M1 7003 ((40 * p1) + p3))) (Or.inr ⟨hc18, rfl⟩)).wk trivial
    by_cases hc36 : p2 = 3
    · refine im_tsw (q := 22) (t := 94) D355_21 hg5 (fun _ => by rcases hc36 with hc36 <;> (rw [hc36]; rfl)) (by rcases hc36 with hc36 <;> (rw [hc36]; rfl)) ?_
      replace hP := hP.2.2.1 hc36
      refine im_ld (q := 96) (i := 4) D355_94 rfl rfl rfl ?_
      obtain ⟨hg28, hP⟩ := hP
      obtain ⟨hP, hJ33⟩ := hP
      have kJ34 : ∀ x32 : Int, (((p4 = 0) ∧ x32 = (M1 7006 ((40 * p1) + p3))) ∨ ((¬ p4 = 0) ∧ x32 = 0)) → im_T g d 355 110 [none, none, none, none, none, none] [vL x32] e M1 K := by
        intro x32 hx35
        have hP := hJ33 x32 hx35
        exact im_lret (q := 111) D355_110 rfl hP
      refine im_ifc (q := 99) (t := 103) D355_96 rfl hg28 (fun hc29 => ?_) (fun hc29 => ?_)
      · replace hP := hP hc29
        refine im_ld (q := 104) (i := 0) D355_103 rfl rfl rfl ?_
        refine im_gfR (q := 107) (b := 7006) D355_104 (im_fl cn_355 fl_12_173) sf_6952 rfl rfl tR_12_78 rf_6952_78 ?_
        refine im_ld (q := 109) (i := 5) D355_107 rfl rfl rfl ?_
        have hg30 := hP
        refine im_rng (j := ((40 * p1) + p3)) sf_7006 hg30.1 hg30.2 (fun hr31 => ?_)
        refine im_lald (q := 110) D355_109 sf_7006 hg30.1 hg30.2 (by decide) rfl ?_
        exact (kJ34 ((M1 7006 ((40 * p1) + p3))) (Or.inl ⟨hc29, rfl⟩)).wk trivial
      · refine im_lconst (q := 100) (z := 0) D355_99 rfl ?_
        refine im_goto (q := 103) (t := 110) D355_100 rfl ?_
        exact (kJ34 (0) (Or.inr ⟨hc29, rfl⟩)).wk trivial
    have hd45 : p2 < 1 ∨ 3 < p2 := by omega
    refine im_tsw (q := 22) (t := 111) D355_21 hg5 (fun z9 => absurd hd45 z9) (by rw [if_pos hd45]; rfl) ?_
    replace hP := hP.2.2.2 hd45
    refine im_ld (q := 113) (i := 4) D355_111 rfl rfl rfl ?_
    obtain ⟨hg37, hP⟩ := hP
    obtain ⟨hP, hJ42⟩ := hP
    have kJ43 : ∀ x41 : Int, (((p4 = 0) ∧ x41 = (M1 7009 ((20 * p1) + p3))) ∨ ((¬ p4 = 0) ∧ x41 = 0)) → im_T g d 355 131 [none, none, none, none, none, none] [vL x41] e M1 K := by
      intro x41 hx44
      have hP := hJ42 x41 hx44
      exact im_lret (q := 132) D355_131 rfl hP
    refine im_ifc (q := 116) (t := 120) D355_113 rfl hg37 (fun hc38 => ?_) (fun hc38 => ?_)
    · replace hP := hP hc38
      refine im_ld (q := 121) (i := 0) D355_120 rfl rfl rfl ?_
      refine im_gfR (q := 124) (b := 7009) D355_121 (im_fl cn_355 fl_12_182) sf_6952 rfl rfl tR_12_81 rf_6952_81 ?_
      refine im_bipush (q := 126) D355_124 rfl ?_
      refine im_ld (q := 127) (i := 1) D355_126 rfl rfl rfl ?_
      refine im_imul (q := 128) D355_127 ?_
      refine im_ld (q := 129) (i := 3) D355_128 rfl rfl rfl ?_
      refine im_iadd (q := 130) D355_129 ?_
      have hg39 := hP
      refine im_rng (j := ((20 * p1) + p3)) sf_7009 hg39.1 hg39.2 (fun hr40 => ?_)
      refine im_lald (q := 131) D355_130 sf_7009 hg39.1 hg39.2 (by decide) rfl ?_
      exact (kJ43 ((M1 7009 ((20 * p1) + p3))) (Or.inl ⟨hc38, rfl⟩)).wk trivial
    · refine im_lconst (q := 117) (z := 0) D355_116 rfl ?_
      refine im_goto (q := 120) (t := 131) D355_117 rfl ?_
      exact (kJ43 (0) (Or.inr ⟨hc38, rfl⟩)).wk trivial
  · replace hP := hP.2 (Decidable.not_not.mp hc4)
    refine im_lconst (q := 11) (z := 0) D355_10 rfl ?_
    exact im_lret (q := 12) D355_11 rfl hP
set_option maxRecDepth 20000 in
set_option maxHeartbeats 4000000 in
theorem b_transact_0 {g : im_g} {d : Nat} {e : im_E} {M : im_M} {K : im_K} {p1 p2 p4 : Int} (hd : 1 ≤ d) (hP : (((M 6952 180) = 0 → im_T g (d - 1) 271 0 [some (.ref 6952), none] [] e M (im_r0 (fun  e_ M3 => e = e_ ∧ (im_i32 p1) ∧ im_T g (d - 1) 268 0 [some (vL p1), none, some (vL 0), none, some (vL 15), none] [] e M3 (im_ri (fun x6 e_ M5 => e = e_ ∧ im_T g (d - 1) 349 0 [some (.ref 6952), some (vI p1)] [] e M5 (im_ri (fun x8 e_ M7 => e = e_ ∧ im_T g (d - 1) 264 0 [some (.ref 6952), some (vI 2), some (vI x6), some (vI x8), some (vI 1)] [] e M7 (im_ri (fun x10 e_ M9 => e = e_ ∧ (im_i32 x10) ∧ ((¬ x10 = 0 → im_T g (d - 1) 357 0 [some (.ref 6952), some (vI p1), some (vL p2), none, some (vL p4), none] [] e M9 (im_ri (fun x14 e_ M13 => e = e_ ∧ (im_i32 x14) ∧ ((¬ x14 = 0 → ((¬ x14 = (-100) → ((0 ≤ x14 → im_T g (d - 1) 413 0 [some (.ref 6952), some (vI p1)] [] e M13 (im_ri (fun x20 e_ M19 => e = e_ ∧ K (.inl (some (vI x20))) e M19))) ∧ (x14 < 0 → K (.inl (some (vI x14))) e M13))) ∧ (x14 = (-100) → K (.inl (some (vI 0))) e (im_u M13 6952 0 2)))) ∧ (x14 = 0 → im_T g (d - 1) 307 0 [some (.ref 6952), some (vI 6), some (vI 3), some (vL p1), none, some (vL p2), none, some (vL p4), none, some (vI 1), none, none, none, none] [] e M13 (im_ri (fun x23 e_ M22 => e = e_ ∧ (im_i32 x23) ∧ ((¬ x23 = (-100) → ((0 ≤ x23 → im_T g (d - 1) 413 0 [some (.ref 6952), some (vI p1)] [] e M22 (im_ri (fun x28 e_ M27 => e = e_ ∧ K (.inl (some (vI x28))) e M27))) ∧ (x23 < 0 → K (.inl (some (vI x23))) e M22))) ∧ (x23 = (-100) → K (.inl (some (vI 0))) e (im_u M22 6952 0 2)))))))))) ∧ (x10 = 0 → K (.inl (some (vI 0))) e M9))))))))))) ∧ (¬ (M 6952 180) = 0 → K (.inl (some (vI 0))) e (im_u M 6952 0 2)))) : im_T g d 356 0 [some (.ref 6952), some (vI p1), some (vL p2), none, some (vL p4), none, none] [] e M K := by
  refine im_ld (q := 1) (i := 0) D356_0 rfl rfl rfl ?_
  refine im_rng (j := 180) sf_6952 (by decide) (by decide) (fun hr1 => ?_)
  refine im_gfI (q := 4) D356_1 (im_fl cn_356 fl_12_412) sf_6952 rfl rfl tI_12_180 rfl ?_
  refine im_ifc (q := 7) (t := 14) D356_4 rfl (im_z32 hr1) (fun hc2 => ?_) (fun hc2 => ?_)
  · replace hP := hP.1 hc2
    refine im_ld (q := 15) (i := 0) D356_14 rfl rfl rfl ?_
    refine im_callV (q := 18) (kd := 1) (y := 271) (n := 0) (ci := 12) (a := 6952) (vs := [.ref 6952]) (r := []) (L2 := [some (.ref 6952), none]) D356_15 (im_cal cn_356 cl_12_734) (Or.inl rfl) rfl sf_6952 rfl rfl rfl rfl hd ⟨rfl, trivial⟩ ?_
    refine hP.mono ?_
    rintro _ e35 M3 ⟨rfl, rfl, hP⟩
    refine im_bkN ?_
    refine im_ld (q := 19) (i := 0) D356_18 rfl rfl rfl ?_
    refine im_iconst (q := 20) D356_19 ?_
    refine im_ld (q := 21) (i := 1) D356_20 rfl rfl rfl ?_
    obtain ⟨hg4, hP⟩ := hP
    refine im_i2l (q := 22) D356_21 hg4 ?_
    refine im_lconst (q := 23) (z := 0) D356_22 rfl ?_
    refine im_ldc2 (q := 26) (n := 15) D356_23 rfl ?_
    refine im_callS (q := 29) (kd := 0) (y := 268) (n := 3) (z := 12) (vs := [vL p1, vL 0, vL 15]) (r := [vI 2, .ref 6952]) (L2 := [some (vL p1), none, some (vL 0), none, some (vL 15), none]) D356_26 rfl (im_cal cn_356 cl_12_428) (Or.inl rfl) rfl rfl rfl rfl rfl hd ⟨rfl, rfl, rfl, trivial⟩ ?_
    refine hP.mono ?_
    rintro _ e34 M5 ⟨x6, rfl, rfl, hP⟩
    refine im_bkS ?_
    refine im_ld (q := 30) (i := 0) D356_29 rfl rfl rfl ?_
    refine im_ld (q := 31) (i := 1) D356_30 rfl rfl rfl ?_
    refine im_callV (q := 34) (kd := 1) (y := 349) (n := 1) (ci := 12) (a := 6952) (vs := [.ref 6952, vI p1]) (r := [vI x6, vI 2, .ref 6952]) (L2 := [some (.ref 6952), some (vI p1)]) D356_31 (im_cal cn_356 cl_12_840) (Or.inl rfl) rfl sf_6952 rfl rfl rfl rfl hd ⟨rfl, rfl, trivial⟩ ?_
    refine hP.mono ?_
    rintro _ e33 M7 ⟨x8, rfl, rfl, hP⟩
    refine im_bkS ?_
    refine im_iconst (q := 35) D356_34 ?_
    refine im_callV (q := 38) (kd := 1) (y := 264) (n := 4) (ci := 12) (a := 6952) (vs := [.ref 6952, vI 2, vI x6, vI x8, vI 1]) (r := []) (L2 := [some (.ref 6952), some (vI 2), some (vI x6), some (vI x8), some (vI 1)]) D356_35 (im_cal cn_356 cl_12_419) (Or.inl rfl) rfl sf_6952 rfl rfl rfl rfl hd ⟨rfl, rfl, rfl, rfl, rfl, trivial⟩ ?_
    refine hP.mono ?_
    rintro _ e32 M9 ⟨x10, rfl, rfl, hP⟩
    refine im_bkS ?_
    obtain ⟨hg11, hP⟩ := hP
    refine im_ifc (q := 41) (t := 43) D356_38 rfl hg11 (fun hc12 => ?_) (fun hc12 => ?_)
    · replace hP := hP.1 hc12
      refine im_ld (q := 44) (i := 0) D356_43 rfl rfl rfl ?_
      refine im_ld (q := 45) (i := 1) D356_44 rfl rfl rfl ?_
      refine im_ld (q := 46) (i := 2) D356_45 rfl rfl rfl ?_
      refine im_ld (q := 48) (i := 4) D356_46 rfl rfl rfl ?_
      refine im_callV (q := 51) (kd := 1) (y := 357) (n := 3) (ci := 12) (a := 6952) (vs := [.ref 6952, vI p1, vL p2, vL p4]) (r := []) (L2 := [some (.ref 6952), some (vI p1), some (vL p2), none, some (vL p4), none]) D356_48 (im_cal cn_356 cl_12_1062) (Or.inl rfl) rfl sf_6952 rfl rfl rfl rfl hd ⟨rfl, rfl, rfl, rfl, trivial⟩ ?_
      refine hP.mono ?_
      rintro _ e31 M13 ⟨x14, rfl, rfl, hP⟩
      refine im_bkS ?_
      refine im_st1 (q := 53) (i := 6) (L' := [some (.ref 6952), some (vI p1), some (vL p2), none, some (vL p4), none, some (vI x14)]) D356_51 (Or.inr rfl) (Nat.le_of_ble_eq_true rfl) rfl ?_
      refine im_ld (q := 55) (i := 6) D356_53 rfl rfl rfl ?_
      obtain ⟨hg15, hP⟩ := hP
      refine im_ifc (q := 58) (t := 73) D356_55 rfl hg15 (fun hc16 => ?_) (fun hc16 => ?_)
      · replace hP := hP.1 hc16
        refine im_ld (q := 75) (i := 6) D356_73 rfl rfl rfl ?_
        refine im_bipush (q := 77) D356_75 rfl ?_
        refine im_icmp (q := 80) (t := 87) D356_77 rfl hg15 (by decide) (fun hc17 => ?_) (fun hc17 => ?_)
        · replace hP := hP.1 hc17
          refine im_ld (q := 89) (i := 6) D356_87 rfl rfl rfl ?_
          refine im_ifc (q := 92) (t := 97) D356_89 rfl hg15 (fun hc18 => ?_) (fun hc18 => ?_)
          · replace hP := hP.1 hc18
            refine im_ld (q := 98) (i := 0) D356_97 rfl rfl rfl ?_
            refine im_ld (q := 99) (i := 1) D356_98 rfl rfl rfl ?_
            refine im_callV (q := 102) (kd := 1) (y := 413) (n := 1) (ci := 12) (a := 6952) (vs := [.ref 6952, vI p1]) (r := []) (L2 := [some (.ref 6952), some (vI p1)]) D356_99 (im_cal cn_356 cl_12_1066) (Or.inl rfl) rfl sf_6952 rfl rfl rfl rfl hd ⟨rfl, rfl, trivial⟩ ?_
            refine hP.mono ?_
            rintro _ e21 M19 ⟨x20, rfl, rfl, hP⟩
            refine im_bkS ?_
            exact im_iret (q := 103) D356_102 rfl hP
          · replace hP := hP.2 (Int.not_le.mp hc18)
            refine im_ld (q := 94) (i := 6) D356_92 rfl rfl rfl ?_
            refine im_goto (q := 97) (t := 102) D356_94 rfl ?_
            exact im_iret (q := 103) D356_102 rfl hP
        · replace hP := hP.2 (Decidable.not_not.mp hc17)
          refine im_ld (q := 81) (i := 0) D356_80 rfl rfl rfl ?_
          refine im_iconst (q := 82) D356_81 ?_
          refine im_pfI (q := 85) D356_82 (im_fl cn_356 fl_12_409) sf_6952 rfl rfl ti_12_0 (by decide) ?_
          refine im_iconst (q := 86) D356_85 ?_
          exact im_iret (q := 87) D356_86 rfl hP
      · replace hP := hP.2 (Decidable.not_not.mp hc16)
        refine im_ld (q := 59) (i := 0) D356_58 rfl rfl rfl ?_
        refine im_bipush (q := 61) D356_59 rfl ?_
        refine im_iconst (q := 62) D356_61 ?_
        refine im_ld (q := 63) (i := 1) D356_62 rfl rfl rfl ?_
        refine im_i2l (q := 64) D356_63 hg4 ?_
        refine im_ld (q := 65) (i := 2) D356_64 rfl rfl rfl ?_
        refine im_ld (q := 67) (i := 4) D356_65 rfl rfl rfl ?_
        refine im_iconst (q := 68) D356_67 ?_
        refine im_callV (q := 71) (kd := 1) (y := 307) (n := 6) (ci := 12) (a := 6952) (vs := [.ref 6952, vI 6, vI 3, vL p1, vL p2, vL p4, vI 1]) (r := []) (L2 := [some (.ref 6952), some (vI 6), some (vI 3), some (vL p1), none, some (vL p2), none, some (vL p4), none, some (vI 1), none, none, none, none]) D356_68 (im_cal cn_356 cl_12_740) (Or.inl rfl) rfl sf_6952 rfl rfl rfl rfl hd ⟨rfl, rfl, rfl, rfl, rfl, rfl, rfl, trivial⟩ ?_
        refine hP.mono ?_
        rintro _ e30 M22 ⟨x23, rfl, rfl, hP⟩
        refine im_bkS ?_
        refine im_st1 (q := 73) (i := 6) (L' := [some (.ref 6952), some (vI p1), some (vL p2), none, some (vL p4), none, some (vI x23)]) D356_71 (Or.inr rfl) (Nat.le_of_ble_eq_true rfl) rfl ?_
        refine im_ld (q := 75) (i := 6) D356_73 rfl rfl rfl ?_
        refine im_bipush (q := 77) D356_75 rfl ?_
        obtain ⟨hg24, hP⟩ := hP
        refine im_icmp (q := 80) (t := 87) D356_77 rfl hg24 (by decide) (fun hc25 => ?_) (fun hc25 => ?_)
        · replace hP := hP.1 hc25
          refine im_ld (q := 89) (i := 6) D356_87 rfl rfl rfl ?_
          refine im_ifc (q := 92) (t := 97) D356_89 rfl hg24 (fun hc26 => ?_) (fun hc26 => ?_)
          · replace hP := hP.1 hc26
            refine im_ld (q := 98) (i := 0) D356_97 rfl rfl rfl ?_
            refine im_ld (q := 99) (i := 1) D356_98 rfl rfl rfl ?_
            refine im_callV (q := 102) (kd := 1) (y := 413) (n := 1) (ci := 12) (a := 6952) (vs := [.ref 6952, vI p1]) (r := []) (L2 := [some (.ref 6952), some (vI p1)]) D356_99 (im_cal cn_356 cl_12_1066) (Or.inl rfl) rfl sf_6952 rfl rfl rfl rfl hd ⟨rfl, rfl, trivial⟩ ?_
            refine hP.mono ?_
            rintro _ e29 M27 ⟨x28, rfl, rfl, hP⟩
            refine im_bkS ?_
            exact im_iret (q := 103) D356_102 rfl hP
          · replace hP := hP.2 (Int.not_le.mp hc26)
            refine im_ld (q := 94) (i := 6) D356_92 rfl rfl rfl ?_
            refine im_goto (q := 97) (t := 102) D356_94 rfl ?_
            exact im_iret (q := 103) D356_102 rfl hP
        · replace hP := hP.2 (Decidable.not_not.mp hc25)
          refine im_ld (q := 81) (i := 0) D356_80 rfl rfl rfl ?_
          refine im_iconst (q := 82) D356_81 ?_
          refine im_pfI (q := 85) D356_82 (im_fl cn_356 fl_12_409) sf_6952 rfl rfl ti_12_0 (by decide) ?_
          refine im_iconst (q := 86) D356_85 ?_
          exact im_iret (q := 87) D356_86 rfl hP
    · replace hP := hP.2 (Decidable.not_not.mp hc12)
      refine im_iconst (q := 42) D356_41 ?_
      exact im_iret (q := 43) D356_42 rfl hP
  · replace hP := hP.2 hc2
    refine im_ld (q := 8) (i := 0) D356_7 rfl rfl rfl ?_
    refine im_iconst (q := 9) D356_8 ?_
    refine im_pfI (q := 12) D356_9 (im_fl cn_356 fl_12_409) sf_6952 rfl rfl ti_12_0 (by decide) ?_
    refine im_iconst (q := 13) D356_12 ?_
    exact im_iret (q := 14) D356_13 rfl hP
set_option maxRecDepth 20000 in
set_option maxHeartbeats 4000000 in
theorem b_tryTransact_0 {g : im_g} {d : Nat} {e : im_E} {M : im_M} {K : im_K} {p1 p2 p4 : Int} (hd : 1 ≤ d) (hP : im_T g (d - 1) 349 0 [some (.ref 6952), some (vI p1)] [] e M (im_ri (fun x2 e_ M1 => e = e_ ∧ (im_i32 x2) ∧ ((¬ x2 = 0 → im_T g (d - 1) 358 0 [some (.ref 6952), none] [] e M1 (im_r0 (fun  e_ M5 => e = e_ ∧ (((M5 6952 19) ≤ 0 → im_T g (d - 1) 361 0 [some (.ref 6952), some (vI p1), none] [] e M5 (im_r0 (fun  e_ M8 => e = e_ ∧ im_T g (d - 1) 362 0 [some (.ref 6952), none] [] e M8 (im_r0 (fun  e_ M9 => e = e_ ∧ im_T g (d - 1) 363 0 [some (.ref 6952), some (vL p2), none, some (vL p4), none, none, none] [] e (im_u M9 6952 102 0) (im_ri (fun x11 e_ M10 => e = e_ ∧ K (.inl (some (vI x11))) e M10))))))) ∧ (0 < (M5 6952 19) → K (.inl (some (vI (-1)))) e M5))))) ∧ (x2 = 0 → K (.inl (some (vI (-101)))) e M1))))) : im_T g d 357 0 [some (.ref 6952), some (vI p1), some (vL p2), none, some (vL p4), none] [] e M K := by
  refine im_ld (q := 1) (i := 0) D357_0 rfl rfl rfl ?_
  refine im_ld (q := 2) (i := 1) D357_1 rfl rfl rfl ?_
  refine im_callV (q := 5) (kd := 1) (y := 349) (n := 1) (ci := 12) (a := 6952) (vs := [.ref 6952, vI p1]) (r := []) (L2 := [some (.ref 6952), some (vI p1)]) D357_2 (im_cal cn_357 cl_12_840) (Or.inl rfl) rfl sf_6952 rfl rfl rfl rfl hd ⟨rfl, rfl, trivial⟩ ?_
  refine hP.mono ?_
  rintro _ e16 M1 ⟨x2, rfl, rfl, hP⟩
  refine im_bkS ?_
  obtain ⟨hg3, hP⟩ := hP
  refine im_ifc (q := 8) (t := 11) D357_5 rfl hg3 (fun hc4 => ?_) (fun hc4 => ?_)
  · replace hP := hP.1 hc4
    refine im_ld (q := 12) (i := 0) D357_11 rfl rfl rfl ?_
    refine im_callV (q := 15) (kd := 1) (y := 358) (n := 0) (ci := 12) (a := 6952) (vs := [.ref 6952]) (r := []) (L2 := [some (.ref 6952), none]) D357_12 (im_cal cn_357 cl_12_1041) (Or.inl rfl) rfl sf_6952 rfl rfl rfl rfl hd ⟨rfl, trivial⟩ ?_
    refine hP.mono ?_
    rintro _ e15 M5 ⟨rfl, rfl, hP⟩
    refine im_bkN ?_
    refine im_ld (q := 16) (i := 0) D357_15 rfl rfl rfl ?_
    refine im_rng (j := 19) sf_6952 (by decide) (by decide) (fun hr6 => ?_)
    refine im_gfI (q := 19) D357_16 (im_fl cn_357 fl_12_403) sf_6952 rfl rfl tI_12_19 rfl ?_
    refine im_ifc (q := 22) (t := 24) D357_19 rfl hr6 (fun hc7 => ?_) (fun hc7 => ?_)
    · replace hP := hP.1 hc7
      refine im_ld (q := 25) (i := 0) D357_24 rfl rfl rfl ?_
      refine im_ld (q := 26) (i := 1) D357_25 rfl rfl rfl ?_
      refine im_callV (q := 29) (kd := 1) (y := 361) (n := 1) (ci := 12) (a := 6952) (vs := [.ref 6952, vI p1]) (r := []) (L2 := [some (.ref 6952), some (vI p1), none]) D357_26 (im_cal cn_357 cl_12_1044) (Or.inl rfl) rfl sf_6952 rfl rfl rfl rfl hd ⟨rfl, rfl, trivial⟩ ?_
      refine hP.mono ?_
      rintro _ e14 M8 ⟨rfl, rfl, hP⟩
      refine im_bkN ?_
      refine im_ld (q := 30) (i := 0) D357_29 rfl rfl rfl ?_
      refine im_callV (q := 33) (kd := 1) (y := 362) (n := 0) (ci := 12) (a := 6952) (vs := [.ref 6952]) (r := []) (L2 := [some (.ref 6952), none]) D357_30 (im_cal cn_357 cl_12_1047) (Or.inl rfl) rfl sf_6952 rfl rfl rfl rfl hd ⟨rfl, trivial⟩ ?_
      refine hP.mono ?_
      rintro _ e13 M9 ⟨rfl, rfl, hP⟩
      refine im_bkN ?_
      refine im_ld (q := 34) (i := 0) D357_33 rfl rfl rfl ?_
      refine im_iconst (q := 35) D357_34 ?_
      refine im_pfZ (q := 38) D357_35 (im_fl cn_357 fl_12_941) sf_6952 rfl rfl tz_12_102 (by decide) ?_
      refine im_ld (q := 39) (i := 0) D357_38 rfl rfl rfl ?_
      refine im_ld (q := 40) (i := 2) D357_39 rfl rfl rfl ?_
      refine im_ld (q := 42) (i := 4) D357_40 rfl rfl rfl ?_
      refine im_callV (q := 45) (kd := 1) (y := 363) (n := 2) (ci := 12) (a := 6952) (vs := [.ref 6952, vL p2, vL p4]) (r := []) (L2 := [some (.ref 6952), some (vL p2), none, some (vL p4), none, none, none]) D357_42 (im_cal cn_357 cl_12_1050) (Or.inl rfl) rfl sf_6952 rfl rfl rfl rfl hd ⟨rfl, rfl, rfl, trivial⟩ ?_
      refine hP.mono ?_
      rintro _ e12 M10 ⟨x11, rfl, rfl, hP⟩
      refine im_bkS ?_
      exact im_iret (q := 46) D357_45 rfl hP
    · replace hP := hP.2 (Int.not_le.mp hc7)
      refine im_iconst (q := 23) D357_22 ?_
      exact im_iret (q := 24) D357_23 rfl hP
  · replace hP := hP.2 (Decidable.not_not.mp hc4)
    refine im_bipush (q := 10) D357_8 rfl ?_
    exact im_iret (q := 11) D357_10 rfl hP
set_option maxRecDepth 20000 in
set_option maxHeartbeats 4000000 in
theorem b_readInputs_0 {g : im_g} {d : Nat} {e : im_E} {M : im_M} {K : im_K} (hd : 1 ≤ d) (hP : im_T g (d - 1) 274 0 [some (.ref 6952)] [] e M (im_r0 (fun  e_ M1 => e = e_ ∧ im_T g (d - 1) 277 0 [some (.ref 6952), none] [] e (im_u M1 6952 46 0) (im_r0 (fun  e_ M2 => e = e_ ∧ im_T g d 358 13 [some (.ref 6952), none] [] e M2 K))))) : im_T g d 358 0 [some (.ref 6952), none] [] e M K := by
  refine im_ld (q := 1) (i := 0) D358_0 rfl rfl rfl ?_
  refine im_callV (q := 4) (kd := 1) (y := 274) (n := 0) (ci := 12) (a := 6952) (vs := [.ref 6952]) (r := []) (L2 := [some (.ref 6952)]) D358_1 (im_cal cn_358 cl_12_707) (Or.inl rfl) rfl sf_6952 rfl rfl rfl rfl hd ⟨rfl, trivial⟩ ?_
  refine hP.mono ?_
  rintro _ e4 M1 ⟨rfl, rfl, hP⟩
  refine im_bkN ?_
  refine im_ld (q := 5) (i := 0) D358_4 rfl rfl rfl ?_
  refine im_iconst (q := 6) D358_5 ?_
  refine im_pfI (q := 9) D358_6 (im_fl cn_358 fl_12_723) sf_6952 rfl rfl ti_12_46 (by decide) ?_
  refine im_ld (q := 10) (i := 0) D358_9 rfl rfl rfl ?_
  refine im_callV (q := 13) (kd := 1) (y := 277) (n := 0) (ci := 12) (a := 6952) (vs := [.ref 6952]) (r := []) (L2 := [some (.ref 6952), none]) D358_10 (im_cal cn_358 cl_12_620) (Or.inl rfl) rfl sf_6952 rfl rfl rfl rfl hd ⟨rfl, trivial⟩ ?_
  refine hP.mono ?_
  rintro _ e3 M2 ⟨rfl, rfl, hP⟩
  refine im_bkN ?_
  exact hP.wk ⟨rfl, trivial⟩
set_option maxRecDepth 20000 in
set_option maxHeartbeats 4000000 in
theorem b_readInputs_13 {g : im_g} {d : Nat} {e : im_E} {M : im_M} {K : im_K} (hd : 1 ≤ d) (hP : ((((((M 6952 19) = 0) ∧ (¬ (M 6952 15) = 0) ∧ ((M 6952 15) = 2) ∧ ((M 6952 18) = 28259031251642740)) ∨ (((M 6952 19) = 0) ∧ (¬ (M 6952 15) = 0) ∧ ((M 6952 15) = 2) ∧ (¬ (M 6952 18) = 28259031251642740) ∧ ((M 6952 18) = 109300196926309)) ∨ (((M 6952 19) = 0) ∧ (¬ (M 6952 15) = 0) ∧ ((M 6952 15) = 2) ∧ (¬ (M 6952 18) = 28259031251642740) ∧ (¬ (M 6952 18) = 109300196926309) ∧ ((M 6952 18) = 121424973489785))) → ((¬ (M 6952 46) = 40 → im_T g (d - 1) 359 0 [some (.ref 6952), some (vI (M 6952 46))] [] e M (im_r0 (fun  e_ M20 => e = e_ ∧ (im_i32 ((M20 6952 46) + 1)) ∧ ((¬ (M20 6952 19) = 0 → im_T g d 358 13 [some (.ref 6952), none] [] e (im_u M20 6952 46 ((M20 6952 46) + 1)) K) ∧ ((M20 6952 19) = 0 → im_T g (d - 1) 277 0 [some (.ref 6952), none] [] e (im_u M20 6952 46 ((M20 6952 46) + 1)) (im_r0 (fun  e_ M25 => e = e_ ∧ im_T g d 358 13 [some (.ref 6952), none] [] e M25 K))))))) ∧ ((M 6952 46) = 40 → im_T g (d - 1) 286 0 [some (.ref 6952), some (vI 9)] [] e M (im_r0 (fun  e_ M28 => e = e_ ∧ im_T g d 358 13 [some (.ref 6952), none] [] e M28 K))))) ∧ (((((M 6952 19) = 0) ∧ (¬ (M 6952 15) = 0) ∧ (¬ (M 6952 15) = 2)) ∨ (((M 6952 19) = 0) ∧ (¬ (M 6952 15) = 0) ∧ ((M 6952 15) = 2) ∧ (¬ (M 6952 18) = 28259031251642740) ∧ (¬ (M 6952 18) = 109300196926309) ∧ (¬ (M 6952 18) = 121424973489785))) → im_T g (d - 1) 285 0 [some (.ref 6952)] [] e M (im_r0 (fun  e_ M34 => e = e_ ∧ im_T g d 358 13 [some (.ref 6952), none] [] e M34 K))) ∧ ((((¬ (M 6952 19) = 0)) ∨ (((M 6952 19) = 0) ∧ ((M 6952 15) = 0))) → K (.inl none) e M))) : im_T g d 358 13 [some (.ref 6952), none] [] e M K := by
  refine im_ld (q := 14) (i := 0) D358_13 rfl rfl rfl ?_
  refine im_rng (j := 19) sf_6952 (by decide) (by decide) (fun hr1 => ?_)
  refine im_gfI (q := 17) D358_14 (im_fl cn_358 fl_12_403) sf_6952 rfl rfl tI_12_19 rfl ?_
  obtain ⟨hJ13, hJ30, hJ36⟩ := hP
  have kJ14 : ((((M 6952 19) = 0) ∧ (¬ (M 6952 15) = 0) ∧ ((M 6952 15) = 2) ∧ ((M 6952 18) = 28259031251642740)) ∨ (((M 6952 19) = 0) ∧ (¬ (M 6952 15) = 0) ∧ ((M 6952 15) = 2) ∧ (¬ (M 6952 18) = 28259031251642740) ∧ ((M 6952 18) = 109300196926309)) ∨ (((M 6952 19) = 0) ∧ (¬ (M 6952 15) = 0) ∧ ((M 6952 15) = 2) ∧ (¬ (M 6952 18) = 28259031251642740) ∧ (¬ (M 6952 18) = 109300196926309) ∧ ((M 6952 18) = 121424973489785))) → im_T g d 358 68 [some (.ref 6952), none] [] e M K := by
    intro  hx15
    have hP := hJ13  hx15
    refine im_iconst (q := 69) D358_68 ?_
    refine im_goto (q := 72) (t := 73) D358_69 rfl ?_
    refine im_st1 (q := 74) (i := 1) (L' := [some (.ref 6952), some (vI 1)]) D358_73 (Or.inl ⟨_, rfl, rfl⟩) (Nat.le_of_ble_eq_true rfl) rfl ?_
    refine im_ld (q := 75) (i := 1) D358_74 rfl rfl rfl ?_
    refine im_ifc (q := 78) (t := 85) D358_75 rfl (by decide) (fun _ => ?_) (fun hc => absurd (show ¬ (1 : Int) = 0 by decide) hc)
    refine im_ld (q := 86) (i := 0) D358_85 rfl rfl rfl ?_
    refine im_rng (j := 46) sf_6952 (by decide) (by decide) (fun hr17 => ?_)
    refine im_gfI (q := 89) D358_86 (im_fl cn_358 fl_12_723) sf_6952 rfl rfl tI_12_46 rfl ?_
    refine im_bipush (q := 91) D358_89 rfl ?_
    refine im_icmp (q := 94) (t := 103) D358_91 rfl hr17 (by decide) (fun hc18 => ?_) (fun hc18 => ?_)
    · replace hP := hP.1 hc18
      refine im_ld (q := 104) (i := 0) D358_103 rfl rfl rfl ?_
      refine im_ld (q := 105) (i := 0) D358_104 rfl rfl rfl ?_
      refine im_gfI (q := 108) D358_105 (im_fl cn_358 fl_12_723) sf_6952 rfl rfl tI_12_46 rfl ?_
      refine im_callV (q := 111) (kd := 1) (y := 359) (n := 1) (ci := 12) (a := 6952) (vs := [.ref 6952, vI (M 6952 46)]) (r := []) (L2 := [some (.ref 6952), some (vI (M 6952 46))]) D358_108 (im_cal cn_358 cl_12_726) (Or.inl rfl) rfl sf_6952 rfl rfl rfl rfl hd ⟨rfl, rfl, trivial⟩ ?_
      refine hP.mono ?_
      rintro _ e27 M20 ⟨rfl, rfl, hP⟩
      refine im_bkN ?_
      refine im_ld (q := 112) (i := 0) D358_111 rfl rfl rfl ?_
      refine im_dup (q := 113) D358_112 rfl ?_
      refine im_rng (j := 46) sf_6952 (by decide) (by decide) (fun hr21 => ?_)
      refine im_gfI (q := 116) D358_113 (im_fl cn_358 fl_12_723) sf_6952 rfl rfl tI_12_46 rfl ?_
      refine im_iconst (q := 117) D358_116 ?_
      refine im_iadd (q := 118) D358_117 ?_
      obtain ⟨hg22, hP⟩ := hP
      refine im_pfI (q := 121) D358_118 (im_fl cn_358 fl_12_723) sf_6952 rfl rfl ti_12_46 hg22 ?_
      refine im_ld (q := 122) (i := 0) D358_121 rfl rfl rfl ?_
      refine im_rng (j := 19) sf_6952 (by decide) (by decide) (fun hr23 => ?_)
      refine im_gfI (q := 125) D358_122 (im_fl cn_358 fl_12_403) sf_6952 rfl rfl tI_12_19 (im_rdk _ _ _ (by decide)) ?_
      refine im_ifc (q := 128) (t := 132) D358_125 rfl (im_rgc hr23 (im_rdk _ _ _ (by decide))) (fun hc24 => ?_) (fun hc24 => ?_)
      · replace hP := hP.1 hc24
        refine im_goto (q := 135) (t := 13) D358_132 rfl ?_
        exact hP.wk ⟨rfl, trivial⟩
      · replace hP := hP.2 (Decidable.not_not.mp hc24)
        refine im_ld (q := 129) (i := 0) D358_128 rfl rfl rfl ?_
        refine im_callV (q := 132) (kd := 1) (y := 277) (n := 0) (ci := 12) (a := 6952) (vs := [.ref 6952]) (r := []) (L2 := [some (.ref 6952), none]) D358_129 (im_cal cn_358 cl_12_620) (Or.inl rfl) rfl sf_6952 rfl rfl rfl rfl hd ⟨rfl, trivial⟩ ?_
        refine hP.mono ?_
        rintro _ e26 M25 ⟨rfl, rfl, hP⟩
        refine im_bkN ?_
        refine im_goto (q := 135) (t := 13) D358_132 rfl ?_
        exact hP.wk ⟨rfl, trivial⟩
    · replace hP := hP.2 (Decidable.not_not.mp hc18)
      refine im_ld (q := 95) (i := 0) D358_94 rfl rfl rfl ?_
      refine im_bipush (q := 97) D358_95 rfl ?_
      refine im_callV (q := 100) (kd := 1) (y := 286) (n := 1) (ci := 12) (a := 6952) (vs := [.ref 6952, vI 9]) (r := []) (L2 := [some (.ref 6952), some (vI 9)]) D358_97 (im_cal cn_358 cl_12_614) (Or.inl rfl) rfl sf_6952 rfl rfl rfl rfl hd ⟨rfl, rfl, trivial⟩ ?_
      refine hP.mono ?_
      rintro _ e29 M28 ⟨rfl, rfl, hP⟩
      refine im_bkN ?_
      refine im_goto (q := 103) (t := 132) D358_100 rfl ?_
      refine im_goto (q := 135) (t := 13) D358_132 rfl ?_
      exact hP.wk ⟨rfl, trivial⟩
  have kJ31 : ((((M 6952 19) = 0) ∧ (¬ (M 6952 15) = 0) ∧ (¬ (M 6952 15) = 2)) ∨ (((M 6952 19) = 0) ∧ (¬ (M 6952 15) = 0) ∧ ((M 6952 15) = 2) ∧ (¬ (M 6952 18) = 28259031251642740) ∧ (¬ (M 6952 18) = 109300196926309) ∧ (¬ (M 6952 18) = 121424973489785))) → im_T g d 358 72 [some (.ref 6952), none] [] e M K := by
    intro  hx32
    have hP := hJ30  hx32
    refine im_iconst (q := 73) D358_72 ?_
    refine im_st1 (q := 74) (i := 1) (L' := [some (.ref 6952), some (vI 0)]) D358_73 (Or.inl ⟨_, rfl, rfl⟩) (Nat.le_of_ble_eq_true rfl) rfl ?_
    refine im_ld (q := 75) (i := 1) D358_74 rfl rfl rfl ?_
    refine im_ifc (q := 78) (t := 85) D358_75 rfl (by decide) (fun hc => absurd hc (show ¬ (¬ (0 : Int) = 0) by decide)) (fun _ => ?_)
    refine im_ld (q := 79) (i := 0) D358_78 rfl rfl rfl ?_
    refine im_callV (q := 82) (kd := 1) (y := 285) (n := 0) (ci := 12) (a := 6952) (vs := [.ref 6952]) (r := []) (L2 := [some (.ref 6952)]) D358_79 (im_cal cn_358 cl_12_639) (Or.inl rfl) rfl sf_6952 rfl rfl rfl rfl hd ⟨rfl, trivial⟩ ?_
    refine hP.mono ?_
    rintro _ e35 M34 ⟨rfl, rfl, hP⟩
    refine im_bkN ?_
    refine im_goto (q := 85) (t := 132) D358_82 rfl ?_
    refine im_goto (q := 135) (t := 13) D358_132 rfl ?_
    exact hP.wk ⟨rfl, trivial⟩
  have kJ37 : (((¬ (M 6952 19) = 0)) ∨ (((M 6952 19) = 0) ∧ ((M 6952 15) = 0))) → im_T g d 358 135 [none, none] [] e M K := by
    intro  hx38
    have hP := hJ36  hx38
    exact im_vret (q := 136) D358_135 rfl hP
  refine im_ifc (q := 20) (t := 135) D358_17 rfl hr1 (fun hc2 => ?_) (fun hc2 => ?_)
  · exact (kJ37  (Or.inl hc2)).wk trivial
  · refine im_ld (q := 21) (i := 0) D358_20 rfl rfl rfl ?_
    refine im_rng (j := 15) sf_6952 (by decide) (by decide) (fun hr3 => ?_)
    refine im_gfI (q := 24) D358_21 (im_fl cn_358 fl_12_591) sf_6952 rfl rfl tI_12_15 rfl ?_
    refine im_ifc (q := 27) (t := 135) D358_24 rfl hr3 (fun hc4 => ?_) (fun hc4 => ?_)
    · exact (kJ37  (Or.inr ⟨(Decidable.not_not.mp hc2), hc4⟩)).wk trivial
    · refine im_ld (q := 28) (i := 0) D358_27 rfl rfl rfl ?_
      refine im_gfI (q := 31) D358_28 (im_fl cn_358 fl_12_591) sf_6952 rfl rfl tI_12_15 rfl ?_
      refine im_iconst (q := 32) D358_31 ?_
      refine im_icmp (q := 35) (t := 72) D358_32 rfl hr3 (by decide) (fun hc6 => ?_) (fun hc6 => ?_)
      · exact (kJ31  (Or.inl ⟨(Decidable.not_not.mp hc2), hc4, hc6⟩)).wk ⟨rfl, trivial⟩
      · refine im_ld (q := 36) (i := 0) D358_35 rfl rfl rfl ?_
        refine im_rng (j := 18) sf_6952 (by decide) (by decide) (fun hr7 => ?_)
        refine im_gfL (q := 39) D358_36 (im_fl cn_358 fl_12_597) sf_6952 rfl rfl tL_12_18 rfl ?_
        refine im_ldc2 (q := 42) (n := 28259031251642740) D358_39 rfl ?_
        refine im_lif (q := 43) (q2 := 46) (t := 68) D358_42 D358_43 rfl hr7 (by decide) (fun hc8 => ?_) (fun hc8 => ?_)
        · exact (kJ14  (Or.inl ⟨(Decidable.not_not.mp hc2), hc4, (Decidable.not_not.mp hc6), hc8⟩)).wk ⟨rfl, trivial⟩
        · refine im_ld (q := 47) (i := 0) D358_46 rfl rfl rfl ?_
          refine im_gfL (q := 50) D358_47 (im_fl cn_358 fl_12_597) sf_6952 rfl rfl tL_12_18 rfl ?_
          refine im_ldc2 (q := 53) (n := 109300196926309) D358_50 rfl ?_
          refine im_lif (q := 54) (q2 := 57) (t := 68) D358_53 D358_54 rfl hr7 (by decide) (fun hc10 => ?_) (fun hc10 => ?_)
          · exact (kJ14  (Or.inr (Or.inl ⟨(Decidable.not_not.mp hc2), hc4, (Decidable.not_not.mp hc6), hc8, hc10⟩))).wk ⟨rfl, trivial⟩
          · refine im_ld (q := 58) (i := 0) D358_57 rfl rfl rfl ?_
            refine im_gfL (q := 61) D358_58 (im_fl cn_358 fl_12_597) sf_6952 rfl rfl tL_12_18 rfl ?_
            refine im_ldc2 (q := 64) (n := 121424973489785) D358_61 rfl ?_
            refine im_lif (q := 65) (q2 := 68) (t := 72) D358_64 D358_65 rfl hr7 (by decide) (fun hc12 => ?_) (fun hc12 => ?_)
            · exact (kJ31  (Or.inr ⟨(Decidable.not_not.mp hc2), hc4, (Decidable.not_not.mp hc6), hc8, hc10, hc12⟩)).wk ⟨rfl, trivial⟩
            · exact (kJ14  (Or.inr (Or.inr ⟨(Decidable.not_not.mp hc2), hc4, (Decidable.not_not.mp hc6), hc8, hc10, (Decidable.not_not.mp hc12)⟩))).wk ⟨rfl, trivial⟩
set_option maxRecDepth 20000 in
set_option maxHeartbeats 4000000 in
theorem b_readInput_0 {g : im_g} {d : Nat} {e : im_E} {M : im_M} {K : im_K} {p1 : Int} (hd : 1 ≤ d) (hP : ((∀ x5 : Int, (((¬ (M 6952 18) = 28259031251642740) ∧ (¬ (M 6952 18) = 109300196926309) ∧ x5 = 10) ∨ ((¬ (M 6952 18) = 28259031251642740) ∧ ((M 6952 18) = 109300196926309) ∧ x5 = 9) ∨ (((M 6952 18) = 28259031251642740) ∧ x5 = 8)) → (0 ≤ p1 ∧ p1 < 40) ∧ im_T g (d - 1) 282 0 [some (.ref 6952)] [] e (im_u M 6979 p1 x5) (im_r0 (fun  e_ M10 => e = e_ ∧ ((¬ (M10 6979 p1) = 10 → im_T g (d - 1) 360 0 [some (.ref 6952), none, none] [] e M10 (im_rl (fun x14 e_ M13 => e = e_ ∧ (im_i64 x14) ∧ im_T g (d - 1) 360 0 [some (.ref 6952), none, none] [] e (im_u M13 6980 p1 x14) (im_rl (fun x17 e_ M16 => e = e_ ∧ (im_i64 x17) ∧ ((¬ (M16 6979 p1) = 8 → (((M16 6952 19) ≤ 0 → im_T g (d - 1) 277 0 [some (.ref 6952), none] [] e (im_u (im_u M16 6981 p1 x17) 6982 p1 0) (im_r0 (fun  e_ M23 => e = e_ ∧ ((¬ (M23 6952 15) = 1 → im_T g (d - 1) 285 0 [some (.ref 6952)] [] e M23 (im_r0 (fun  e_ M26 => e = e_ ∧ K (.inl none) e M26))) ∧ ((M23 6952 15) = 1 → im_T g (d - 1) 291 0 [some (.ref 6952), none, none, none, none] [] e M23 (im_ri (fun x29 e_ M28 => e = e_ ∧ (im_i32 x29) ∧ im_T g (d - 1) 282 0 [some (.ref 6952)] [] e (im_u M28 6983 p1 x29) (im_r0 (fun  e_ M31 => e = e_ ∧ K (.inl none) e M31))))))))) ∧ (0 < (M16 6952 19) → K (.inl none) e (im_u (im_u M16 6981 p1 x17) 6982 p1 0)))) ∧ ((M16 6979 p1) = 8 → im_T g (d - 1) 360 0 [some (.ref 6952), none, none] [] e (im_u M16 6981 p1 x17) (im_rl (fun x36 e_ M35 => e = e_ ∧ (im_i64 x36) ∧ (((M35 6952 19) ≤ 0 → im_T g (d - 1) 277 0 [some (.ref 6952), none] [] e (im_u M35 6982 p1 x36) (im_r0 (fun  e_ M40 => e = e_ ∧ ((¬ (M40 6952 15) = 1 → im_T g (d - 1) 285 0 [some (.ref 6952)] [] e M40 (im_r0 (fun  e_ M43 => e = e_ ∧ K (.inl none) e M43))) ∧ ((M40 6952 15) = 1 → im_T g (d - 1) 291 0 [some (.ref 6952), none, none, none, none] [] e M40 (im_ri (fun x46 e_ M45 => e = e_ ∧ (im_i32 x46) ∧ im_T g (d - 1) 282 0 [some (.ref 6952)] [] e (im_u M45 6983 p1 x46) (im_r0 (fun  e_ M48 => e = e_ ∧ K (.inl none) e M48))))))))) ∧ (0 < (M35 6952 19) → K (.inl none) e (im_u M35 6982 p1 x36)))))))))))) ∧ ((M10 6979 p1) = 10 → K (.inl none) e M10))))))) : im_T g d 359 0 [some (.ref 6952), some (vI p1)] [] e M K := by
  refine im_ld (q := 1) (i := 0) D359_0 rfl rfl rfl ?_
  refine im_gfR (q := 4) (b := 6979) D359_1 (im_fl cn_359 fl_12_91) sf_6952 rfl rfl tR_12_47 rf_6952_47 ?_
  refine im_ld (q := 5) (i := 1) D359_4 rfl rfl rfl ?_
  refine im_ld (q := 6) (i := 0) D359_5 rfl rfl rfl ?_
  refine im_rng (j := 18) sf_6952 (by decide) (by decide) (fun hr1 => ?_)
  refine im_gfL (q := 9) D359_6 (im_fl cn_359 fl_12_597) sf_6952 rfl rfl tL_12_18 rfl ?_
  refine im_ldc2 (q := 12) (n := 28259031251642740) D359_9 rfl ?_
  have hJ6 := hP
  have kJ7 : ∀ x5 : Int, (((¬ (M 6952 18) = 28259031251642740) ∧ (¬ (M 6952 18) = 109300196926309) ∧ x5 = 10) ∨ ((¬ (M 6952 18) = 28259031251642740) ∧ ((M 6952 18) = 109300196926309) ∧ x5 = 9) ∨ (((M 6952 18) = 28259031251642740) ∧ x5 = 8)) → im_T g d 359 39 [some (.ref 6952), some (vI p1)] [vI x5, vI p1, .ref 6979] e M K := by
    intro x5 hx8
    have hP := hJ6 x5 hx8
    obtain ⟨hg9, hP⟩ := hP
    refine im_iast (q := 40) D359_39 sf_6979 hg9.1 hg9.2 (by decide) (by omega) ?_
    refine im_ld (q := 41) (i := 0) D359_40 rfl rfl rfl ?_
    refine im_callV (q := 44) (kd := 1) (y := 282) (n := 0) (ci := 12) (a := 6952) (vs := [.ref 6952]) (r := []) (L2 := [some (.ref 6952)]) D359_41 (im_cal cn_359 cl_12_649) (Or.inl rfl) rfl sf_6952 rfl rfl rfl rfl hd ⟨rfl, trivial⟩ ?_
    refine hP.mono ?_
    rintro _ e55 M10 ⟨rfl, rfl, hP⟩
    refine im_bkN ?_
    refine im_ld (q := 45) (i := 0) D359_44 rfl rfl rfl ?_
    refine im_gfR (q := 48) (b := 6979) D359_45 (im_fl cn_359 fl_12_91) sf_6952 rfl rfl tR_12_47 rf_6952_47 ?_
    refine im_ld (q := 49) (i := 1) D359_48 rfl rfl rfl ?_
    refine im_rng (j := p1) sf_6979 hg9.1 hg9.2 (fun hr11 => ?_)
    refine im_iald (q := 50) D359_49 sf_6979 hg9.1 hg9.2 (by decide) rfl ?_
    refine im_bipush (q := 52) D359_50 rfl ?_
    refine im_icmp (q := 55) (t := 56) D359_52 rfl hr11 (by decide) (fun hc12 => ?_) (fun hc12 => ?_)
    · replace hP := hP.1 hc12
      refine im_ld (q := 57) (i := 0) D359_56 rfl rfl rfl ?_
      refine im_gfR (q := 60) (b := 6980) D359_57 (im_fl cn_359 fl_12_94) sf_6952 rfl rfl tR_12_48 rf_6952_48 ?_
      refine im_ld (q := 61) (i := 1) D359_60 rfl rfl rfl ?_
      refine im_ld (q := 62) (i := 0) D359_61 rfl rfl rfl ?_
      refine im_callV (q := 65) (kd := 1) (y := 360) (n := 0) (ci := 12) (a := 6952) (vs := [.ref 6952]) (r := [vI p1, .ref 6980]) (L2 := [some (.ref 6952), none, none]) D359_62 (im_cal cn_359 cl_12_719) (Or.inl rfl) rfl sf_6952 rfl rfl rfl rfl hd ⟨rfl, trivial⟩ ?_
      refine hP.mono ?_
      rintro _ e54 M13 ⟨x14, rfl, rfl, hP⟩
      refine im_bkS ?_
      obtain ⟨hg15, hP⟩ := hP
      refine im_last (q := 66) D359_65 sf_6980 hg9.1 hg9.2 (by decide) hg15 ?_
      refine im_ld (q := 67) (i := 0) D359_66 rfl rfl rfl ?_
      refine im_gfR (q := 70) (b := 6981) D359_67 (im_fl cn_359 fl_12_97) sf_6952 rfl rfl tR_12_49 rf_6952_49 ?_
      refine im_ld (q := 71) (i := 1) D359_70 rfl rfl rfl ?_
      refine im_ld (q := 72) (i := 0) D359_71 rfl rfl rfl ?_
      refine im_callV (q := 75) (kd := 1) (y := 360) (n := 0) (ci := 12) (a := 6952) (vs := [.ref 6952]) (r := [vI p1, .ref 6981]) (L2 := [some (.ref 6952), none, none]) D359_72 (im_cal cn_359 cl_12_719) (Or.inl rfl) rfl sf_6952 rfl rfl rfl rfl hd ⟨rfl, trivial⟩ ?_
      refine hP.mono ?_
      rintro _ e53 M16 ⟨x17, rfl, rfl, hP⟩
      refine im_bkS ?_
      obtain ⟨hg18, hP⟩ := hP
      refine im_last (q := 76) D359_75 sf_6981 hg9.1 hg9.2 (by decide) hg18 ?_
      refine im_ld (q := 77) (i := 0) D359_76 rfl rfl rfl ?_
      refine im_gfR (q := 80) (b := 6982) D359_77 (im_fl cn_359 fl_12_100) sf_6952 rfl rfl tR_12_50 rf_6952_50 ?_
      refine im_ld (q := 81) (i := 1) D359_80 rfl rfl rfl ?_
      refine im_ld (q := 82) (i := 0) D359_81 rfl rfl rfl ?_
      refine im_gfR (q := 85) (b := 6979) D359_82 (im_fl cn_359 fl_12_91) sf_6952 rfl rfl tR_12_47 rf_6952_47 ?_
      refine im_ld (q := 86) (i := 1) D359_85 rfl rfl rfl ?_
      refine im_rng (j := p1) sf_6979 hg9.1 hg9.2 (fun hr19 => ?_)
      refine im_iald (q := 87) D359_86 sf_6979 hg9.1 hg9.2 (by decide) (im_rdn _ _ _ _ (by decide)) ?_
      refine im_bipush (q := 89) D359_87 rfl ?_
      refine im_icmp (q := 92) (t := 99) D359_89 rfl (im_rgc hr19 (im_rdn _ _ _ _ (by decide))) (by decide) (fun hc20 => ?_) (fun hc20 => ?_)
      · replace hP := hP.1 hc20
        refine im_lconst (q := 100) (z := 0) D359_99 rfl ?_
        refine im_last (q := 101) D359_100 sf_6982 hg9.1 hg9.2 (by decide) (by decide) ?_
        refine im_ld (q := 102) (i := 0) D359_101 rfl rfl rfl ?_
        refine im_rng (j := 19) sf_6952 (by decide) (by decide) (fun hr21 => ?_)
        refine im_gfI (q := 105) D359_102 (im_fl cn_359 fl_12_403) sf_6952 rfl rfl tI_12_19 ((im_rdn _ _ _ _ (by decide)).trans (im_rdn _ _ _ _ (by decide))) ?_
        refine im_ifc (q := 108) (t := 109) D359_105 rfl (im_rgc hr21 ((im_rdn _ _ _ _ (by decide)).trans (im_rdn _ _ _ _ (by decide)))) (fun hc22 => ?_) (fun hc22 => ?_)
        · replace hP := hP.1 hc22
          refine im_ld (q := 110) (i := 0) D359_109 rfl rfl rfl ?_
          refine im_callV (q := 113) (kd := 1) (y := 277) (n := 0) (ci := 12) (a := 6952) (vs := [.ref 6952]) (r := []) (L2 := [some (.ref 6952), none]) D359_110 (im_cal cn_359 cl_12_620) (Or.inl rfl) rfl sf_6952 rfl rfl rfl rfl hd ⟨rfl, trivial⟩ ?_
          refine hP.mono ?_
          rintro _ e34 M23 ⟨rfl, rfl, hP⟩
          refine im_bkN ?_
          refine im_ld (q := 114) (i := 0) D359_113 rfl rfl rfl ?_
          refine im_rng (j := 15) sf_6952 (by decide) (by decide) (fun hr24 => ?_)
          refine im_gfI (q := 117) D359_114 (im_fl cn_359 fl_12_591) sf_6952 rfl rfl tI_12_15 rfl ?_
          refine im_iconst (q := 118) D359_117 ?_
          refine im_icmp (q := 121) (t := 138) D359_118 rfl hr24 (by decide) (fun hc25 => ?_) (fun hc25 => ?_)
          · replace hP := hP.1 hc25
            refine im_ld (q := 139) (i := 0) D359_138 rfl rfl rfl ?_
            refine im_callV (q := 142) (kd := 1) (y := 285) (n := 0) (ci := 12) (a := 6952) (vs := [.ref 6952]) (r := []) (L2 := [some (.ref 6952)]) D359_139 (im_cal cn_359 cl_12_639) (Or.inl rfl) rfl sf_6952 rfl rfl rfl rfl hd ⟨rfl, trivial⟩ ?_
            refine hP.mono ?_
            rintro _ e27 M26 ⟨rfl, rfl, hP⟩
            refine im_bkN ?_
            exact im_vret (q := 143) D359_142 rfl hP
          · replace hP := hP.2 (Decidable.not_not.mp hc25)
            refine im_ld (q := 122) (i := 0) D359_121 rfl rfl rfl ?_
            refine im_gfR (q := 125) (b := 6983) D359_122 (im_fl cn_359 fl_12_103) sf_6952 rfl rfl tR_12_51 rf_6952_51 ?_
            refine im_ld (q := 126) (i := 1) D359_125 rfl rfl rfl ?_
            refine im_ld (q := 127) (i := 0) D359_126 rfl rfl rfl ?_
            refine im_callV (q := 130) (kd := 1) (y := 291) (n := 0) (ci := 12) (a := 6952) (vs := [.ref 6952]) (r := [vI p1, .ref 6983]) (L2 := [some (.ref 6952), none, none, none, none]) D359_127 (im_cal cn_359 cl_12_659) (Or.inl rfl) rfl sf_6952 rfl rfl rfl rfl hd ⟨rfl, trivial⟩ ?_
            refine hP.mono ?_
            rintro _ e33 M28 ⟨x29, rfl, rfl, hP⟩
            refine im_bkS ?_
            obtain ⟨hg30, hP⟩ := hP
            refine im_iast (q := 131) D359_130 sf_6983 hg9.1 hg9.2 (by decide) hg30 ?_
            refine im_ld (q := 132) (i := 0) D359_131 rfl rfl rfl ?_
            refine im_callV (q := 135) (kd := 1) (y := 282) (n := 0) (ci := 12) (a := 6952) (vs := [.ref 6952]) (r := []) (L2 := [some (.ref 6952)]) D359_132 (im_cal cn_359 cl_12_649) (Or.inl rfl) rfl sf_6952 rfl rfl rfl rfl hd ⟨rfl, trivial⟩ ?_
            refine hP.mono ?_
            rintro _ e32 M31 ⟨rfl, rfl, hP⟩
            refine im_bkN ?_
            refine im_goto (q := 138) (t := 142) D359_135 rfl ?_
            exact im_vret (q := 143) D359_142 rfl hP
        · replace hP := hP.2 (Int.not_le.mp hc22)
          exact im_vret (q := 109) D359_108 rfl hP
      · replace hP := hP.2 (Decidable.not_not.mp hc20)
        refine im_ld (q := 93) (i := 0) D359_92 rfl rfl rfl ?_
        refine im_callV (q := 96) (kd := 1) (y := 360) (n := 0) (ci := 12) (a := 6952) (vs := [.ref 6952]) (r := [vI p1, .ref 6982]) (L2 := [some (.ref 6952), none, none]) D359_93 (im_cal cn_359 cl_12_719) (Or.inl rfl) rfl sf_6952 rfl rfl rfl rfl hd ⟨rfl, trivial⟩ ?_
        refine hP.mono ?_
        rintro _ e52 M35 ⟨x36, rfl, rfl, hP⟩
        refine im_bkS ?_
        refine im_goto (q := 99) (t := 100) D359_96 rfl ?_
        obtain ⟨hg37, hP⟩ := hP
        refine im_last (q := 101) D359_100 sf_6982 hg9.1 hg9.2 (by decide) hg37 ?_
        refine im_ld (q := 102) (i := 0) D359_101 rfl rfl rfl ?_
        refine im_rng (j := 19) sf_6952 (by decide) (by decide) (fun hr38 => ?_)
        refine im_gfI (q := 105) D359_102 (im_fl cn_359 fl_12_403) sf_6952 rfl rfl tI_12_19 (im_rdn _ _ _ _ (by decide)) ?_
        refine im_ifc (q := 108) (t := 109) D359_105 rfl (im_rgc hr38 (im_rdn _ _ _ _ (by decide))) (fun hc39 => ?_) (fun hc39 => ?_)
        · replace hP := hP.1 hc39
          refine im_ld (q := 110) (i := 0) D359_109 rfl rfl rfl ?_
          refine im_callV (q := 113) (kd := 1) (y := 277) (n := 0) (ci := 12) (a := 6952) (vs := [.ref 6952]) (r := []) (L2 := [some (.ref 6952), none]) D359_110 (im_cal cn_359 cl_12_620) (Or.inl rfl) rfl sf_6952 rfl rfl rfl rfl hd ⟨rfl, trivial⟩ ?_
          refine hP.mono ?_
          rintro _ e51 M40 ⟨rfl, rfl, hP⟩
          refine im_bkN ?_
          refine im_ld (q := 114) (i := 0) D359_113 rfl rfl rfl ?_
          refine im_rng (j := 15) sf_6952 (by decide) (by decide) (fun hr41 => ?_)
          refine im_gfI (q := 117) D359_114 (im_fl cn_359 fl_12_591) sf_6952 rfl rfl tI_12_15 rfl ?_
          refine im_iconst (q := 118) D359_117 ?_
          refine im_icmp (q := 121) (t := 138) D359_118 rfl hr41 (by decide) (fun hc42 => ?_) (fun hc42 => ?_)
          · replace hP := hP.1 hc42
            refine im_ld (q := 139) (i := 0) D359_138 rfl rfl rfl ?_
            refine im_callV (q := 142) (kd := 1) (y := 285) (n := 0) (ci := 12) (a := 6952) (vs := [.ref 6952]) (r := []) (L2 := [some (.ref 6952)]) D359_139 (im_cal cn_359 cl_12_639) (Or.inl rfl) rfl sf_6952 rfl rfl rfl rfl hd ⟨rfl, trivial⟩ ?_
            refine hP.mono ?_
            rintro _ e44 M43 ⟨rfl, rfl, hP⟩
            refine im_bkN ?_
            exact im_vret (q := 143) D359_142 rfl hP
          · replace hP := hP.2 (Decidable.not_not.mp hc42)
            refine im_ld (q := 122) (i := 0) D359_121 rfl rfl rfl ?_
            refine im_gfR (q := 125) (b := 6983) D359_122 (im_fl cn_359 fl_12_103) sf_6952 rfl rfl tR_12_51 rf_6952_51 ?_
            refine im_ld (q := 126) (i := 1) D359_125 rfl rfl rfl ?_
            refine im_ld (q := 127) (i := 0) D359_126 rfl rfl rfl ?_
            refine im_callV (q := 130) (kd := 1) (y := 291) (n := 0) (ci := 12) (a := 6952) (vs := [.ref 6952]) (r := [vI p1, .ref 6983]) (L2 := [some (.ref 6952), none, none, none, none]) D359_127 (im_cal cn_359 cl_12_659) (Or.inl rfl) rfl sf_6952 rfl rfl rfl rfl hd ⟨rfl, trivial⟩ ?_
            refine hP.mono ?_
            rintro _ e50 M45 ⟨x46, rfl, rfl, hP⟩
            refine im_bkS ?_
            obtain ⟨hg47, hP⟩ := hP
            refine im_iast (q := 131) D359_130 sf_6983 hg9.1 hg9.2 (by decide) hg47 ?_
            refine im_ld (q := 132) (i := 0) D359_131 rfl rfl rfl ?_
            refine im_callV (q := 135) (kd := 1) (y := 282) (n := 0) (ci := 12) (a := 6952) (vs := [.ref 6952]) (r := []) (L2 := [some (.ref 6952)]) D359_132 (im_cal cn_359 cl_12_649) (Or.inl rfl) rfl sf_6952 rfl rfl rfl rfl hd ⟨rfl, trivial⟩ ?_
            refine hP.mono ?_
            rintro _ e49 M48 ⟨rfl, rfl, hP⟩
            refine im_bkN ?_
            refine im_goto (q := 138) (t := 142) D359_135 rfl ?_
            exact im_vret (q := 143) D359_142 rfl hP
        · replace hP := hP.2 (Int.not_le.mp hc39)
          exact im_vret (q := 109) D359_108 rfl hP
    · replace hP := hP.2 (Decidable.not_not.mp hc12)
      exact im_vret (q := 56) D359_55 rfl hP
  refine im_lif (q := 13) (q2 := 16) (t := 21) D359_12 D359_13 rfl hr1 (by decide) (fun hc2 => ?_) (fun hc2 => ?_)
  · refine im_ld (q := 22) (i := 0) D359_21 rfl rfl rfl ?_
    refine im_gfL (q := 25) D359_22 (im_fl cn_359 fl_12_597) sf_6952 rfl rfl tL_12_18 rfl ?_
    refine im_ldc2 (q := 28) (n := 109300196926309) D359_25 rfl ?_
    refine im_lif (q := 29) (q2 := 32) (t := 37) D359_28 D359_29 rfl hr1 (by decide) (fun hc4 => ?_) (fun hc4 => ?_)
    · refine im_bipush (q := 39) D359_37 rfl ?_
      exact (kJ7 (10) (Or.inl ⟨hc2, hc4, rfl⟩)).wk ⟨rfl, rfl, trivial⟩
    · refine im_bipush (q := 34) D359_32 rfl ?_
      refine im_goto (q := 37) (t := 39) D359_34 rfl ?_
      exact (kJ7 (9) (Or.inr (Or.inl ⟨hc2, (Decidable.not_not.mp hc4), rfl⟩))).wk ⟨rfl, rfl, trivial⟩
  · refine im_bipush (q := 18) D359_16 rfl ?_
    refine im_goto (q := 21) (t := 39) D359_18 rfl ?_
    exact (kJ7 (8) (Or.inr (Or.inr ⟨(Decidable.not_not.mp hc2), rfl⟩))).wk ⟨rfl, rfl, trivial⟩
set_option maxRecDepth 20000 in
set_option maxHeartbeats 4000000 in
theorem b_inputName_0 {g : im_g} {d : Nat} {e : im_E} {M : im_M} {K : im_K} (hd : 1 ≤ d) (hP : ((¬ (M 6952 19) = 0 → K (.inl (some (vL 0))) e M) ∧ ((M 6952 19) = 0 → im_T g (d - 1) 277 0 [some (.ref 6952), none] [] e M (im_r0 (fun  e_ M3 => e = e_ ∧ ((¬ (M3 6952 15) = 3 → im_T g (d - 1) 285 0 [some (.ref 6952)] [] e M3 (im_r0 (fun  e_ M7 => e = e_ ∧ K (.inl (some (vL 0))) e M7))) ∧ ((M3 6952 15) = 3 → im_T g (d - 1) 282 0 [some (.ref 6952)] [] e M3 (im_r0 (fun  e_ M9 => e = e_ ∧ K (.inl (some (vL (M3 6952 18)))) e M9))))))))) : im_T g d 360 0 [some (.ref 6952), none, none] [] e M K := by
  refine im_lconst (q := 1) (z := 0) D360_0 rfl ?_
  refine im_st2 (q := 2) (i := 1) (L' := [some (.ref 6952), some (vL 0), none]) D360_1 (Or.inl ⟨_, rfl, rfl⟩) (Nat.le_of_ble_eq_true rfl) rfl ?_
  refine im_ld (q := 3) (i := 0) D360_2 rfl rfl rfl ?_
  refine im_rng (j := 19) sf_6952 (by decide) (by decide) (fun hr1 => ?_)
  refine im_gfI (q := 6) D360_3 (im_fl cn_360 fl_12_403) sf_6952 rfl rfl tI_12_19 rfl ?_
  refine im_ifc (q := 9) (t := 37) D360_6 rfl hr1 (fun hc2 => ?_) (fun hc2 => ?_)
  · replace hP := hP.1 hc2
    refine im_ld (q := 38) (i := 1) D360_37 rfl rfl rfl ?_
    exact im_lret (q := 39) D360_38 rfl hP
  · replace hP := hP.2 (Decidable.not_not.mp hc2)
    refine im_ld (q := 10) (i := 0) D360_9 rfl rfl rfl ?_
    refine im_callV (q := 13) (kd := 1) (y := 277) (n := 0) (ci := 12) (a := 6952) (vs := [.ref 6952]) (r := []) (L2 := [some (.ref 6952), none]) D360_10 (im_cal cn_360 cl_12_620) (Or.inl rfl) rfl sf_6952 rfl rfl rfl rfl hd ⟨rfl, trivial⟩ ?_
    refine hP.mono ?_
    rintro _ e11 M3 ⟨rfl, rfl, hP⟩
    refine im_bkN ?_
    refine im_ld (q := 14) (i := 0) D360_13 rfl rfl rfl ?_
    refine im_rng (j := 15) sf_6952 (by decide) (by decide) (fun hr4 => ?_)
    refine im_gfI (q := 17) D360_14 (im_fl cn_360 fl_12_591) sf_6952 rfl rfl tI_12_15 rfl ?_
    refine im_iconst (q := 18) D360_17 ?_
    refine im_icmp (q := 21) (t := 33) D360_18 rfl hr4 (by decide) (fun hc5 => ?_) (fun hc5 => ?_)
    · replace hP := hP.1 hc5
      refine im_ld (q := 34) (i := 0) D360_33 rfl rfl rfl ?_
      refine im_callV (q := 37) (kd := 1) (y := 285) (n := 0) (ci := 12) (a := 6952) (vs := [.ref 6952]) (r := []) (L2 := [some (.ref 6952)]) D360_34 (im_cal cn_360 cl_12_639) (Or.inl rfl) rfl sf_6952 rfl rfl rfl rfl hd ⟨rfl, trivial⟩ ?_
      refine hP.mono ?_
      rintro _ e8 M7 ⟨rfl, rfl, hP⟩
      refine im_bkN ?_
      refine im_ld (q := 38) (i := 1) D360_37 rfl rfl rfl ?_
      exact im_lret (q := 39) D360_38 rfl hP
    · replace hP := hP.2 (Decidable.not_not.mp hc5)
      refine im_ld (q := 22) (i := 0) D360_21 rfl rfl rfl ?_
      refine im_rng (j := 18) sf_6952 (by decide) (by decide) (fun hr6 => ?_)
      refine im_gfL (q := 25) D360_22 (im_fl cn_360 fl_12_597) sf_6952 rfl rfl tL_12_18 rfl ?_
      refine im_st2 (q := 26) (i := 1) (L' := [some (.ref 6952), some (vL (M3 6952 18)), none]) D360_25 (Or.inl ⟨_, rfl, rfl⟩) (Nat.le_of_ble_eq_true rfl) rfl ?_
      refine im_ld (q := 27) (i := 0) D360_26 rfl rfl rfl ?_
      refine im_callV (q := 30) (kd := 1) (y := 282) (n := 0) (ci := 12) (a := 6952) (vs := [.ref 6952]) (r := []) (L2 := [some (.ref 6952)]) D360_27 (im_cal cn_360 cl_12_649) (Or.inl rfl) rfl sf_6952 rfl rfl rfl rfl hd ⟨rfl, trivial⟩ ?_
      refine hP.mono ?_
      rintro _ e10 M9 ⟨rfl, rfl, hP⟩
      refine im_bkN ?_
      refine im_goto (q := 33) (t := 37) D360_30 rfl ?_
      refine im_ld (q := 38) (i := 1) D360_37 rfl rfl rfl ?_
      exact im_lret (q := 39) D360_38 rfl hP

/-! blocks of the reference -/
theorem D343_0 {g : im_g} : im_D g 343 0 (.iload_n 1) 1 := im_D.of (by decide +kernel)
theorem D343_1 {g : im_g} : im_D g 343 1 (.i2l) 2 := im_D.of (by decide +kernel)
theorem D343_2 {g : im_g} : im_D g 343 2 (.lconst 0) 3 := im_D.of (by decide +kernel)
theorem D343_3 {g : im_g} : im_D g 343 3 (.ldc2_w 729) 6 := im_D.of (by decide +kernel)
theorem D343_6 {g : im_g} : im_D g 343 6 (.invokestatic 428) 9 := im_D.of (by decide +kernel)
theorem D343_9 {g : im_g} : im_D g 343 9 (.ifCond .eq 30) 12 := im_D.of (by decide +kernel)
theorem D343_12 {g : im_g} : im_D g 343 12 (.iload_n 2) 13 := im_D.of (by decide +kernel)
theorem D343_13 {g : im_g} : im_D g 343 13 (.i2l) 14 := im_D.of (by decide +kernel)
theorem D343_14 {g : im_g} : im_D g 343 14 (.lconst 0) 15 := im_D.of (by decide +kernel)
theorem D343_15 {g : im_g} : im_D g 343 15 (.ldc2_w 729) 18 := im_D.of (by decide +kernel)
theorem D343_18 {g : im_g} : im_D g 343 18 (.invokestatic 428) 21 := im_D.of (by decide +kernel)
theorem D343_21 {g : im_g} : im_D g 343 21 (.ifCond .eq 18) 24 := im_D.of (by decide +kernel)
theorem D343_24 {g : im_g} : im_D g 343 24 (.lload_n 3) 25 := im_D.of (by decide +kernel)
theorem D343_25 {g : im_g} : im_D g 343 25 (.lconst 0) 26 := im_D.of (by decide +kernel)
theorem D343_26 {g : im_g} : im_D g 343 26 (.ldc2_w 672) 29 := im_D.of (by decide +kernel)
theorem D343_29 {g : im_g} : im_D g 343 29 (.invokestatic 428) 32 := im_D.of (by decide +kernel)
theorem D343_32 {g : im_g} : im_D g 343 32 (.ifCond .eq 7) 35 := im_D.of (by decide +kernel)
theorem D343_35 {g : im_g} : im_D g 343 35 (.iconst 1) 36 := im_D.of (by decide +kernel)
theorem D343_36 {g : im_g} : im_D g 343 36 (.goto 4) 39 := im_D.of (by decide +kernel)
theorem D343_39 {g : im_g} : im_D g 343 39 (.iconst 0) 40 := im_D.of (by decide +kernel)
theorem D343_40 {g : im_g} : im_D g 343 40 (.istore 5) 42 := im_D.of (by decide +kernel)
theorem D343_42 {g : im_g} : im_D g 343 42 (.iload 5) 44 := im_D.of (by decide +kernel)
theorem D343_44 {g : im_g} : im_D g 343 44 (.ifCond .eq 21) 47 := im_D.of (by decide +kernel)
theorem D343_47 {g : im_g} : im_D g 343 47 (.aload_n 0) 48 := im_D.of (by decide +kernel)
theorem D343_48 {g : im_g} : im_D g 343 48 (.getfield 136) 51 := im_D.of (by decide +kernel)
theorem D343_51 {g : im_g} : im_D g 343 51 (.iload_n 1) 52 := im_D.of (by decide +kernel)
theorem D343_52 {g : im_g} : im_D g 343 52 (.baload) 53 := im_D.of (by decide +kernel)
theorem D343_53 {g : im_g} : im_D g 343 53 (.ifCond .ne 12) 56 := im_D.of (by decide +kernel)
theorem D343_56 {g : im_g} : im_D g 343 56 (.aload_n 0) 57 := im_D.of (by decide +kernel)
theorem D343_57 {g : im_g} : im_D g 343 57 (.getfield 106) 60 := im_D.of (by decide +kernel)
theorem D343_60 {g : im_g} : im_D g 343 60 (.iload_n 2) 61 := im_D.of (by decide +kernel)
theorem D343_61 {g : im_g} : im_D g 343 61 (.baload) 62 := im_D.of (by decide +kernel)
theorem D343_62 {g : im_g} : im_D g 343 62 (.ifCond .ne 6) 65 := im_D.of (by decide +kernel)
theorem D343_65 {g : im_g} : im_D g 343 65 (.bipush (-101)) 67 := im_D.of (by decide +kernel)
theorem D343_67 {g : im_g} : im_D g 343 67 (.ireturn) 68 := im_D.of (by decide +kernel)
theorem D343_68 {g : im_g} : im_D g 343 68 (.aload_n 0) 69 := im_D.of (by decide +kernel)
theorem D343_69 {g : im_g} : im_D g 343 69 (.aload_n 0) 70 := im_D.of (by decide +kernel)
theorem D343_70 {g : im_g} : im_D g 343 70 (.getfield 617) 73 := im_D.of (by decide +kernel)
theorem D343_73 {g : im_g} : im_D g 343 73 (.putfield 449) 76 := im_D.of (by decide +kernel)
theorem D343_76 {g : im_g} : im_D g 343 76 (.aload_n 0) 77 := im_D.of (by decide +kernel)
theorem D343_77 {g : im_g} : im_D g 343 77 (.iload_n 2) 78 := im_D.of (by decide +kernel)
theorem D343_78 {g : im_g} : im_D g 343 78 (.invokevirtual 829) 81 := im_D.of (by decide +kernel)
theorem D343_81 {g : im_g} : im_D g 343 81 (.ifCond .eq 7) 84 := im_D.of (by decide +kernel)
theorem D343_84 {g : im_g} : im_D g 343 84 (.iconst 0) 85 := im_D.of (by decide +kernel)
theorem D343_85 {g : im_g} : im_D g 343 85 (.goto 5) 88 := im_D.of (by decide +kernel)
theorem D343_88 {g : im_g} : im_D g 343 88 (.bipush (-11)) 90 := im_D.of (by decide +kernel)
theorem D343_90 {g : im_g} : im_D g 343 90 (.ireturn) 91 := im_D.of (by decide +kernel)
theorem D344_0 {g : im_g} : im_D g 344 0 (.iconst 1) 1 := im_D.of (by decide +kernel)
theorem D344_1 {g : im_g} : im_D g 344 1 (.istore_n 2) 2 := im_D.of (by decide +kernel)
theorem D344_2 {g : im_g} : im_D g 344 2 (.aload_n 0) 3 := im_D.of (by decide +kernel)
theorem D344_3 {g : im_g} : im_D g 344 3 (.getfield 109) 6 := im_D.of (by decide +kernel)
theorem D344_6 {g : im_g} : im_D g 344 6 (.iload_n 1) 7 := im_D.of (by decide +kernel)
theorem D344_7 {g : im_g} : im_D g 344 7 (.iaload) 8 := im_D.of (by decide +kernel)
theorem D344_8 {g : im_g} : im_D g 344 8 (.istore_n 3) 9 := im_D.of (by decide +kernel)
theorem D344_9 {g : im_g} : im_D g 344 9 (.iload_n 3) 10 := im_D.of (by decide +kernel)
theorem D344_10 {g : im_g} : im_D g 344 10 (.aload_n 0) 11 := im_D.of (by decide +kernel)
theorem D344_11 {g : im_g} : im_D g 344 11 (.getfield 109) 14 := im_D.of (by decide +kernel)
theorem D344_14 {g : im_g} : im_D g 344 14 (.iload_n 1) 15 := im_D.of (by decide +kernel)
theorem D344_15 {g : im_g} : im_D g 344 15 (.iaload) 16 := im_D.of (by decide +kernel)
theorem D344_16 {g : im_g} : im_D g 344 16 (.aload_n 0) 17 := im_D.of (by decide +kernel)
theorem D344_17 {g : im_g} : im_D g 344 17 (.getfield 112) 20 := im_D.of (by decide +kernel)
theorem D344_20 {g : im_g} : im_D g 344 20 (.iload_n 1) 21 := im_D.of (by decide +kernel)
theorem D344_21 {g : im_g} : im_D g 344 21 (.iaload) 22 := im_D.of (by decide +kernel)
theorem D344_22 {g : im_g} : im_D g 344 22 (.iadd) 23 := im_D.of (by decide +kernel)
theorem D344_23 {g : im_g} : im_D g 344 23 (.if_icmp .ge 125) 26 := im_D.of (by decide +kernel)
theorem D344_26 {g : im_g} : im_D g 344 26 (.iload_n 2) 27 := im_D.of (by decide +kernel)
theorem D344_27 {g : im_g} : im_D g 344 27 (.ifCond .eq 121) 30 := im_D.of (by decide +kernel)
theorem D344_30 {g : im_g} : im_D g 344 30 (.aload_n 0) 31 := im_D.of (by decide +kernel)
theorem D344_31 {g : im_g} : im_D g 344 31 (.getfield 33) 34 := im_D.of (by decide +kernel)
theorem D344_34 {g : im_g} : im_D g 344 34 (.iload_n 3) 35 := im_D.of (by decide +kernel)
theorem D344_35 {g : im_g} : im_D g 344 35 (.iaload) 36 := im_D.of (by decide +kernel)
theorem D344_36 {g : im_g} : im_D g 344 36 (.iconst 5) 37 := im_D.of (by decide +kernel)
theorem D344_37 {g : im_g} : im_D g 344 37 (.if_icmp .ne 16) 40 := im_D.of (by decide +kernel)
theorem D344_40 {g : im_g} : im_D g 344 40 (.aload_n 0) 41 := im_D.of (by decide +kernel)
theorem D344_41 {g : im_g} : im_D g 344 41 (.getfield 63) 44 := im_D.of (by decide +kernel)
theorem D344_44 {g : im_g} : im_D g 344 44 (.iload_n 3) 45 := im_D.of (by decide +kernel)
theorem D344_45 {g : im_g} : im_D g 344 45 (.baload) 46 := im_D.of (by decide +kernel)
theorem D344_46 {g : im_g} : im_D g 344 46 (.ifCond .eq 7) 49 := im_D.of (by decide +kernel)
theorem D344_49 {g : im_g} : im_D g 344 49 (.iconst 1) 50 := im_D.of (by decide +kernel)
theorem D344_50 {g : im_g} : im_D g 344 50 (.goto 4) 53 := im_D.of (by decide +kernel)
theorem D344_53 {g : im_g} : im_D g 344 53 (.iconst 0) 54 := im_D.of (by decide +kernel)
theorem D344_54 {g : im_g} : im_D g 344 54 (.istore 4) 56 := im_D.of (by decide +kernel)
theorem D344_56 {g : im_g} : im_D g 344 56 (.iload 4) 58 := im_D.of (by decide +kernel)
theorem D344_58 {g : im_g} : im_D g 344 58 (.ifCond .ne 14) 61 := im_D.of (by decide +kernel)
theorem D344_61 {g : im_g} : im_D g 344 61 (.aload_n 0) 62 := im_D.of (by decide +kernel)
theorem D344_62 {g : im_g} : im_D g 344 62 (.getfield 33) 65 := im_D.of (by decide +kernel)
theorem D344_65 {g : im_g} : im_D g 344 65 (.iload_n 3) 66 := im_D.of (by decide +kernel)
theorem D344_66 {g : im_g} : im_D g 344 66 (.iaload) 67 := im_D.of (by decide +kernel)
theorem D344_67 {g : im_g} : im_D g 344 67 (.bipush 21) 69 := im_D.of (by decide +kernel)
theorem D344_69 {g : im_g} : im_D g 344 69 (.if_icmp .ne 16) 72 := im_D.of (by decide +kernel)
theorem D344_72 {g : im_g} : im_D g 344 72 (.aload_n 0) 73 := im_D.of (by decide +kernel)
theorem D344_73 {g : im_g} : im_D g 344 73 (.aload_n 0) 74 := im_D.of (by decide +kernel)
theorem D344_74 {g : im_g} : im_D g 344 74 (.getfield 36) 77 := im_D.of (by decide +kernel)
theorem D344_77 {g : im_g} : im_D g 344 77 (.iload_n 3) 78 := im_D.of (by decide +kernel)
theorem D344_78 {g : im_g} : im_D g 344 78 (.laload) 79 := im_D.of (by decide +kernel)
theorem D344_79 {g : im_g} : im_D g 344 79 (.invokevirtual 809) 82 := im_D.of (by decide +kernel)
theorem D344_82 {g : im_g} : im_D g 344 82 (.ifCond .eq 7) 85 := im_D.of (by decide +kernel)
theorem D344_85 {g : im_g} : im_D g 344 85 (.iconst 1) 86 := im_D.of (by decide +kernel)
theorem D344_86 {g : im_g} : im_D g 344 86 (.goto 4) 89 := im_D.of (by decide +kernel)
theorem D344_89 {g : im_g} : im_D g 344 89 (.iconst 0) 90 := im_D.of (by decide +kernel)
theorem D344_90 {g : im_g} : im_D g 344 90 (.istore_n 2) 91 := im_D.of (by decide +kernel)
theorem D344_91 {g : im_g} : im_D g 344 91 (.iload_n 2) 92 := im_D.of (by decide +kernel)
theorem D344_92 {g : im_g} : im_D g 344 92 (.ifCond .eq 50) 95 := im_D.of (by decide +kernel)
theorem D344_95 {g : im_g} : im_D g 344 95 (.iload 4) 97 := im_D.of (by decide +kernel)
theorem D344_97 {g : im_g} : im_D g 344 97 (.ifCond .eq 45) 100 := im_D.of (by decide +kernel)
theorem D344_100 {g : im_g} : im_D g 344 100 (.aload_n 0) 101 := im_D.of (by decide +kernel)
theorem D344_101 {g : im_g} : im_D g 344 101 (.getfield 449) 104 := im_D.of (by decide +kernel)
theorem D344_104 {g : im_g} : im_D g 344 104 (.istore 5) 106 := im_D.of (by decide +kernel)
theorem D344_106 {g : im_g} : im_D g 344 106 (.aload_n 0) 107 := im_D.of (by decide +kernel)
theorem D344_107 {g : im_g} : im_D g 344 107 (.aload_n 0) 108 := im_D.of (by decide +kernel)
theorem D344_108 {g : im_g} : im_D g 344 108 (.aload_n 0) 109 := im_D.of (by decide +kernel)
theorem D344_109 {g : im_g} : im_D g 344 109 (.getfield 133) 112 := im_D.of (by decide +kernel)
theorem D344_112 {g : im_g} : im_D g 344 112 (.aload_n 0) 113 := im_D.of (by decide +kernel)
theorem D344_113 {g : im_g} : im_D g 344 113 (.aload_n 0) 114 := im_D.of (by decide +kernel)
theorem D344_114 {g : im_g} : im_D g 344 114 (.getfield 36) 117 := im_D.of (by decide +kernel)
theorem D344_117 {g : im_g} : im_D g 344 117 (.iload_n 3) 118 := im_D.of (by decide +kernel)
theorem D344_118 {g : im_g} : im_D g 344 118 (.laload) 119 := im_D.of (by decide +kernel)
theorem D344_119 {g : im_g} : im_D g 344 119 (.invokevirtual 797) 122 := im_D.of (by decide +kernel)
theorem D344_122 {g : im_g} : im_D g 344 122 (.invokevirtual 825) 125 := im_D.of (by decide +kernel)
theorem D344_125 {g : im_g} : im_D g 344 125 (.invokevirtual 668) 128 := im_D.of (by decide +kernel)
theorem D344_128 {g : im_g} : im_D g 344 128 (.lconst 0) 129 := im_D.of (by decide +kernel)
theorem D344_129 {g : im_g} : im_D g 344 129 (.ldc2_w 672) 132 := im_D.of (by decide +kernel)
theorem D344_132 {g : im_g} : im_D g 344 132 (.invokestatic 428) 135 := im_D.of (by decide +kernel)
theorem D344_135 {g : im_g} : im_D g 344 135 (.istore_n 2) 136 := im_D.of (by decide +kernel)
theorem D344_136 {g : im_g} : im_D g 344 136 (.aload_n 0) 137 := im_D.of (by decide +kernel)
theorem D344_137 {g : im_g} : im_D g 344 137 (.iload 5) 139 := im_D.of (by decide +kernel)
theorem D344_139 {g : im_g} : im_D g 344 139 (.putfield 449) 142 := im_D.of (by decide +kernel)
theorem D344_142 {g : im_g} : im_D g 344 142 (.iinc 3 1) 145 := im_D.of (by decide +kernel)
theorem D344_145 {g : im_g} : im_D g 344 145 (.goto (-136)) 148 := im_D.of (by decide +kernel)
theorem D344_148 {g : im_g} : im_D g 344 148 (.iload_n 2) 149 := im_D.of (by decide +kernel)
theorem D344_149 {g : im_g} : im_D g 344 149 (.ireturn) 150 := im_D.of (by decide +kernel)
theorem D345_0 {g : im_g} : im_D g 345 0 (.aload_n 0) 1 := im_D.of (by decide +kernel)
theorem D345_1 {g : im_g} : im_D g 345 1 (.getfield 449) 4 := im_D.of (by decide +kernel)
theorem D345_4 {g : im_g} : im_D g 345 4 (.istore_n 3) 5 := im_D.of (by decide +kernel)
theorem D345_5 {g : im_g} : im_D g 345 5 (.aload_n 1) 6 := im_D.of (by decide +kernel)
theorem D345_6 {g : im_g} : im_D g 345 6 (.sipush 302) 9 := im_D.of (by decide +kernel)
theorem D345_9 {g : im_g} : im_D g 345 9 (.iload_n 2) 10 := im_D.of (by decide +kernel)
theorem D345_10 {g : im_g} : im_D g 345 10 (.imul) 11 := im_D.of (by decide +kernel)
theorem D345_11 {g : im_g} : im_D g 345 11 (.iconst 1) 12 := im_D.of (by decide +kernel)
theorem D345_12 {g : im_g} : im_D g 345 12 (.iadd) 13 := im_D.of (by decide +kernel)
theorem D345_13 {g : im_g} : im_D g 345 13 (.iaload) 14 := im_D.of (by decide +kernel)
theorem D345_14 {g : im_g} : im_D g 345 14 (.istore 4) 16 := im_D.of (by decide +kernel)
theorem D345_16 {g : im_g} : im_D g 345 16 (.iconst 0) 17 := im_D.of (by decide +kernel)
theorem D345_17 {g : im_g} : im_D g 345 17 (.istore 5) 19 := im_D.of (by decide +kernel)
theorem D345_19 {g : im_g} : im_D g 345 19 (.iload 5) 21 := im_D.of (by decide +kernel)
theorem D345_21 {g : im_g} : im_D g 345 21 (.iload 4) 23 := im_D.of (by decide +kernel)
theorem D345_23 {g : im_g} : im_D g 345 23 (.iconst 2) 24 := im_D.of (by decide +kernel)
theorem D345_24 {g : im_g} : im_D g 345 24 (.iadd) 25 := im_D.of (by decide +kernel)
theorem D345_25 {g : im_g} : im_D g 345 25 (.if_icmp .ge 28) 28 := im_D.of (by decide +kernel)
theorem D345_28 {g : im_g} : im_D g 345 28 (.aload_n 0) 29 := im_D.of (by decide +kernel)
theorem D345_29 {g : im_g} : im_D g 345 29 (.getfield 17) 32 := im_D.of (by decide +kernel)
theorem D345_32 {g : im_g} : im_D g 345 32 (.iload_n 3) 33 := im_D.of (by decide +kernel)
theorem D345_33 {g : im_g} : im_D g 345 33 (.iload 5) 35 := im_D.of (by decide +kernel)
theorem D345_35 {g : im_g} : im_D g 345 35 (.iadd) 36 := im_D.of (by decide +kernel)
theorem D345_36 {g : im_g} : im_D g 345 36 (.aload_n 1) 37 := im_D.of (by decide +kernel)
theorem D345_37 {g : im_g} : im_D g 345 37 (.sipush 302) 40 := im_D.of (by decide +kernel)
theorem D345_40 {g : im_g} : im_D g 345 40 (.iload_n 2) 41 := im_D.of (by decide +kernel)
theorem D345_41 {g : im_g} : im_D g 345 41 (.imul) 42 := im_D.of (by decide +kernel)
theorem D345_42 {g : im_g} : im_D g 345 42 (.iload 5) 44 := im_D.of (by decide +kernel)
theorem D345_44 {g : im_g} : im_D g 345 44 (.iadd) 45 := im_D.of (by decide +kernel)
theorem D345_45 {g : im_g} : im_D g 345 45 (.iaload) 46 := im_D.of (by decide +kernel)
theorem D345_46 {g : im_g} : im_D g 345 46 (.iastore) 47 := im_D.of (by decide +kernel)
theorem D345_47 {g : im_g} : im_D g 345 47 (.iinc 5 1) 50 := im_D.of (by decide +kernel)
theorem D345_50 {g : im_g} : im_D g 345 50 (.goto (-31)) 53 := im_D.of (by decide +kernel)
theorem D345_53 {g : im_g} : im_D g 345 53 (.aload_n 0) 54 := im_D.of (by decide +kernel)
theorem D345_54 {g : im_g} : im_D g 345 54 (.iload_n 3) 55 := im_D.of (by decide +kernel)
theorem D345_55 {g : im_g} : im_D g 345 55 (.iload 4) 57 := im_D.of (by decide +kernel)
theorem D345_57 {g : im_g} : im_D g 345 57 (.iadd) 58 := im_D.of (by decide +kernel)
theorem D345_58 {g : im_g} : im_D g 345 58 (.iconst 2) 59 := im_D.of (by decide +kernel)
theorem D345_59 {g : im_g} : im_D g 345 59 (.iadd) 60 := im_D.of (by decide +kernel)
theorem D345_60 {g : im_g} : im_D g 345 60 (.putfield 449) 63 := im_D.of (by decide +kernel)
theorem D345_63 {g : im_g} : im_D g 345 63 (.iload_n 3) 64 := im_D.of (by decide +kernel)
theorem D345_64 {g : im_g} : im_D g 345 64 (.ireturn) 65 := im_D.of (by decide +kernel)
theorem D346_0 {g : im_g} : im_D g 346 0 (.aload_n 0) 1 := im_D.of (by decide +kernel)
theorem D346_1 {g : im_g} : im_D g 346 1 (.getfield 136) 4 := im_D.of (by decide +kernel)
theorem D346_4 {g : im_g} : im_D g 346 4 (.iload_n 1) 5 := im_D.of (by decide +kernel)
theorem D346_5 {g : im_g} : im_D g 346 5 (.iconst 1) 6 := im_D.of (by decide +kernel)
theorem D346_6 {g : im_g} : im_D g 346 6 (.bastore) 7 := im_D.of (by decide +kernel)
theorem D346_7 {g : im_g} : im_D g 346 7 (.aload_n 0) 8 := im_D.of (by decide +kernel)
theorem D346_8 {g : im_g} : im_D g 346 8 (.getfield 139) 11 := im_D.of (by decide +kernel)
theorem D346_11 {g : im_g} : im_D g 346 11 (.iload_n 1) 12 := im_D.of (by decide +kernel)
theorem D346_12 {g : im_g} : im_D g 346 12 (.aload_n 0) 13 := im_D.of (by decide +kernel)
theorem D346_13 {g : im_g} : im_D g 346 13 (.getfield 109) 16 := im_D.of (by decide +kernel)
theorem D346_16 {g : im_g} : im_D g 346 16 (.iload_n 2) 17 := im_D.of (by decide +kernel)
theorem D346_17 {g : im_g} : im_D g 346 17 (.iaload) 18 := im_D.of (by decide +kernel)
theorem D346_18 {g : im_g} : im_D g 346 18 (.iastore) 19 := im_D.of (by decide +kernel)
theorem D346_19 {g : im_g} : im_D g 346 19 (.aload_n 0) 20 := im_D.of (by decide +kernel)
theorem D346_20 {g : im_g} : im_D g 346 20 (.getfield 142) 23 := im_D.of (by decide +kernel)
theorem D346_23 {g : im_g} : im_D g 346 23 (.iload_n 1) 24 := im_D.of (by decide +kernel)
theorem D346_24 {g : im_g} : im_D g 346 24 (.lload_n 3) 25 := im_D.of (by decide +kernel)
theorem D346_25 {g : im_g} : im_D g 346 25 (.lastore) 26 := im_D.of (by decide +kernel)
theorem D346_26 {g : im_g} : im_D g 346 26 (.aload_n 0) 27 := im_D.of (by decide +kernel)
theorem D346_27 {g : im_g} : im_D g 346 27 (.getfield 145) 30 := im_D.of (by decide +kernel)
theorem D346_30 {g : im_g} : im_D g 346 30 (.iload_n 1) 31 := im_D.of (by decide +kernel)
theorem D346_31 {g : im_g} : im_D g 346 31 (.iconst 0) 32 := im_D.of (by decide +kernel)
theorem D346_32 {g : im_g} : im_D g 346 32 (.iastore) 33 := im_D.of (by decide +kernel)
theorem D346_33 {g : im_g} : im_D g 346 33 (.aload_n 0) 34 := im_D.of (by decide +kernel)
theorem D346_34 {g : im_g} : im_D g 346 34 (.getfield 158) 37 := im_D.of (by decide +kernel)
theorem D346_37 {g : im_g} : im_D g 346 37 (.iload_n 1) 38 := im_D.of (by decide +kernel)
theorem D346_38 {g : im_g} : im_D g 346 38 (.iconst 0) 39 := im_D.of (by decide +kernel)
theorem D346_39 {g : im_g} : im_D g 346 39 (.iastore) 40 := im_D.of (by decide +kernel)
theorem D346_40 {g : im_g} : im_D g 346 40 (.aload_n 0) 41 := im_D.of (by decide +kernel)
theorem D346_41 {g : im_g} : im_D g 346 41 (.getfield 170) 44 := im_D.of (by decide +kernel)
theorem D346_44 {g : im_g} : im_D g 346 44 (.iload_n 1) 45 := im_D.of (by decide +kernel)
theorem D346_45 {g : im_g} : im_D g 346 45 (.iconst 0) 46 := im_D.of (by decide +kernel)
theorem D346_46 {g : im_g} : im_D g 346 46 (.iastore) 47 := im_D.of (by decide +kernel)
theorem D346_47 {g : im_g} : im_D g 346 47 (.aload_n 0) 48 := im_D.of (by decide +kernel)
theorem D346_48 {g : im_g} : im_D g 346 48 (.getfield 179) 51 := im_D.of (by decide +kernel)
theorem D346_51 {g : im_g} : im_D g 346 51 (.iload_n 1) 52 := im_D.of (by decide +kernel)
theorem D346_52 {g : im_g} : im_D g 346 52 (.aload_n 0) 53 := im_D.of (by decide +kernel)
theorem D346_53 {g : im_g} : im_D g 346 53 (.getfield 794) 56 := im_D.of (by decide +kernel)
theorem D346_56 {g : im_g} : im_D g 346 56 (.iastore) 57 := im_D.of (by decide +kernel)
theorem D346_57 {g : im_g} : im_D g 346 57 (.iconst 0) 58 := im_D.of (by decide +kernel)
theorem D346_58 {g : im_g} : im_D g 346 58 (.istore 5) 60 := im_D.of (by decide +kernel)
theorem D346_60 {g : im_g} : im_D g 346 60 (.iload 5) 62 := im_D.of (by decide +kernel)
theorem D346_62 {g : im_g} : im_D g 346 62 (.aload_n 0) 63 := im_D.of (by decide +kernel)
theorem D346_63 {g : im_g} : im_D g 346 63 (.getfield 794) 66 := im_D.of (by decide +kernel)
theorem D346_66 {g : im_g} : im_D g 346 66 (.if_icmp .ge 78) 69 := im_D.of (by decide +kernel)
theorem D346_69 {g : im_g} : im_D g 346 69 (.aload_n 0) 70 := im_D.of (by decide +kernel)
theorem D346_70 {g : im_g} : im_D g 346 70 (.getfield 182) 73 := im_D.of (by decide +kernel)
theorem D346_73 {g : im_g} : im_D g 346 73 (.bipush 20) 75 := im_D.of (by decide +kernel)
theorem D346_75 {g : im_g} : im_D g 346 75 (.iload_n 1) 76 := im_D.of (by decide +kernel)
theorem D346_76 {g : im_g} : im_D g 346 76 (.imul) 77 := im_D.of (by decide +kernel)
theorem D346_77 {g : im_g} : im_D g 346 77 (.iload 5) 79 := im_D.of (by decide +kernel)
theorem D346_79 {g : im_g} : im_D g 346 79 (.iadd) 80 := im_D.of (by decide +kernel)
theorem D346_80 {g : im_g} : im_D g 346 80 (.aload_n 0) 81 := im_D.of (by decide +kernel)
theorem D346_81 {g : im_g} : im_D g 346 81 (.getfield 130) 84 := im_D.of (by decide +kernel)
theorem D346_84 {g : im_g} : im_D g 346 84 (.iload 5) 86 := im_D.of (by decide +kernel)
theorem D346_86 {g : im_g} : im_D g 346 86 (.laload) 87 := im_D.of (by decide +kernel)
theorem D346_87 {g : im_g} : im_D g 346 87 (.lastore) 88 := im_D.of (by decide +kernel)
theorem D346_88 {g : im_g} : im_D g 346 88 (.iconst 0) 89 := im_D.of (by decide +kernel)
theorem D346_89 {g : im_g} : im_D g 346 89 (.istore 6) 91 := im_D.of (by decide +kernel)
theorem D346_91 {g : im_g} : im_D g 346 91 (.iload 6) 93 := im_D.of (by decide +kernel)
theorem D346_93 {g : im_g} : im_D g 346 93 (.sipush 302) 96 := im_D.of (by decide +kernel)
theorem D346_96 {g : im_g} : im_D g 346 96 (.if_icmp .ge 42) 99 := im_D.of (by decide +kernel)
theorem D346_99 {g : im_g} : im_D g 346 99 (.aload_n 0) 100 := im_D.of (by decide +kernel)
theorem D346_100 {g : im_g} : im_D g 346 100 (.getfield 186) 103 := im_D.of (by decide +kernel)
theorem D346_103 {g : im_g} : im_D g 346 103 (.sipush 302) 106 := im_D.of (by decide +kernel)
theorem D346_106 {g : im_g} : im_D g 346 106 (.bipush 20) 108 := im_D.of (by decide +kernel)
theorem D346_108 {g : im_g} : im_D g 346 108 (.iload_n 1) 109 := im_D.of (by decide +kernel)
theorem D346_109 {g : im_g} : im_D g 346 109 (.imul) 110 := im_D.of (by decide +kernel)
theorem D346_110 {g : im_g} : im_D g 346 110 (.iload 5) 112 := im_D.of (by decide +kernel)
theorem D346_112 {g : im_g} : im_D g 346 112 (.iadd) 113 := im_D.of (by decide +kernel)
theorem D346_113 {g : im_g} : im_D g 346 113 (.imul) 114 := im_D.of (by decide +kernel)
theorem D346_114 {g : im_g} : im_D g 346 114 (.iload 6) 116 := im_D.of (by decide +kernel)
theorem D346_116 {g : im_g} : im_D g 346 116 (.iadd) 117 := im_D.of (by decide +kernel)
theorem D346_117 {g : im_g} : im_D g 346 117 (.aload_n 0) 118 := im_D.of (by decide +kernel)
theorem D346_118 {g : im_g} : im_D g 346 118 (.getfield 133) 121 := im_D.of (by decide +kernel)
theorem D346_121 {g : im_g} : im_D g 346 121 (.sipush 302) 124 := im_D.of (by decide +kernel)
theorem D346_124 {g : im_g} : im_D g 346 124 (.iload 5) 126 := im_D.of (by decide +kernel)
theorem D346_126 {g : im_g} : im_D g 346 126 (.imul) 127 := im_D.of (by decide +kernel)
theorem D346_127 {g : im_g} : im_D g 346 127 (.iload 6) 129 := im_D.of (by decide +kernel)
theorem D346_129 {g : im_g} : im_D g 346 129 (.iadd) 130 := im_D.of (by decide +kernel)
theorem D346_130 {g : im_g} : im_D g 346 130 (.iaload) 131 := im_D.of (by decide +kernel)
theorem D346_131 {g : im_g} : im_D g 346 131 (.iastore) 132 := im_D.of (by decide +kernel)
theorem D346_132 {g : im_g} : im_D g 346 132 (.iinc 6 1) 135 := im_D.of (by decide +kernel)
theorem D346_135 {g : im_g} : im_D g 346 135 (.goto (-44)) 138 := im_D.of (by decide +kernel)
theorem D346_138 {g : im_g} : im_D g 346 138 (.iinc 5 1) 141 := im_D.of (by decide +kernel)
theorem D346_141 {g : im_g} : im_D g 346 141 (.goto (-81)) 144 := im_D.of (by decide +kernel)
theorem D346_144 {g : im_g} : im_D g 346 144 (.return_) 145 := im_D.of (by decide +kernel)
theorem D347_0 {g : im_g} : im_D g 347 0 (.aload_n 0) 1 := im_D.of (by decide +kernel)
theorem D347_1 {g : im_g} : im_D g 347 1 (.iconst 2) 2 := im_D.of (by decide +kernel)
theorem D347_2 {g : im_g} : im_D g 347 2 (.iload_n 1) 3 := im_D.of (by decide +kernel)
theorem D347_3 {g : im_g} : im_D g 347 3 (.i2l) 4 := im_D.of (by decide +kernel)
theorem D347_4 {g : im_g} : im_D g 347 4 (.lconst 0) 5 := im_D.of (by decide +kernel)
theorem D347_5 {g : im_g} : im_D g 347 5 (.ldc2_w 729) 8 := im_D.of (by decide +kernel)
theorem D347_8 {g : im_g} : im_D g 347 8 (.invokestatic 428) 11 := im_D.of (by decide +kernel)
theorem D347_11 {g : im_g} : im_D g 347 11 (.aload_n 0) 12 := im_D.of (by decide +kernel)
theorem D347_12 {g : im_g} : im_D g 347 12 (.iload_n 1) 13 := im_D.of (by decide +kernel)
theorem D347_13 {g : im_g} : im_D g 347 13 (.invokevirtual 843) 16 := im_D.of (by decide +kernel)
theorem D347_16 {g : im_g} : im_D g 347 16 (.iconst 1) 17 := im_D.of (by decide +kernel)
theorem D347_17 {g : im_g} : im_D g 347 17 (.invokevirtual 419) 20 := im_D.of (by decide +kernel)
theorem D347_20 {g : im_g} : im_D g 347 20 (.ifCond .ne 5) 23 := im_D.of (by decide +kernel)
theorem D347_23 {g : im_g} : im_D g 347 23 (.iconst 0) 24 := im_D.of (by decide +kernel)
theorem D347_24 {g : im_g} : im_D g 347 24 (.ireturn) 25 := im_D.of (by decide +kernel)
theorem D347_25 {g : im_g} : im_D g 347 25 (.aload_n 0) 26 := im_D.of (by decide +kernel)
theorem D347_26 {g : im_g} : im_D g 347 26 (.iconst 4) 27 := im_D.of (by decide +kernel)
theorem D347_27 {g : im_g} : im_D g 347 27 (.iconst 1) 28 := im_D.of (by decide +kernel)
theorem D347_28 {g : im_g} : im_D g 347 28 (.iload_n 1) 29 := im_D.of (by decide +kernel)
theorem D347_29 {g : im_g} : im_D g 347 29 (.i2l) 30 := im_D.of (by decide +kernel)
theorem D347_30 {g : im_g} : im_D g 347 30 (.lconst 0) 31 := im_D.of (by decide +kernel)
theorem D347_31 {g : im_g} : im_D g 347 31 (.lconst 0) 32 := im_D.of (by decide +kernel)
theorem D347_32 {g : im_g} : im_D g 347 32 (.iconst 0) 33 := im_D.of (by decide +kernel)
theorem D347_33 {g : im_g} : im_D g 347 33 (.invokevirtual 740) 36 := im_D.of (by decide +kernel)
theorem D347_36 {g : im_g} : im_D g 347 36 (.istore_n 2) 37 := im_D.of (by decide +kernel)
theorem D347_37 {g : im_g} : im_D g 347 37 (.iload_n 2) 38 := im_D.of (by decide +kernel)
theorem D347_38 {g : im_g} : im_D g 347 38 (.bipush (-100)) 40 := im_D.of (by decide +kernel)
theorem D347_40 {g : im_g} : im_D g 347 40 (.if_icmp .ne 10) 43 := im_D.of (by decide +kernel)
theorem D347_43 {g : im_g} : im_D g 347 43 (.aload_n 0) 44 := im_D.of (by decide +kernel)
theorem D347_44 {g : im_g} : im_D g 347 44 (.iconst 2) 45 := im_D.of (by decide +kernel)
theorem D347_45 {g : im_g} : im_D g 347 45 (.putfield 409) 48 := im_D.of (by decide +kernel)
theorem D347_48 {g : im_g} : im_D g 347 48 (.iconst 0) 49 := im_D.of (by decide +kernel)
theorem D347_49 {g : im_g} : im_D g 347 49 (.ireturn) 50 := im_D.of (by decide +kernel)
theorem D347_50 {g : im_g} : im_D g 347 50 (.aload_n 0) 51 := im_D.of (by decide +kernel)
theorem D347_51 {g : im_g} : im_D g 347 51 (.getfield 136) 54 := im_D.of (by decide +kernel)
theorem D347_54 {g : im_g} : im_D g 347 54 (.iload_n 1) 55 := im_D.of (by decide +kernel)
theorem D347_55 {g : im_g} : im_D g 347 55 (.aload_n 0) 56 := im_D.of (by decide +kernel)
theorem D347_56 {g : im_g} : im_D g 347 56 (.getfield 136) 59 := im_D.of (by decide +kernel)
theorem D347_59 {g : im_g} : im_D g 347 59 (.iload_n 1) 60 := im_D.of (by decide +kernel)
theorem D347_60 {g : im_g} : im_D g 347 60 (.baload) 61 := im_D.of (by decide +kernel)
theorem D347_61 {g : im_g} : im_D g 347 61 (.ifCond .eq 11) 64 := im_D.of (by decide +kernel)
theorem D347_64 {g : im_g} : im_D g 347 64 (.iload_n 2) 65 := im_D.of (by decide +kernel)
theorem D347_65 {g : im_g} : im_D g 347 65 (.ifCond .ge 7) 68 := im_D.of (by decide +kernel)
theorem D347_68 {g : im_g} : im_D g 347 68 (.iconst 1) 69 := im_D.of (by decide +kernel)
theorem D347_69 {g : im_g} : im_D g 347 69 (.goto 4) 72 := im_D.of (by decide +kernel)
theorem D347_72 {g : im_g} : im_D g 347 72 (.iconst 0) 73 := im_D.of (by decide +kernel)
theorem D347_73 {g : im_g} : im_D g 347 73 (.bastore) 74 := im_D.of (by decide +kernel)
theorem D347_74 {g : im_g} : im_D g 347 74 (.iload_n 2) 75 := im_D.of (by decide +kernel)
theorem D347_75 {g : im_g} : im_D g 347 75 (.ireturn) 76 := im_D.of (by decide +kernel)
theorem D348_0 {g : im_g} : im_D g 348 0 (.aload_n 0) 1 := im_D.of (by decide +kernel)
theorem D348_1 {g : im_g} : im_D g 348 1 (.iload_n 1) 2 := im_D.of (by decide +kernel)
theorem D348_2 {g : im_g} : im_D g 348 2 (.invokevirtual 840) 5 := im_D.of (by decide +kernel)
theorem D348_5 {g : im_g} : im_D g 348 5 (.ifCond .eq 31) 8 := im_D.of (by decide +kernel)
theorem D348_8 {g : im_g} : im_D g 348 8 (.aload_n 0) 9 := im_D.of (by decide +kernel)
theorem D348_9 {g : im_g} : im_D g 348 9 (.getfield 33) 12 := im_D.of (by decide +kernel)
theorem D348_12 {g : im_g} : im_D g 348 12 (.aload_n 0) 13 := im_D.of (by decide +kernel)
theorem D348_13 {g : im_g} : im_D g 348 13 (.getfield 139) 16 := im_D.of (by decide +kernel)
theorem D348_16 {g : im_g} : im_D g 348 16 (.iload_n 1) 17 := im_D.of (by decide +kernel)
theorem D348_17 {g : im_g} : im_D g 348 17 (.iaload) 18 := im_D.of (by decide +kernel)
theorem D348_18 {g : im_g} : im_D g 348 18 (.iaload) 19 := im_D.of (by decide +kernel)
theorem D348_19 {g : im_g} : im_D g 348 19 (.iconst 1) 20 := im_D.of (by decide +kernel)
theorem D348_20 {g : im_g} : im_D g 348 20 (.if_icmp .ne 16) 23 := im_D.of (by decide +kernel)
theorem D348_23 {g : im_g} : im_D g 348 23 (.aload_n 0) 24 := im_D.of (by decide +kernel)
theorem D348_24 {g : im_g} : im_D g 348 24 (.getfield 145) 27 := im_D.of (by decide +kernel)
theorem D348_27 {g : im_g} : im_D g 348 27 (.iload_n 1) 28 := im_D.of (by decide +kernel)
theorem D348_28 {g : im_g} : im_D g 348 28 (.iaload) 29 := im_D.of (by decide +kernel)
theorem D348_29 {g : im_g} : im_D g 348 29 (.ifCond .ne 7) 32 := im_D.of (by decide +kernel)
theorem D348_32 {g : im_g} : im_D g 348 32 (.iconst 1) 33 := im_D.of (by decide +kernel)
theorem D348_33 {g : im_g} : im_D g 348 33 (.goto 4) 36 := im_D.of (by decide +kernel)
theorem D348_36 {g : im_g} : im_D g 348 36 (.iconst 0) 37 := im_D.of (by decide +kernel)
theorem D348_37 {g : im_g} : im_D g 348 37 (.ireturn) 38 := im_D.of (by decide +kernel)
theorem D349_0 {g : im_g} : im_D g 349 0 (.iload_n 1) 1 := im_D.of (by decide +kernel)
theorem D349_1 {g : im_g} : im_D g 349 1 (.i2l) 2 := im_D.of (by decide +kernel)
theorem D349_2 {g : im_g} : im_D g 349 2 (.lconst 0) 3 := im_D.of (by decide +kernel)
theorem D349_3 {g : im_g} : im_D g 349 3 (.ldc2_w 729) 6 := im_D.of (by decide +kernel)
theorem D349_6 {g : im_g} : im_D g 349 6 (.invokestatic 428) 9 := im_D.of (by decide +kernel)
theorem D349_9 {g : im_g} : im_D g 349 9 (.ifCond .eq 16) 12 := im_D.of (by decide +kernel)
theorem D349_12 {g : im_g} : im_D g 349 12 (.aload_n 0) 13 := im_D.of (by decide +kernel)
theorem D349_13 {g : im_g} : im_D g 349 13 (.getfield 136) 16 := im_D.of (by decide +kernel)
theorem D349_16 {g : im_g} : im_D g 349 16 (.iload_n 1) 17 := im_D.of (by decide +kernel)
theorem D349_17 {g : im_g} : im_D g 349 17 (.baload) 18 := im_D.of (by decide +kernel)
theorem D349_18 {g : im_g} : im_D g 349 18 (.ifCond .eq 7) 21 := im_D.of (by decide +kernel)
theorem D349_21 {g : im_g} : im_D g 349 21 (.iconst 1) 22 := im_D.of (by decide +kernel)
theorem D349_22 {g : im_g} : im_D g 349 22 (.goto 4) 25 := im_D.of (by decide +kernel)
theorem D349_25 {g : im_g} : im_D g 349 25 (.iconst 0) 26 := im_D.of (by decide +kernel)
theorem D349_26 {g : im_g} : im_D g 349 26 (.ireturn) 27 := im_D.of (by decide +kernel)
theorem D350_0 {g : im_g} : im_D g 350 0 (.aload_n 0) 1 := im_D.of (by decide +kernel)
theorem D350_1 {g : im_g} : im_D g 350 1 (.iconst 2) 2 := im_D.of (by decide +kernel)
theorem D350_2 {g : im_g} : im_D g 350 2 (.iload_n 1) 3 := im_D.of (by decide +kernel)
theorem D350_3 {g : im_g} : im_D g 350 3 (.i2l) 4 := im_D.of (by decide +kernel)
theorem D350_4 {g : im_g} : im_D g 350 4 (.lconst 0) 5 := im_D.of (by decide +kernel)
theorem D350_5 {g : im_g} : im_D g 350 5 (.ldc2_w 729) 8 := im_D.of (by decide +kernel)
theorem D350_8 {g : im_g} : im_D g 350 8 (.invokestatic 428) 11 := im_D.of (by decide +kernel)
theorem D350_11 {g : im_g} : im_D g 350 11 (.aload_n 0) 12 := im_D.of (by decide +kernel)
theorem D350_12 {g : im_g} : im_D g 350 12 (.iload_n 1) 13 := im_D.of (by decide +kernel)
theorem D350_13 {g : im_g} : im_D g 350 13 (.invokevirtual 840) 16 := im_D.of (by decide +kernel)
theorem D350_16 {g : im_g} : im_D g 350 16 (.iconst 1) 17 := im_D.of (by decide +kernel)
theorem D350_17 {g : im_g} : im_D g 350 17 (.invokevirtual 419) 20 := im_D.of (by decide +kernel)
theorem D350_20 {g : im_g} : im_D g 350 20 (.ifCond .eq 16) 23 := im_D.of (by decide +kernel)
theorem D350_23 {g : im_g} : im_D g 350 23 (.aload_n 0) 24 := im_D.of (by decide +kernel)
theorem D350_24 {g : im_g} : im_D g 350 24 (.aload_n 0) 25 := im_D.of (by decide +kernel)
theorem D350_25 {g : im_g} : im_D g 350 25 (.getfield 139) 28 := im_D.of (by decide +kernel)
theorem D350_28 {g : im_g} : im_D g 350 28 (.iload_n 1) 29 := im_D.of (by decide +kernel)
theorem D350_29 {g : im_g} : im_D g 350 29 (.iaload) 30 := im_D.of (by decide +kernel)
theorem D350_30 {g : im_g} : im_D g 350 30 (.invokevirtual 776) 33 := im_D.of (by decide +kernel)
theorem D350_33 {g : im_g} : im_D g 350 33 (.goto 4) 36 := im_D.of (by decide +kernel)
theorem D350_36 {g : im_g} : im_D g 350 36 (.iconst 0) 37 := im_D.of (by decide +kernel)
theorem D350_37 {g : im_g} : im_D g 350 37 (.ireturn) 38 := im_D.of (by decide +kernel)
theorem D351_0 {g : im_g} : im_D g 351 0 (.aload_n 0) 1 := im_D.of (by decide +kernel)
theorem D351_1 {g : im_g} : im_D g 351 1 (.iconst 3) 2 := im_D.of (by decide +kernel)
theorem D351_2 {g : im_g} : im_D g 351 2 (.iload_n 1) 3 := im_D.of (by decide +kernel)
theorem D351_3 {g : im_g} : im_D g 351 3 (.i2l) 4 := im_D.of (by decide +kernel)
theorem D351_4 {g : im_g} : im_D g 351 4 (.lconst 0) 5 := im_D.of (by decide +kernel)
theorem D351_5 {g : im_g} : im_D g 351 5 (.ldc2_w 729) 8 := im_D.of (by decide +kernel)
theorem D351_8 {g : im_g} : im_D g 351 8 (.invokestatic 428) 11 := im_D.of (by decide +kernel)
theorem D351_11 {g : im_g} : im_D g 351 11 (.iload_n 2) 12 := im_D.of (by decide +kernel)
theorem D351_12 {g : im_g} : im_D g 351 12 (.i2l) 13 := im_D.of (by decide +kernel)
theorem D351_13 {g : im_g} : im_D g 351 13 (.lconst 0) 14 := im_D.of (by decide +kernel)
theorem D351_14 {g : im_g} : im_D g 351 14 (.ldc2_w 846) 17 := im_D.of (by decide +kernel)
theorem D351_17 {g : im_g} : im_D g 351 17 (.invokestatic 428) 20 := im_D.of (by decide +kernel)
theorem D351_20 {g : im_g} : im_D g 351 20 (.aload_n 0) 21 := im_D.of (by decide +kernel)
theorem D351_21 {g : im_g} : im_D g 351 21 (.iload_n 1) 22 := im_D.of (by decide +kernel)
theorem D351_22 {g : im_g} : im_D g 351 22 (.invokevirtual 840) 25 := im_D.of (by decide +kernel)
theorem D351_25 {g : im_g} : im_D g 351 25 (.invokevirtual 419) 28 := im_D.of (by decide +kernel)
theorem D351_28 {g : im_g} : im_D g 351 28 (.ifCond .ne 5) 31 := im_D.of (by decide +kernel)
theorem D351_31 {g : im_g} : im_D g 351 31 (.lconst 0) 32 := im_D.of (by decide +kernel)
theorem D351_32 {g : im_g} : im_D g 351 32 (.lreturn) 33 := im_D.of (by decide +kernel)
theorem D351_33 {g : im_g} : im_D g 351 33 (.iload_n 2) 34 := im_D.of (by decide +kernel)
theorem D351_34 {g : im_g} : im_D g 351 34 (.ifCond .ne 12) 37 := im_D.of (by decide +kernel)
theorem D351_37 {g : im_g} : im_D g 351 37 (.aload_n 0) 38 := im_D.of (by decide +kernel)
theorem D351_38 {g : im_g} : im_D g 351 38 (.getfield 142) 41 := im_D.of (by decide +kernel)
theorem D351_41 {g : im_g} : im_D g 351 41 (.iload_n 1) 42 := im_D.of (by decide +kernel)
theorem D351_42 {g : im_g} : im_D g 351 42 (.laload) 43 := im_D.of (by decide +kernel)
theorem D351_43 {g : im_g} : im_D g 351 43 (.goto 31) 46 := im_D.of (by decide +kernel)
theorem D351_46 {g : im_g} : im_D g 351 46 (.iload_n 2) 47 := im_D.of (by decide +kernel)
theorem D351_47 {g : im_g} : im_D g 351 47 (.iconst 5) 48 := im_D.of (by decide +kernel)
theorem D351_48 {g : im_g} : im_D g 351 48 (.if_icmp .ne 19) 51 := im_D.of (by decide +kernel)
theorem D351_51 {g : im_g} : im_D g 351 51 (.aload_n 0) 52 := im_D.of (by decide +kernel)
theorem D351_52 {g : im_g} : im_D g 351 52 (.iload_n 1) 53 := im_D.of (by decide +kernel)
theorem D351_53 {g : im_g} : im_D g 351 53 (.invokevirtual 843) 56 := im_D.of (by decide +kernel)
theorem D351_56 {g : im_g} : im_D g 351 56 (.ifCond .eq 7) 59 := im_D.of (by decide +kernel)
theorem D351_59 {g : im_g} : im_D g 351 59 (.lconst 1) 60 := im_D.of (by decide +kernel)
theorem D351_60 {g : im_g} : im_D g 351 60 (.goto 14) 63 := im_D.of (by decide +kernel)
theorem D351_63 {g : im_g} : im_D g 351 63 (.lconst 0) 64 := im_D.of (by decide +kernel)
theorem D351_64 {g : im_g} : im_D g 351 64 (.goto 10) 67 := im_D.of (by decide +kernel)
theorem D351_67 {g : im_g} : im_D g 351 67 (.aload_n 0) 68 := im_D.of (by decide +kernel)
theorem D351_68 {g : im_g} : im_D g 351 68 (.iload_n 1) 69 := im_D.of (by decide +kernel)
theorem D351_69 {g : im_g} : im_D g 351 69 (.iload_n 2) 70 := im_D.of (by decide +kernel)
theorem D351_70 {g : im_g} : im_D g 351 70 (.invokevirtual 848) 73 := im_D.of (by decide +kernel)
theorem D351_73 {g : im_g} : im_D g 351 73 (.i2l) 74 := im_D.of (by decide +kernel)
theorem D351_74 {g : im_g} : im_D g 351 74 (.lreturn) 75 := im_D.of (by decide +kernel)
theorem D352_0 {g : im_g} : im_D g 352 0 (.iload_n 2) 1 := im_D.of (by decide +kernel)
theorem D352_1 {g : im_g} : im_D g 352 1 (.iconst 1) 2 := im_D.of (by decide +kernel)
theorem D352_2 {g : im_g} : im_D g 352 2 (.if_icmp .ne 12) 5 := im_D.of (by decide +kernel)
theorem D352_5 {g : im_g} : im_D g 352 5 (.aload_n 0) 6 := im_D.of (by decide +kernel)
theorem D352_6 {g : im_g} : im_D g 352 6 (.getfield 145) 9 := im_D.of (by decide +kernel)
theorem D352_9 {g : im_g} : im_D g 352 9 (.iload_n 1) 10 := im_D.of (by decide +kernel)
theorem D352_10 {g : im_g} : im_D g 352 10 (.iaload) 11 := im_D.of (by decide +kernel)
theorem D352_11 {g : im_g} : im_D g 352 11 (.goto 37) 14 := im_D.of (by decide +kernel)
theorem D352_14 {g : im_g} : im_D g 352 14 (.iload_n 2) 15 := im_D.of (by decide +kernel)
theorem D352_15 {g : im_g} : im_D g 352 15 (.iconst 2) 16 := im_D.of (by decide +kernel)
theorem D352_16 {g : im_g} : im_D g 352 16 (.if_icmp .ne 12) 19 := im_D.of (by decide +kernel)
theorem D352_19 {g : im_g} : im_D g 352 19 (.aload_n 0) 20 := im_D.of (by decide +kernel)
theorem D352_20 {g : im_g} : im_D g 352 20 (.getfield 158) 23 := im_D.of (by decide +kernel)
theorem D352_23 {g : im_g} : im_D g 352 23 (.iload_n 1) 24 := im_D.of (by decide +kernel)
theorem D352_24 {g : im_g} : im_D g 352 24 (.iaload) 25 := im_D.of (by decide +kernel)
theorem D352_25 {g : im_g} : im_D g 352 25 (.goto 23) 28 := im_D.of (by decide +kernel)
theorem D352_28 {g : im_g} : im_D g 352 28 (.iload_n 2) 29 := im_D.of (by decide +kernel)
theorem D352_29 {g : im_g} : im_D g 352 29 (.iconst 3) 30 := im_D.of (by decide +kernel)
theorem D352_30 {g : im_g} : im_D g 352 30 (.if_icmp .ne 12) 33 := im_D.of (by decide +kernel)
theorem D352_33 {g : im_g} : im_D g 352 33 (.aload_n 0) 34 := im_D.of (by decide +kernel)
theorem D352_34 {g : im_g} : im_D g 352 34 (.getfield 170) 37 := im_D.of (by decide +kernel)
theorem D352_37 {g : im_g} : im_D g 352 37 (.iload_n 1) 38 := im_D.of (by decide +kernel)
theorem D352_38 {g : im_g} : im_D g 352 38 (.iaload) 39 := im_D.of (by decide +kernel)
theorem D352_39 {g : im_g} : im_D g 352 39 (.goto 9) 42 := im_D.of (by decide +kernel)
theorem D352_42 {g : im_g} : im_D g 352 42 (.aload_n 0) 43 := im_D.of (by decide +kernel)
theorem D352_43 {g : im_g} : im_D g 352 43 (.getfield 179) 46 := im_D.of (by decide +kernel)
theorem D352_46 {g : im_g} : im_D g 352 46 (.iload_n 1) 47 := im_D.of (by decide +kernel)
theorem D352_47 {g : im_g} : im_D g 352 47 (.iaload) 48 := im_D.of (by decide +kernel)
theorem D352_48 {g : im_g} : im_D g 352 48 (.ireturn) 49 := im_D.of (by decide +kernel)
set_option maxRecDepth 20000 in
set_option maxHeartbeats 4000000 in
theorem b_tryBegin_0 {g : im_g} {d : Nat} {e : im_E} {M : im_M} {K : im_K} {p1 p2 p3 : Int} (hd : 1 ≤ d) (hP : (im_i32 p1) ∧ im_T g (d - 1) 268 0 [some (vL p1), none, some (vL 0), none, some (vL 15), none] [] e M (im_ri (fun x3 e_ M2 => e = e_ ∧ (im_i32 x3) ∧ ((x3 = 0 → ((((¬ 0 = 0 → (0 ≤ p1 ∧ p1 < 16) ∧ (((M2 6994 p1) = 0 → (0 ≤ p2 ∧ p2 < 16) ∧ ((¬ (M2 6984 p2) = 0 → im_T g (d - 1) 344 0 [some (.ref 6952), some (vI p2), none, none, none, none] [] e (im_u M2 6952 7 (M2 6952 6)) (im_ri (fun x19 e_ M18 => e = e_ ∧ (im_i32 x19) ∧ ((∀ x22 : Int, (((x19 = 0) ∧ x22 = (-11)) ∨ ((¬ x19 = 0) ∧ x22 = 0)) → K (.inl (some (vI x22))) e M18))))))))))) ∧ ((((0 = 0)) ∨ ((¬ 0 = 0) ∧ (¬ (M2 6994 p1) = 0)) ∨ ((¬ 0 = 0) ∧ ((M2 6994 p1) = 0) ∧ ((M2 6984 p2) = 0))) → K (.inl (some (vI (-101)))) e M2))) ∧ (¬ x3 = 0 → (im_i32 p2) ∧ im_T g (d - 1) 268 0 [some (vL p2), none, some (vL 0), none, some (vL 15), none] [] e M2 (im_ri (fun x28 e_ M27 => e = e_ ∧ (im_i32 x28) ∧ ((x28 = 0 → ((((¬ 0 = 0 → (0 ≤ p1 ∧ p1 < 16) ∧ (((M27 6994 p1) = 0 → (0 ≤ p2 ∧ p2 < 16) ∧ ((¬ (M27 6984 p2) = 0 → im_T g (d - 1) 344 0 [some (.ref 6952), some (vI p2), none, none, none, none] [] e (im_u M27 6952 7 (M27 6952 6)) (im_ri (fun x43 e_ M42 => e = e_ ∧ (im_i32 x43) ∧ ((∀ x46 : Int, (((x43 = 0) ∧ x46 = (-11)) ∨ ((¬ x43 = 0) ∧ x46 = 0)) → K (.inl (some (vI x46))) e M42))))))))))) ∧ ((((0 = 0)) ∨ ((¬ 0 = 0) ∧ (¬ (M27 6994 p1) = 0)) ∨ ((¬ 0 = 0) ∧ ((M27 6994 p1) = 0) ∧ ((M27 6984 p2) = 0))) → K (.inl (some (vI (-101)))) e M27))) ∧ (¬ x28 = 0 → im_T g (d - 1) 268 0 [some (vL p3), none, some (vL 0), none, some (vL 1000000000000000), none] [] e M27 (im_ri (fun x52 e_ M51 => e = e_ ∧ (im_i32 x52) ∧ ((x52 = 0 → ((((¬ 0 = 0 → (0 ≤ p1 ∧ p1 < 16) ∧ (((M51 6994 p1) = 0 → (0 ≤ p2 ∧ p2 < 16) ∧ ((¬ (M51 6984 p2) = 0 → im_T g (d - 1) 344 0 [some (.ref 6952), some (vI p2), none, none, none, none] [] e (im_u M51 6952 7 (M51 6952 6)) (im_ri (fun x67 e_ M66 => e = e_ ∧ (im_i32 x67) ∧ ((∀ x70 : Int, (((x67 = 0) ∧ x70 = (-11)) ∨ ((¬ x67 = 0) ∧ x70 = 0)) → K (.inl (some (vI x70))) e M66))))))))))) ∧ ((((0 = 0)) ∨ ((¬ 0 = 0) ∧ (¬ (M51 6994 p1) = 0)) ∨ ((¬ 0 = 0) ∧ ((M51 6994 p1) = 0) ∧ ((M51 6984 p2) = 0))) → K (.inl (some (vI (-101)))) e M51))) ∧ (¬ x52 = 0 → ((((¬ 1 = 0 → (0 ≤ p1 ∧ p1 < 16) ∧ (((M51 6994 p1) = 0 → (0 ≤ p2 ∧ p2 < 16) ∧ ((¬ (M51 6984 p2) = 0 → im_T g (d - 1) 344 0 [some (.ref 6952), some (vI p2), none, none, none, none] [] e (im_u M51 6952 7 (M51 6952 6)) (im_ri (fun x87 e_ M86 => e = e_ ∧ (im_i32 x87) ∧ ((∀ x90 : Int, (((x87 = 0) ∧ x90 = (-11)) ∨ ((¬ x87 = 0) ∧ x90 = 0)) → K (.inl (some (vI x90))) e M86))))))))))) ∧ ((((1 = 0)) ∨ ((¬ 1 = 0) ∧ (¬ (M51 6994 p1) = 0)) ∨ ((¬ 1 = 0) ∧ ((M51 6994 p1) = 0) ∧ ((M51 6984 p2) = 0))) → K (.inl (some (vI (-101)))) e M51))))))))))))))) : im_T g d 343 0 [some (.ref 6952), some (vI p1), some (vI p2), some (vL p3), none, none] [] e M K := by
  refine im_ld (q := 1) (i := 1) D343_0 rfl rfl rfl ?_
  obtain ⟨hg1, hP⟩ := hP
  refine im_i2l (q := 2) D343_1 hg1 ?_
  refine im_lconst (q := 3) (z := 0) D343_2 rfl ?_
  refine im_ldc2 (q := 6) (n := 15) D343_3 rfl ?_
  refine im_callS (q := 9) (kd := 0) (y := 268) (n := 3) (z := 12) (vs := [vL p1, vL 0, vL 15]) (r := []) (L2 := [some (vL p1), none, some (vL 0), none, some (vL 15), none]) D343_6 rfl (im_cal cn_343 cl_12_428) (Or.inl rfl) rfl rfl rfl rfl rfl hd ⟨rfl, rfl, rfl, trivial⟩ ?_
  refine hP.mono ?_
  rintro _ e97 M2 ⟨x3, rfl, rfl, hP⟩
  refine im_bkS ?_
  obtain ⟨hg4, hP⟩ := hP
  refine im_ifc (q := 12) (t := 39) D343_9 rfl hg4 (fun hc5 => ?_) (fun hc5 => ?_)
  · replace hP := hP.1 hc5
    refine im_iconst (q := 40) D343_39 ?_
    refine im_st1 (q := 42) (i := 5) (L' := [some (.ref 6952), some (vI p1), some (vI p2), some (vL p3), none, some (vI 0)]) D343_40 (Or.inr rfl) (Nat.le_of_ble_eq_true rfl) rfl ?_
    refine im_ld (q := 44) (i := 5) D343_42 rfl rfl rfl ?_
    obtain ⟨hP, hJ15⟩ := hP
    have kJ16 : (((0 = 0)) ∨ ((¬ 0 = 0) ∧ (¬ (M2 6994 p1) = 0)) ∨ ((¬ 0 = 0) ∧ ((M2 6994 p1) = 0) ∧ ((M2 6984 p2) = 0))) → im_T g d 343 65 [none, none, none, none, none, none] [] e M2 K := by
      intro  hx17
      have hP := hJ15  hx17
      refine im_bipush (q := 67) D343_65 rfl ?_
      exact im_iret (q := 68) D343_67 rfl hP
    refine im_ifc (q := 47) (t := 65) D343_44 rfl (by decide) (fun hc7 => ?_) (fun hc7 => ?_)
    · exact (kJ16  (Or.inl hc7)).wk trivial
    · replace hP := hP hc7
      refine im_ld (q := 48) (i := 0) D343_47 rfl rfl rfl ?_
      refine im_gfR (q := 51) (b := 6994) D343_48 (im_fl cn_343 fl_12_136) sf_6952 rfl rfl tR_12_66 rf_6952_66 ?_
      refine im_ld (q := 52) (i := 1) D343_51 rfl rfl rfl ?_
      obtain ⟨hg8, hP⟩ := hP
      refine im_rng (j := p1) sf_6994 hg8.1 hg8.2 (fun hr9 => ?_)
      refine im_bald (q := 53) D343_52 sf_6994 (Or.inr rfl) hg8.1 hg8.2 (by decide) rfl ?_
      refine im_ifc (q := 56) (t := 65) D343_53 rfl (im_z32 hr9) (fun hc10 => ?_) (fun hc10 => ?_)
      · exact (kJ16  (Or.inr (Or.inl ⟨hc7, hc10⟩))).wk trivial
      · replace hP := hP (Decidable.not_not.mp hc10)
        refine im_ld (q := 57) (i := 0) D343_56 rfl rfl rfl ?_
        refine im_gfR (q := 60) (b := 6984) D343_57 (im_fl cn_343 fl_12_106) sf_6952 rfl rfl tR_12_52 rf_6952_52 ?_
        refine im_ld (q := 61) (i := 2) D343_60 rfl rfl rfl ?_
        obtain ⟨hg11, hP⟩ := hP
        refine im_rng (j := p2) sf_6984 hg11.1 hg11.2 (fun hr12 => ?_)
        refine im_bald (q := 62) D343_61 sf_6984 (Or.inr rfl) hg11.1 hg11.2 (by decide) rfl ?_
        refine im_ifc (q := 65) (t := 68) D343_62 rfl (im_z32 hr12) (fun hc13 => ?_) (fun hc13 => ?_)
        · replace hP := hP hc13
          refine im_ld (q := 69) (i := 0) D343_68 rfl rfl rfl ?_
          refine im_ld (q := 70) (i := 0) D343_69 rfl rfl rfl ?_
          refine im_rng (j := 6) sf_6952 (by decide) (by decide) (fun hr14 => ?_)
          refine im_gfI (q := 73) D343_70 (im_fl cn_343 fl_12_617) sf_6952 rfl rfl tI_12_6 rfl ?_
          refine im_pfI (q := 76) D343_73 (im_fl cn_343 fl_12_449) sf_6952 rfl rfl ti_12_7 hr14 ?_
          refine im_ld (q := 77) (i := 0) D343_76 rfl rfl rfl ?_
          refine im_ld (q := 78) (i := 2) D343_77 rfl rfl rfl ?_
          refine im_callV (q := 81) (kd := 1) (y := 344) (n := 1) (ci := 12) (a := 6952) (vs := [.ref 6952, vI p2]) (r := []) (L2 := [some (.ref 6952), some (vI p2), none, none, none, none]) D343_78 (im_cal cn_343 cl_12_829) (Or.inl rfl) rfl sf_6952 rfl rfl rfl rfl hd ⟨rfl, rfl, trivial⟩ ?_
          refine hP.mono ?_
          rintro _ e26 M18 ⟨x19, rfl, rfl, hP⟩
          refine im_bkS ?_
          obtain ⟨hg20, hP⟩ := hP
          have hJ23 := hP
          have kJ24 : ∀ x22 : Int, (((x19 = 0) ∧ x22 = (-11)) ∨ ((¬ x19 = 0) ∧ x22 = 0)) → im_T g d 343 90 [none, none, none, none, none, none] [vI x22] e M18 K := by
            intro x22 hx25
            have hP := hJ23 x22 hx25
            exact im_iret (q := 91) D343_90 rfl hP
          refine im_ifc (q := 84) (t := 88) D343_81 rfl hg20 (fun hc21 => ?_) (fun hc21 => ?_)
          · refine im_bipush (q := 90) D343_88 rfl ?_
            exact (kJ24 ((-11)) (Or.inl ⟨hc21, rfl⟩)).wk trivial
          · refine im_iconst (q := 85) D343_84 ?_
            refine im_goto (q := 88) (t := 90) D343_85 rfl ?_
            exact (kJ24 (0) (Or.inr ⟨hc21, rfl⟩)).wk trivial
        · exact (kJ16  (Or.inr (Or.inr ⟨hc7, (Decidable.not_not.mp hc10), (Decidable.not_not.mp hc13)⟩))).wk trivial
  · replace hP := hP.2 hc5
    refine im_ld (q := 13) (i := 2) D343_12 rfl rfl rfl ?_
    obtain ⟨hg6, hP⟩ := hP
    refine im_i2l (q := 14) D343_13 hg6 ?_
    refine im_lconst (q := 15) (z := 0) D343_14 rfl ?_
    refine im_ldc2 (q := 18) (n := 15) D343_15 rfl ?_
    refine im_callS (q := 21) (kd := 0) (y := 268) (n := 3) (z := 12) (vs := [vL p2, vL 0, vL 15]) (r := []) (L2 := [some (vL p2), none, some (vL 0), none, some (vL 15), none]) D343_18 rfl (im_cal cn_343 cl_12_428) (Or.inl rfl) rfl rfl rfl rfl rfl hd ⟨rfl, rfl, rfl, trivial⟩ ?_
    refine hP.mono ?_
    rintro _ e96 M27 ⟨x28, rfl, rfl, hP⟩
    refine im_bkS ?_
    obtain ⟨hg29, hP⟩ := hP
    refine im_ifc (q := 24) (t := 39) D343_21 rfl hg29 (fun hc30 => ?_) (fun hc30 => ?_)
    · replace hP := hP.1 hc30
      refine im_iconst (q := 40) D343_39 ?_
      refine im_st1 (q := 42) (i := 5) (L' := [some (.ref 6952), some (vI p1), some (vI p2), some (vL p3), none, some (vI 0)]) D343_40 (Or.inr rfl) (Nat.le_of_ble_eq_true rfl) rfl ?_
      refine im_ld (q := 44) (i := 5) D343_42 rfl rfl rfl ?_
      obtain ⟨hP, hJ39⟩ := hP
      have kJ40 : (((0 = 0)) ∨ ((¬ 0 = 0) ∧ (¬ (M27 6994 p1) = 0)) ∨ ((¬ 0 = 0) ∧ ((M27 6994 p1) = 0) ∧ ((M27 6984 p2) = 0))) → im_T g d 343 65 [none, none, none, none, none, none] [] e M27 K := by
        intro  hx41
        have hP := hJ39  hx41
        refine im_bipush (q := 67) D343_65 rfl ?_
        exact im_iret (q := 68) D343_67 rfl hP
      refine im_ifc (q := 47) (t := 65) D343_44 rfl (by decide) (fun hc31 => ?_) (fun hc31 => ?_)
      · exact (kJ40  (Or.inl hc31)).wk trivial
      · replace hP := hP hc31
        refine im_ld (q := 48) (i := 0) D343_47 rfl rfl rfl ?_
        refine im_gfR (q := 51) (b := 6994) D343_48 (im_fl cn_343 fl_12_136) sf_6952 rfl rfl tR_12_66 rf_6952_66 ?_
        refine im_ld (q := 52) (i := 1) D343_51 rfl rfl rfl ?_
        obtain ⟨hg32, hP⟩ := hP
        refine im_rng (j := p1) sf_6994 hg32.1 hg32.2 (fun hr33 => ?_)
        refine im_bald (q := 53) D343_52 sf_6994 (Or.inr rfl) hg32.1 hg32.2 (by decide) rfl ?_
        refine im_ifc (q := 56) (t := 65) D343_53 rfl (im_z32 hr33) (fun hc34 => ?_) (fun hc34 => ?_)
        · exact (kJ40  (Or.inr (Or.inl ⟨hc31, hc34⟩))).wk trivial
        · replace hP := hP (Decidable.not_not.mp hc34)
          refine im_ld (q := 57) (i := 0) D343_56 rfl rfl rfl ?_
          refine im_gfR (q := 60) (b := 6984) D343_57 (im_fl cn_343 fl_12_106) sf_6952 rfl rfl tR_12_52 rf_6952_52 ?_
          refine im_ld (q := 61) (i := 2) D343_60 rfl rfl rfl ?_
          obtain ⟨hg35, hP⟩ := hP
          refine im_rng (j := p2) sf_6984 hg35.1 hg35.2 (fun hr36 => ?_)
          refine im_bald (q := 62) D343_61 sf_6984 (Or.inr rfl) hg35.1 hg35.2 (by decide) rfl ?_
          refine im_ifc (q := 65) (t := 68) D343_62 rfl (im_z32 hr36) (fun hc37 => ?_) (fun hc37 => ?_)
          · replace hP := hP hc37
            refine im_ld (q := 69) (i := 0) D343_68 rfl rfl rfl ?_
            refine im_ld (q := 70) (i := 0) D343_69 rfl rfl rfl ?_
            refine im_rng (j := 6) sf_6952 (by decide) (by decide) (fun hr38 => ?_)
            refine im_gfI (q := 73) D343_70 (im_fl cn_343 fl_12_617) sf_6952 rfl rfl tI_12_6 rfl ?_
            refine im_pfI (q := 76) D343_73 (im_fl cn_343 fl_12_449) sf_6952 rfl rfl ti_12_7 hr38 ?_
            refine im_ld (q := 77) (i := 0) D343_76 rfl rfl rfl ?_
            refine im_ld (q := 78) (i := 2) D343_77 rfl rfl rfl ?_
            refine im_callV (q := 81) (kd := 1) (y := 344) (n := 1) (ci := 12) (a := 6952) (vs := [.ref 6952, vI p2]) (r := []) (L2 := [some (.ref 6952), some (vI p2), none, none, none, none]) D343_78 (im_cal cn_343 cl_12_829) (Or.inl rfl) rfl sf_6952 rfl rfl rfl rfl hd ⟨rfl, rfl, trivial⟩ ?_
            refine hP.mono ?_
            rintro _ e50 M42 ⟨x43, rfl, rfl, hP⟩
            refine im_bkS ?_
            obtain ⟨hg44, hP⟩ := hP
            have hJ47 := hP
            have kJ48 : ∀ x46 : Int, (((x43 = 0) ∧ x46 = (-11)) ∨ ((¬ x43 = 0) ∧ x46 = 0)) → im_T g d 343 90 [none, none, none, none, none, none] [vI x46] e M42 K := by
              intro x46 hx49
              have hP := hJ47 x46 hx49
              exact im_iret (q := 91) D343_90 rfl hP
            refine im_ifc (q := 84) (t := 88) D343_81 rfl hg44 (fun hc45 => ?_) (fun hc45 => ?_)
            · refine im_bipush (q := 90) D343_88 rfl ?_
              exact (kJ48 ((-11)) (Or.inl ⟨hc45, rfl⟩)).wk trivial
            · refine im_iconst (q := 85) D343_84 ?_
              refine im_goto (q := 88) (t := 90) D343_85 rfl ?_
              exact (kJ48 (0) (Or.inr ⟨hc45, rfl⟩)).wk trivial
          · exact (kJ40  (Or.inr (Or.inr ⟨hc31, (Decidable.not_not.mp hc34), (Decidable.not_not.mp hc37)⟩))).wk trivial
    · replace hP := hP.2 hc30
      refine im_ld (q := 25) (i := 3) D343_24 rfl rfl rfl ?_
      refine im_lconst (q := 26) (z := 0) D343_25 rfl ?_
      refine im_ldc2 (q := 29) (n := 1000000000000000) D343_26 rfl ?_
      refine im_callS (q := 32) (kd := 0) (y := 268) (n := 3) (z := 12) (vs := [vL p3, vL 0, vL 1000000000000000]) (r := []) (L2 := [some (vL p3), none, some (vL 0), none, some (vL 1000000000000000), none]) D343_29 rfl (im_cal cn_343 cl_12_428) (Or.inl rfl) rfl rfl rfl rfl rfl hd ⟨rfl, rfl, rfl, trivial⟩ ?_
      refine hP.mono ?_
      rintro _ e95 M51 ⟨x52, rfl, rfl, hP⟩
      refine im_bkS ?_
      obtain ⟨hg53, hP⟩ := hP
      refine im_ifc (q := 35) (t := 39) D343_32 rfl hg53 (fun hc54 => ?_) (fun hc54 => ?_)
      · replace hP := hP.1 hc54
        refine im_iconst (q := 40) D343_39 ?_
        refine im_st1 (q := 42) (i := 5) (L' := [some (.ref 6952), some (vI p1), some (vI p2), some (vL p3), none, some (vI 0)]) D343_40 (Or.inr rfl) (Nat.le_of_ble_eq_true rfl) rfl ?_
        refine im_ld (q := 44) (i := 5) D343_42 rfl rfl rfl ?_
        obtain ⟨hP, hJ63⟩ := hP
        have kJ64 : (((0 = 0)) ∨ ((¬ 0 = 0) ∧ (¬ (M51 6994 p1) = 0)) ∨ ((¬ 0 = 0) ∧ ((M51 6994 p1) = 0) ∧ ((M51 6984 p2) = 0))) → im_T g d 343 65 [none, none, none, none, none, none] [] e M51 K := by
          intro  hx65
          have hP := hJ63  hx65
          refine im_bipush (q := 67) D343_65 rfl ?_
          exact im_iret (q := 68) D343_67 rfl hP
        refine im_ifc (q := 47) (t := 65) D343_44 rfl (by decide) (fun hc55 => ?_) (fun hc55 => ?_)
        · exact (kJ64  (Or.inl hc55)).wk trivial
        · replace hP := hP hc55
          refine im_ld (q := 48) (i := 0) D343_47 rfl rfl rfl ?_
          refine im_gfR (q := 51) (b := 6994) D343_48 (im_fl cn_343 fl_12_136) sf_6952 rfl rfl tR_12_66 rf_6952_66 ?_
          refine im_ld (q := 52) (i := 1) D343_51 rfl rfl rfl ?_
          obtain ⟨hg56, hP⟩ := hP
          refine im_rng (j := p1) sf_6994 hg56.1 hg56.2 (fun hr57 => ?_)
          refine im_bald (q := 53) D343_52 sf_6994 (Or.inr rfl) hg56.1 hg56.2 (by decide) rfl ?_
          refine im_ifc (q := 56) (t := 65) D343_53 rfl (im_z32 hr57) (fun hc58 => ?_) (fun hc58 => ?_)
          · exact (kJ64  (Or.inr (Or.inl ⟨hc55, hc58⟩))).wk trivial
          · replace hP := hP (Decidable.not_not.mp hc58)
            refine im_ld (q := 57) (i := 0) D343_56 rfl rfl rfl ?_
            refine im_gfR (q := 60) (b := 6984) D343_57 (im_fl cn_343 fl_12_106) sf_6952 rfl rfl tR_12_52 rf_6952_52 ?_
            refine im_ld (q := 61) (i := 2) D343_60 rfl rfl rfl ?_
            obtain ⟨hg59, hP⟩ := hP
            refine im_rng (j := p2) sf_6984 hg59.1 hg59.2 (fun hr60 => ?_)
            refine im_bald (q := 62) D343_61 sf_6984 (Or.inr rfl) hg59.1 hg59.2 (by decide) rfl ?_
            refine im_ifc (q := 65) (t := 68) D343_62 rfl (im_z32 hr60) (fun hc61 => ?_) (fun hc61 => ?_)
            · replace hP := hP hc61
              refine im_ld (q := 69) (i := 0) D343_68 rfl rfl rfl ?_
              refine im_ld (q := 70) (i := 0) D343_69 rfl rfl rfl ?_
              refine im_rng (j := 6) sf_6952 (by decide) (by decide) (fun hr62 => ?_)
              refine im_gfI (q := 73) D343_70 (im_fl cn_343 fl_12_617) sf_6952 rfl rfl tI_12_6 rfl ?_
              refine im_pfI (q := 76) D343_73 (im_fl cn_343 fl_12_449) sf_6952 rfl rfl ti_12_7 hr62 ?_
              refine im_ld (q := 77) (i := 0) D343_76 rfl rfl rfl ?_
              refine im_ld (q := 78) (i := 2) D343_77 rfl rfl rfl ?_
              refine im_callV (q := 81) (kd := 1) (y := 344) (n := 1) (ci := 12) (a := 6952) (vs := [.ref 6952, vI p2]) (r := []) (L2 := [some (.ref 6952), some (vI p2), none, none, none, none]) D343_78 (im_cal cn_343 cl_12_829) (Or.inl rfl) rfl sf_6952 rfl rfl rfl rfl hd ⟨rfl, rfl, trivial⟩ ?_
              refine hP.mono ?_
              rintro _ e74 M66 ⟨x67, rfl, rfl, hP⟩
              refine im_bkS ?_
              obtain ⟨hg68, hP⟩ := hP
              have hJ71 := hP
              have kJ72 : ∀ x70 : Int, (((x67 = 0) ∧ x70 = (-11)) ∨ ((¬ x67 = 0) ∧ x70 = 0)) → im_T g d 343 90 [none, none, none, none, none, none] [vI x70] e M66 K := by
                intro x70 hx73
                have hP := hJ71 x70 hx73
                exact im_iret (q := 91) D343_90 rfl hP
              refine im_ifc (q := 84) (t := 88) D343_81 rfl hg68 (fun hc69 => ?_) (fun hc69 => ?_)
              · refine im_bipush (q := 90) D343_88 rfl ?_
                exact (kJ72 ((-11)) (Or.inl ⟨hc69, rfl⟩)).wk trivial
              · refine im_iconst (q := 85) D343_84 ?_
                refine im_goto (q := 88) (t := 90) D343_85 rfl ?_
                exact (kJ72 (0) (Or.inr ⟨hc69, rfl⟩)).wk trivial
            · exact (kJ64  (Or.inr (Or.inr ⟨hc55, (Decidable.not_not.mp hc58), (Decidable.not_not.mp hc61)⟩))).wk trivial
      · replace hP := hP.2 hc54
        refine im_iconst (q := 36) D343_35 ?_
        refine im_goto (q := 39) (t := 40) D343_36 rfl ?_
        refine im_st1 (q := 42) (i := 5) (L' := [some (.ref 6952), some (vI p1), some (vI p2), some (vL p3), none, some (vI 1)]) D343_40 (Or.inr rfl) (Nat.le_of_ble_eq_true rfl) rfl ?_
        refine im_ld (q := 44) (i := 5) D343_42 rfl rfl rfl ?_
        obtain ⟨hP, hJ83⟩ := hP
        have kJ84 : (((1 = 0)) ∨ ((¬ 1 = 0) ∧ (¬ (M51 6994 p1) = 0)) ∨ ((¬ 1 = 0) ∧ ((M51 6994 p1) = 0) ∧ ((M51 6984 p2) = 0))) → im_T g d 343 65 [none, none, none, none, none, none] [] e M51 K := by
          intro  hx85
          have hP := hJ83  hx85
          refine im_bipush (q := 67) D343_65 rfl ?_
          exact im_iret (q := 68) D343_67 rfl hP
        refine im_ifc (q := 47) (t := 65) D343_44 rfl (by decide) (fun hc75 => ?_) (fun hc75 => ?_)
        · exact (kJ84  (Or.inl hc75)).wk trivial
        · replace hP := hP hc75
          refine im_ld (q := 48) (i := 0) D343_47 rfl rfl rfl ?_
          refine im_gfR (q := 51) (b := 6994) D343_48 (im_fl cn_343 fl_12_136) sf_6952 rfl rfl tR_12_66 rf_6952_66 ?_
          refine im_ld (q := 52) (i := 1) D343_51 rfl rfl rfl ?_
          obtain ⟨hg76, hP⟩ := hP
          refine im_rng (j := p1) sf_6994 hg76.1 hg76.2 (fun hr77 => ?_)
          refine im_bald (q := 53) D343_52 sf_6994 (Or.inr rfl) hg76.1 hg76.2 (by decide) rfl ?_
          refine im_ifc (q := 56) (t := 65) D343_53 rfl (im_z32 hr77) (fun hc78 => ?_) (fun hc78 => ?_)
          · exact (kJ84  (Or.inr (Or.inl ⟨hc75, hc78⟩))).wk trivial
          · replace hP := hP (Decidable.not_not.mp hc78)
            refine im_ld (q := 57) (i := 0) D343_56 rfl rfl rfl ?_
            refine im_gfR (q := 60) (b := 6984) D343_57 (im_fl cn_343 fl_12_106) sf_6952 rfl rfl tR_12_52 rf_6952_52 ?_
            refine im_ld (q := 61) (i := 2) D343_60 rfl rfl rfl ?_
            obtain ⟨hg79, hP⟩ := hP
            refine im_rng (j := p2) sf_6984 hg79.1 hg79.2 (fun hr80 => ?_)
            refine im_bald (q := 62) D343_61 sf_6984 (Or.inr rfl) hg79.1 hg79.2 (by decide) rfl ?_
            refine im_ifc (q := 65) (t := 68) D343_62 rfl (im_z32 hr80) (fun hc81 => ?_) (fun hc81 => ?_)
            · replace hP := hP hc81
              refine im_ld (q := 69) (i := 0) D343_68 rfl rfl rfl ?_
              refine im_ld (q := 70) (i := 0) D343_69 rfl rfl rfl ?_
              refine im_rng (j := 6) sf_6952 (by decide) (by decide) (fun hr82 => ?_)
              refine im_gfI (q := 73) D343_70 (im_fl cn_343 fl_12_617) sf_6952 rfl rfl tI_12_6 rfl ?_
              refine im_pfI (q := 76) D343_73 (im_fl cn_343 fl_12_449) sf_6952 rfl rfl ti_12_7 hr82 ?_
              refine im_ld (q := 77) (i := 0) D343_76 rfl rfl rfl ?_
              refine im_ld (q := 78) (i := 2) D343_77 rfl rfl rfl ?_
              refine im_callV (q := 81) (kd := 1) (y := 344) (n := 1) (ci := 12) (a := 6952) (vs := [.ref 6952, vI p2]) (r := []) (L2 := [some (.ref 6952), some (vI p2), none, none, none, none]) D343_78 (im_cal cn_343 cl_12_829) (Or.inl rfl) rfl sf_6952 rfl rfl rfl rfl hd ⟨rfl, rfl, trivial⟩ ?_
              refine hP.mono ?_
              rintro _ e94 M86 ⟨x87, rfl, rfl, hP⟩
              refine im_bkS ?_
              obtain ⟨hg88, hP⟩ := hP
              have hJ91 := hP
              have kJ92 : ∀ x90 : Int, (((x87 = 0) ∧ x90 = (-11)) ∨ ((¬ x87 = 0) ∧ x90 = 0)) → im_T g d 343 90 [none, none, none, none, none, none] [vI x90] e M86 K := by
                intro x90 hx93
                have hP := hJ91 x90 hx93
                exact im_iret (q := 91) D343_90 rfl hP
              refine im_ifc (q := 84) (t := 88) D343_81 rfl hg88 (fun hc89 => ?_) (fun hc89 => ?_)
              · refine im_bipush (q := 90) D343_88 rfl ?_
                exact (kJ92 ((-11)) (Or.inl ⟨hc89, rfl⟩)).wk trivial
              · refine im_iconst (q := 85) D343_84 ?_
                refine im_goto (q := 88) (t := 90) D343_85 rfl ?_
                exact (kJ92 (0) (Or.inr ⟨hc89, rfl⟩)).wk trivial
            · exact (kJ84  (Or.inr (Or.inr ⟨hc75, (Decidable.not_not.mp hc78), (Decidable.not_not.mp hc81)⟩))).wk trivial
set_option maxRecDepth 20000 in
set_option maxHeartbeats 4000000 in
theorem b_areTold_0 {g : im_g} {d : Nat} {e : im_E} {M : im_M} {K : im_K} {p1 : Int} (hP : (0 ≤ p1 ∧ p1 < 16) ∧ im_T g d 344 9 [some (.ref 6952), some (vI p1), some (vI 1), some (vI (M 6985 p1)), none, none] [] e M K) : im_T g d 344 0 [some (.ref 6952), some (vI p1), none, none, none, none] [] e M K := by
  refine im_iconst (q := 1) D344_0 ?_
  refine im_st1 (q := 2) (i := 2) (L' := [some (.ref 6952), some (vI p1), some (vI 1), none, none, none]) D344_1 (Or.inl ⟨_, rfl, rfl⟩) (Nat.le_of_ble_eq_true rfl) rfl ?_
  refine im_ld (q := 3) (i := 0) D344_2 rfl rfl rfl ?_
  refine im_gfR (q := 6) (b := 6985) D344_3 (im_fl cn_344 fl_12_109) sf_6952 rfl rfl tR_12_53 rf_6952_53 ?_
  refine im_ld (q := 7) (i := 1) D344_6 rfl rfl rfl ?_
  obtain ⟨hg1, hP⟩ := hP
  refine im_rng (j := p1) sf_6985 hg1.1 hg1.2 (fun hr2 => ?_)
  refine im_iald (q := 8) D344_7 sf_6985 hg1.1 hg1.2 (by decide) rfl ?_
  refine im_st1 (q := 9) (i := 3) (L' := [some (.ref 6952), some (vI p1), some (vI 1), some (vI (M 6985 p1)), none, none]) D344_8 (Or.inl ⟨_, rfl, rfl⟩) (Nat.le_of_ble_eq_true rfl) rfl ?_
  exact hP.wk ⟨rfl, rfl, rfl, rfl, trivial⟩
set_option maxRecDepth 20000 in
set_option maxHeartbeats 4000000 in
theorem b_areTold_9 {g : im_g} {d : Nat} {e : im_E} {M : im_M} {K : im_K} {p1 p2 p3 : Int} (hd : 1 ≤ d) (hP : (0 ≤ p1 ∧ p1 < 16) ∧ (im_i32 p3) ∧ (im_i32 ((M 6985 p1) + (M 6986 p1))) ∧ ((((p3 < ((M 6985 p1) + (M 6986 p1)) → (im_i32 p2) ∧ ((¬ p2 = 0 → (0 ≤ p3 ∧ p3 < 5100) ∧ (((M 6960 p3) = 5 → ((¬ (M 6970 p3) = 0 → ((((1 = 0 → ((¬ (M 6960 p3) = 21 → ((((¬ 1 = 0 → ((¬ 1 = 0 → im_T g (d - 1) 337 0 [some (.ref 6952), some (vL (M 6961 p3)), none, none] [] e M (im_ri (fun x150 e_ M149 => e = e_ ∧ im_T g (d - 1) 345 0 [some (.ref 6952), some (.ref 6993), some (vI x150), none, none, none] [] e M149 (im_ri (fun x152 e_ M151 => e = e_ ∧ im_T g (d - 1) 298 0 [some (.ref 6952), some (vI x152), none, none, none] [] e M151 (im_rl (fun x154 e_ M153 => e = e_ ∧ im_T g (d - 1) 268 0 [some (vL x154), none, some (vL 0), none, some (vL 1000000000000000), none] [] e M153 (im_ri (fun x156 e_ M155 => e = e_ ∧ im_T g d 344 9 [some (.ref 6952), some (vI p1), some (vI x156), some (vI (p3 + 1)), none, none] [] e (im_u M155 6952 7 (M 6952 7)) K))))))))))))) ∧ ((((1 = 0)) ∨ ((¬ 1 = 0) ∧ (1 = 0))) → im_T g d 344 9 [some (.ref 6952), some (vI p1), some (vI 1), some (vI (p3 + 1)), none, none] [] e M K))))))) ∧ ((((¬ 1 = 0)) ∨ ((1 = 0) ∧ ((M 6960 p3) = 21))) → im_T g (d - 1) 336 0 [some (.ref 6952), some (vL (M 6961 p3)), none, none] [] e M (im_ri (fun x100 e_ M99 => e = e_ ∧ (im_i32 x100) ∧ ((x100 = 0 → ((((¬ 0 = 0 → ((¬ 1 = 0 → im_T g (d - 1) 337 0 [some (.ref 6952), some (vL (M99 6961 p3)), none, none] [] e M99 (im_ri (fun x111 e_ M110 => e = e_ ∧ im_T g (d - 1) 345 0 [some (.ref 6952), some (.ref 6993), some (vI x111), none, none, none] [] e M110 (im_ri (fun x113 e_ M112 => e = e_ ∧ im_T g (d - 1) 298 0 [some (.ref 6952), some (vI x113), none, none, none] [] e M112 (im_rl (fun x115 e_ M114 => e = e_ ∧ im_T g (d - 1) 268 0 [some (vL x115), none, some (vL 0), none, some (vL 1000000000000000), none] [] e M114 (im_ri (fun x117 e_ M116 => e = e_ ∧ im_T g d 344 9 [some (.ref 6952), some (vI p1), some (vI x117), some (vI (p3 + 1)), none, none] [] e (im_u M116 6952 7 (M99 6952 7)) K))))))))))))) ∧ ((((0 = 0)) ∨ ((¬ 0 = 0) ∧ (1 = 0))) → im_T g d 344 9 [some (.ref 6952), some (vI p1), some (vI 0), some (vI (p3 + 1)), none, none] [] e M99 K))) ∧ (¬ x100 = 0 → ((((¬ 1 = 0 → ((¬ 1 = 0 → im_T g (d - 1) 337 0 [some (.ref 6952), some (vL (M99 6961 p3)), none, none] [] e M99 (im_ri (fun x130 e_ M129 => e = e_ ∧ im_T g (d - 1) 345 0 [some (.ref 6952), some (.ref 6993), some (vI x130), none, none, none] [] e M129 (im_ri (fun x132 e_ M131 => e = e_ ∧ im_T g (d - 1) 298 0 [some (.ref 6952), some (vI x132), none, none, none] [] e M131 (im_rl (fun x134 e_ M133 => e = e_ ∧ im_T g (d - 1) 268 0 [some (vL x134), none, some (vL 0), none, some (vL 1000000000000000), none] [] e M133 (im_ri (fun x136 e_ M135 => e = e_ ∧ im_T g d 344 9 [some (.ref 6952), some (vI p1), some (vI x136), some (vI (p3 + 1)), none, none] [] e (im_u M135 6952 7 (M99 6952 7)) K))))))))))))) ∧ ((((1 = 0)) ∨ ((¬ 1 = 0) ∧ (1 = 0))) → im_T g d 344 9 [some (.ref 6952), some (vI p1), some (vI 1), some (vI (p3 + 1)), none, none] [] e M99 K))))))))))))))))) ∧ ((((p3 < ((M 6985 p1) + (M 6986 p1))) ∧ (¬ p2 = 0) ∧ (¬ (M 6960 p3) = 5)) ∨ ((p3 < ((M 6985 p1) + (M 6986 p1))) ∧ (¬ p2 = 0) ∧ ((M 6960 p3) = 5) ∧ ((M 6970 p3) = 0))) → ((((0 = 0 → (0 ≤ p3 ∧ p3 < 5100) ∧ ((¬ (M 6960 p3) = 21 → ((((¬ 1 = 0 → ((¬ 0 = 0 → im_T g (d - 1) 337 0 [some (.ref 6952), some (vL (M 6961 p3)), none, none] [] e M (im_ri (fun x77 e_ M76 => e = e_ ∧ im_T g (d - 1) 345 0 [some (.ref 6952), some (.ref 6993), some (vI x77), none, none, none] [] e M76 (im_ri (fun x79 e_ M78 => e = e_ ∧ im_T g (d - 1) 298 0 [some (.ref 6952), some (vI x79), none, none, none] [] e M78 (im_rl (fun x81 e_ M80 => e = e_ ∧ im_T g (d - 1) 268 0 [some (vL x81), none, some (vL 0), none, some (vL 1000000000000000), none] [] e M80 (im_ri (fun x83 e_ M82 => e = e_ ∧ im_T g d 344 9 [some (.ref 6952), some (vI p1), some (vI x83), some (vI (p3 + 1)), none, none] [] e (im_u M82 6952 7 (M 6952 7)) K))))))))))))) ∧ ((((1 = 0)) ∨ ((¬ 1 = 0) ∧ (0 = 0))) → im_T g d 344 9 [some (.ref 6952), some (vI p1), some (vI 1), some (vI (p3 + 1)), none, none] [] e M K))))))) ∧ ((((¬ 0 = 0)) ∨ ((0 = 0) ∧ ((M 6960 p3) = 21))) → (0 ≤ p3 ∧ p3 < 5100) ∧ im_T g (d - 1) 336 0 [some (.ref 6952), some (vL (M 6961 p3)), none, none] [] e M (im_ri (fun x27 e_ M26 => e = e_ ∧ (im_i32 x27) ∧ ((x27 = 0 → ((((¬ 0 = 0 → ((¬ 0 = 0 → im_T g (d - 1) 337 0 [some (.ref 6952), some (vL (M26 6961 p3)), none, none] [] e M26 (im_ri (fun x38 e_ M37 => e = e_ ∧ im_T g (d - 1) 345 0 [some (.ref 6952), some (.ref 6993), some (vI x38), none, none, none] [] e M37 (im_ri (fun x40 e_ M39 => e = e_ ∧ im_T g (d - 1) 298 0 [some (.ref 6952), some (vI x40), none, none, none] [] e M39 (im_rl (fun x42 e_ M41 => e = e_ ∧ im_T g (d - 1) 268 0 [some (vL x42), none, some (vL 0), none, some (vL 1000000000000000), none] [] e M41 (im_ri (fun x44 e_ M43 => e = e_ ∧ im_T g d 344 9 [some (.ref 6952), some (vI p1), some (vI x44), some (vI (p3 + 1)), none, none] [] e (im_u M43 6952 7 (M26 6952 7)) K))))))))))))) ∧ ((((0 = 0)) ∨ ((¬ 0 = 0) ∧ (0 = 0))) → im_T g d 344 9 [some (.ref 6952), some (vI p1), some (vI 0), some (vI (p3 + 1)), none, none] [] e M26 K))) ∧ (¬ x27 = 0 → ((((¬ 1 = 0 → ((¬ 0 = 0 → im_T g (d - 1) 337 0 [some (.ref 6952), some (vL (M26 6961 p3)), none, none] [] e M26 (im_ri (fun x57 e_ M56 => e = e_ ∧ im_T g (d - 1) 345 0 [some (.ref 6952), some (.ref 6993), some (vI x57), none, none, none] [] e M56 (im_ri (fun x59 e_ M58 => e = e_ ∧ im_T g (d - 1) 298 0 [some (.ref 6952), some (vI x59), none, none, none] [] e M58 (im_rl (fun x61 e_ M60 => e = e_ ∧ im_T g (d - 1) 268 0 [some (vL x61), none, some (vL 0), none, some (vL 1000000000000000), none] [] e M60 (im_ri (fun x63 e_ M62 => e = e_ ∧ im_T g d 344 9 [some (.ref 6952), some (vI p1), some (vI x63), some (vI (p3 + 1)), none, none] [] e (im_u M62 6952 7 (M26 6952 7)) K))))))))))))) ∧ ((((1 = 0)) ∨ ((¬ 1 = 0) ∧ (0 = 0))) → im_T g d 344 9 [some (.ref 6952), some (vI p1), some (vI 1), some (vI (p3 + 1)), none, none] [] e M26 K))))))))) ∧ ((((((M 6985 p1) + (M 6986 p1)) ≤ p3)) ∨ ((p3 < ((M 6985 p1) + (M 6986 p1))) ∧ (p2 = 0))) → (0 ≤ p2 ∧ p2 ≤ 1) ∧ K (.inl (some (vI p2))) e M))) : im_T g d 344 9 [some (.ref 6952), some (vI p1), some (vI p2), some (vI p3), none, none] [] e M K := by
  refine im_ld (q := 10) (i := 3) D344_9 rfl rfl rfl ?_
  refine im_ld (q := 11) (i := 0) D344_10 rfl rfl rfl ?_
  refine im_gfR (q := 14) (b := 6985) D344_11 (im_fl cn_344 fl_12_109) sf_6952 rfl rfl tR_12_53 rf_6952_53 ?_
  refine im_ld (q := 15) (i := 1) D344_14 rfl rfl rfl ?_
  obtain ⟨hg1, hP⟩ := hP
  refine im_rng (j := p1) sf_6985 hg1.1 hg1.2 (fun hr2 => ?_)
  refine im_iald (q := 16) D344_15 sf_6985 hg1.1 hg1.2 (by decide) rfl ?_
  refine im_ld (q := 17) (i := 0) D344_16 rfl rfl rfl ?_
  refine im_gfR (q := 20) (b := 6986) D344_17 (im_fl cn_344 fl_12_112) sf_6952 rfl rfl tR_12_54 rf_6952_54 ?_
  refine im_ld (q := 21) (i := 1) D344_20 rfl rfl rfl ?_
  refine im_rng (j := p1) sf_6986 hg1.1 hg1.2 (fun hr3 => ?_)
  refine im_iald (q := 22) D344_21 sf_6986 hg1.1 hg1.2 (by decide) rfl ?_
  refine im_iadd (q := 23) D344_22 ?_
  obtain ⟨hg4, hP⟩ := hP
  obtain ⟨hg5, hP⟩ := hP
  obtain ⟨hP, hJ14, hJ88⟩ := hP
  have kJ15 : (((p3 < ((M 6985 p1) + (M 6986 p1))) ∧ (¬ p2 = 0) ∧ (¬ (M 6960 p3) = 5)) ∨ ((p3 < ((M 6985 p1) + (M 6986 p1))) ∧ (¬ p2 = 0) ∧ ((M 6960 p3) = 5) ∧ ((M 6970 p3) = 0))) → im_T g d 344 53 [some (.ref 6952), some (vI p1), none, some (vI p3), none, none] [] e M K := by
    intro  hx16
    have hP := hJ14  hx16
    refine im_iconst (q := 54) D344_53 ?_
    refine im_st1 (q := 56) (i := 4) (L' := [some (.ref 6952), some (vI p1), none, some (vI p3), some (vI 0), none]) D344_54 (Or.inr rfl) (Nat.le_of_ble_eq_true rfl) rfl ?_
    refine im_ld (q := 58) (i := 4) D344_56 rfl rfl rfl ?_
    obtain ⟨hP, hJ21⟩ := hP
    have kJ22 : (((¬ 0 = 0)) ∨ ((0 = 0) ∧ ((M 6960 p3) = 21))) → im_T g d 344 72 [some (.ref 6952), some (vI p1), none, some (vI p3), some (vI 0), none] [] e M K := by
      intro  hx23
      have hP := hJ21  hx23
      refine im_ld (q := 73) (i := 0) D344_72 rfl rfl rfl ?_
      refine im_ld (q := 74) (i := 0) D344_73 rfl rfl rfl ?_
      refine im_gfR (q := 77) (b := 6961) D344_74 (im_fl cn_344 fl_12_36) sf_6952 rfl rfl tR_12_22 rf_6952_22 ?_
      refine im_ld (q := 78) (i := 3) D344_77 rfl rfl rfl ?_
      obtain ⟨hg24, hP⟩ := hP
      refine im_rng (j := p3) sf_6961 hg24.1 hg24.2 (fun hr25 => ?_)
      refine im_lald (q := 79) D344_78 sf_6961 hg24.1 hg24.2 (by decide) rfl ?_
      refine im_callV (q := 82) (kd := 1) (y := 336) (n := 1) (ci := 12) (a := 6952) (vs := [.ref 6952, vL (M 6961 p3)]) (r := []) (L2 := [some (.ref 6952), some (vL (M 6961 p3)), none, none]) D344_79 (im_cal cn_344 cl_12_809) (Or.inl rfl) rfl sf_6952 rfl rfl rfl rfl hd ⟨rfl, rfl, trivial⟩ ?_
      refine hP.mono ?_
      rintro _ e68 M26 ⟨x27, rfl, rfl, hP⟩
      refine im_bkS ?_
      obtain ⟨hg28, hP⟩ := hP
      refine im_ifc (q := 85) (t := 89) D344_82 rfl hg28 (fun hc29 => ?_) (fun hc29 => ?_)
      · replace hP := hP.1 hc29
        refine im_iconst (q := 90) D344_89 ?_
        refine im_st1 (q := 91) (i := 2) (L' := [some (.ref 6952), some (vI p1), some (vI 0), some (vI p3), some (vI 0), none]) D344_90 (Or.inl ⟨_, rfl, rfl⟩) (Nat.le_of_ble_eq_true rfl) rfl ?_
        refine im_ld (q := 92) (i := 2) D344_91 rfl rfl rfl ?_
        obtain ⟨hP, hJ33⟩ := hP
        have kJ34 : (((0 = 0)) ∨ ((¬ 0 = 0) ∧ (0 = 0))) → im_T g d 344 142 [some (.ref 6952), some (vI p1), some (vI 0), some (vI p3), none, none] [] e M26 K := by
          intro  hx35
          have hP := hJ33  hx35
          refine im_iinc (q := 145) (i := 3) (L' := [some (.ref 6952), some (vI p1), some (vI 0), some (vI (p3 + 1)), none, none]) D344_142 rfl (Nat.le_of_ble_eq_true rfl) rfl ?_
          refine im_goto (q := 148) (t := 9) D344_145 rfl ?_
          exact hP.wk ⟨rfl, rfl, rfl, rfl, trivial⟩
        refine im_ifc (q := 95) (t := 142) D344_92 rfl (by decide) (fun hc30 => ?_) (fun hc30 => ?_)
        · exact (kJ34  (Or.inl hc30)).wk ⟨rfl, rfl, rfl, rfl, trivial⟩
        · replace hP := hP hc30
          refine im_ld (q := 97) (i := 4) D344_95 rfl rfl rfl ?_
          refine im_ifc (q := 100) (t := 142) D344_97 rfl (by decide) (fun hc31 => ?_) (fun hc31 => ?_)
          · exact (kJ34  (Or.inr ⟨hc30, hc31⟩)).wk ⟨rfl, rfl, rfl, rfl, trivial⟩
          · replace hP := hP hc31
            refine im_ld (q := 101) (i := 0) D344_100 rfl rfl rfl ?_
            refine im_rng (j := 7) sf_6952 (by decide) (by decide) (fun hr32 => ?_)
            refine im_gfI (q := 104) D344_101 (im_fl cn_344 fl_12_449) sf_6952 rfl rfl tI_12_7 rfl ?_
            refine im_st1 (q := 106) (i := 5) (L' := [some (.ref 6952), some (vI p1), some (vI 0), some (vI p3), some (vI 0), some (vI (M26 6952 7))]) D344_104 (Or.inr rfl) (Nat.le_of_ble_eq_true rfl) rfl ?_
            refine im_ld (q := 107) (i := 0) D344_106 rfl rfl rfl ?_
            refine im_ld (q := 108) (i := 0) D344_107 rfl rfl rfl ?_
            refine im_ld (q := 109) (i := 0) D344_108 rfl rfl rfl ?_
            refine im_gfR (q := 112) (b := 6993) D344_109 (im_fl cn_344 fl_12_133) sf_6952 rfl rfl tR_12_64 rf_6952_64 ?_
            refine im_ld (q := 113) (i := 0) D344_112 rfl rfl rfl ?_
            refine im_ld (q := 114) (i := 0) D344_113 rfl rfl rfl ?_
            refine im_gfR (q := 117) (b := 6961) D344_114 (im_fl cn_344 fl_12_36) sf_6952 rfl rfl tR_12_22 rf_6952_22 ?_
            refine im_ld (q := 118) (i := 3) D344_117 rfl rfl rfl ?_
            refine im_rng (j := p3) sf_6961 hg24.1 hg24.2 (fun hr36 => ?_)
            refine im_lald (q := 119) D344_118 sf_6961 hg24.1 hg24.2 (by decide) rfl ?_
            refine im_callV (q := 122) (kd := 1) (y := 337) (n := 1) (ci := 12) (a := 6952) (vs := [.ref 6952, vL (M26 6961 p3)]) (r := [.ref 6993, .ref 6952, .ref 6952]) (L2 := [some (.ref 6952), some (vL (M26 6961 p3)), none, none]) D344_119 (im_cal cn_344 cl_12_797) (Or.inl rfl) rfl sf_6952 rfl rfl rfl rfl hd ⟨rfl, rfl, trivial⟩ ?_
            refine hP.mono ?_
            rintro _ e48 M37 ⟨x38, rfl, rfl, hP⟩
            refine im_bkS ?_
            refine im_callV (q := 125) (kd := 1) (y := 345) (n := 2) (ci := 12) (a := 6952) (vs := [.ref 6952, .ref 6993, vI x38]) (r := [.ref 6952]) (L2 := [some (.ref 6952), some (.ref 6993), some (vI x38), none, none, none]) D344_122 (im_cal cn_344 cl_12_825) (Or.inl rfl) rfl sf_6952 rfl rfl rfl rfl hd ⟨rfl, rfl, rfl, trivial⟩ ?_
            refine hP.mono ?_
            rintro _ e47 M39 ⟨x40, rfl, rfl, hP⟩
            refine im_bkS ?_
            refine im_callV (q := 128) (kd := 1) (y := 298) (n := 1) (ci := 12) (a := 6952) (vs := [.ref 6952, vI x40]) (r := []) (L2 := [some (.ref 6952), some (vI x40), none, none, none]) D344_125 (im_cal cn_344 cl_12_668) (Or.inl rfl) rfl sf_6952 rfl rfl rfl rfl hd ⟨rfl, rfl, trivial⟩ ?_
            refine hP.mono ?_
            rintro _ e46 M41 ⟨x42, rfl, rfl, hP⟩
            refine im_bkS ?_
            refine im_lconst (q := 129) (z := 0) D344_128 rfl ?_
            refine im_ldc2 (q := 132) (n := 1000000000000000) D344_129 rfl ?_
            refine im_callS (q := 135) (kd := 0) (y := 268) (n := 3) (z := 12) (vs := [vL x42, vL 0, vL 1000000000000000]) (r := []) (L2 := [some (vL x42), none, some (vL 0), none, some (vL 1000000000000000), none]) D344_132 rfl (im_cal cn_344 cl_12_428) (Or.inl rfl) rfl rfl rfl rfl rfl hd ⟨rfl, rfl, rfl, trivial⟩ ?_
            refine hP.mono ?_
            rintro _ e45 M43 ⟨x44, rfl, rfl, hP⟩
            refine im_bkS ?_
            refine im_st1 (q := 136) (i := 2) (L' := [some (.ref 6952), some (vI p1), some (vI x44), some (vI p3), some (vI 0), some (vI (M26 6952 7))]) D344_135 (Or.inl ⟨_, rfl, rfl⟩) (Nat.le_of_ble_eq_true rfl) rfl ?_
            refine im_ld (q := 137) (i := 0) D344_136 rfl rfl rfl ?_
            refine im_ld (q := 139) (i := 5) D344_137 rfl rfl rfl ?_
            refine im_pfI (q := 142) D344_139 (im_fl cn_344 fl_12_449) sf_6952 rfl rfl ti_12_7 hr32 ?_
            refine im_iinc (q := 145) (i := 3) (L' := [some (.ref 6952), some (vI p1), some (vI x44), some (vI (p3 + 1)), some (vI 0), some (vI (M26 6952 7))]) D344_142 rfl (Nat.le_of_ble_eq_true rfl) rfl ?_
            refine im_goto (q := 148) (t := 9) D344_145 rfl ?_
            exact hP.wk ⟨rfl, rfl, rfl, rfl, trivial⟩
      · replace hP := hP.2 hc29
        refine im_iconst (q := 86) D344_85 ?_
        refine im_goto (q := 89) (t := 90) D344_86 rfl ?_
        refine im_st1 (q := 91) (i := 2) (L' := [some (.ref 6952), some (vI p1), some (vI 1), some (vI p3), some (vI 0), none]) D344_90 (Or.inl ⟨_, rfl, rfl⟩) (Nat.le_of_ble_eq_true rfl) rfl ?_
        refine im_ld (q := 92) (i := 2) D344_91 rfl rfl rfl ?_
        obtain ⟨hP, hJ52⟩ := hP
        have kJ53 : (((1 = 0)) ∨ ((¬ 1 = 0) ∧ (0 = 0))) → im_T g d 344 142 [some (.ref 6952), some (vI p1), some (vI 1), some (vI p3), none, none] [] e M26 K := by
          intro  hx54
          have hP := hJ52  hx54
          refine im_iinc (q := 145) (i := 3) (L' := [some (.ref 6952), some (vI p1), some (vI 1), some (vI (p3 + 1)), none, none]) D344_142 rfl (Nat.le_of_ble_eq_true rfl) rfl ?_
          refine im_goto (q := 148) (t := 9) D344_145 rfl ?_
          exact hP.wk ⟨rfl, rfl, rfl, rfl, trivial⟩
        refine im_ifc (q := 95) (t := 142) D344_92 rfl (by decide) (fun hc49 => ?_) (fun hc49 => ?_)
        · exact (kJ53  (Or.inl hc49)).wk ⟨rfl, rfl, rfl, rfl, trivial⟩
        · replace hP := hP hc49
          refine im_ld (q := 97) (i := 4) D344_95 rfl rfl rfl ?_
          refine im_ifc (q := 100) (t := 142) D344_97 rfl (by decide) (fun hc50 => ?_) (fun hc50 => ?_)
          · exact (kJ53  (Or.inr ⟨hc49, hc50⟩)).wk ⟨rfl, rfl, rfl, rfl, trivial⟩
          · replace hP := hP hc50
            refine im_ld (q := 101) (i := 0) D344_100 rfl rfl rfl ?_
            refine im_rng (j := 7) sf_6952 (by decide) (by decide) (fun hr51 => ?_)
            refine im_gfI (q := 104) D344_101 (im_fl cn_344 fl_12_449) sf_6952 rfl rfl tI_12_7 rfl ?_
            refine im_st1 (q := 106) (i := 5) (L' := [some (.ref 6952), some (vI p1), some (vI 1), some (vI p3), some (vI 0), some (vI (M26 6952 7))]) D344_104 (Or.inr rfl) (Nat.le_of_ble_eq_true rfl) rfl ?_
            refine im_ld (q := 107) (i := 0) D344_106 rfl rfl rfl ?_
            refine im_ld (q := 108) (i := 0) D344_107 rfl rfl rfl ?_
            refine im_ld (q := 109) (i := 0) D344_108 rfl rfl rfl ?_
            refine im_gfR (q := 112) (b := 6993) D344_109 (im_fl cn_344 fl_12_133) sf_6952 rfl rfl tR_12_64 rf_6952_64 ?_
            refine im_ld (q := 113) (i := 0) D344_112 rfl rfl rfl ?_
            refine im_ld (q := 114) (i := 0) D344_113 rfl rfl rfl ?_
            refine im_gfR (q := 117) (b := 6961) D344_114 (im_fl cn_344 fl_12_36) sf_6952 rfl rfl tR_12_22 rf_6952_22 ?_
            refine im_ld (q := 118) (i := 3) D344_117 rfl rfl rfl ?_
            refine im_rng (j := p3) sf_6961 hg24.1 hg24.2 (fun hr55 => ?_)
            refine im_lald (q := 119) D344_118 sf_6961 hg24.1 hg24.2 (by decide) rfl ?_
            refine im_callV (q := 122) (kd := 1) (y := 337) (n := 1) (ci := 12) (a := 6952) (vs := [.ref 6952, vL (M26 6961 p3)]) (r := [.ref 6993, .ref 6952, .ref 6952]) (L2 := [some (.ref 6952), some (vL (M26 6961 p3)), none, none]) D344_119 (im_cal cn_344 cl_12_797) (Or.inl rfl) rfl sf_6952 rfl rfl rfl rfl hd ⟨rfl, rfl, trivial⟩ ?_
            refine hP.mono ?_
            rintro _ e67 M56 ⟨x57, rfl, rfl, hP⟩
            refine im_bkS ?_
            refine im_callV (q := 125) (kd := 1) (y := 345) (n := 2) (ci := 12) (a := 6952) (vs := [.ref 6952, .ref 6993, vI x57]) (r := [.ref 6952]) (L2 := [some (.ref 6952), some (.ref 6993), some (vI x57), none, none, none]) D344_122 (im_cal cn_344 cl_12_825) (Or.inl rfl) rfl sf_6952 rfl rfl rfl rfl hd ⟨rfl, rfl, rfl, trivial⟩ ?_
            refine hP.mono ?_
            rintro _ e66 M58 ⟨x59, rfl, rfl, hP⟩
            refine im_bkS ?_
            refine im_callV (q := 128) (kd := 1) (y := 298) (n := 1) (ci := 12) (a := 6952) (vs := [.ref 6952, vI x59]) (r := []) (L2 := [some (.ref 6952), some (vI x59), none, none, none]) D344_125 (im_cal cn_344 cl_12_668) (Or.inl rfl) rfl sf_6952 rfl rfl rfl rfl hd ⟨rfl, rfl, trivial⟩ ?_
            refine hP.mono ?_
            rintro _ e65 M60 ⟨x61, rfl, rfl, hP⟩
            refine im_bkS ?_
            refine im_lconst (q := 129) (z := 0) D344_128 rfl ?_
            refine im_ldc2 (q := 132) (n := 1000000000000000) D344_129 rfl ?_
            refine im_callS (q := 135) (kd := 0) (y := 268) (n := 3) (z := 12) (vs := [vL x61, vL 0, vL 1000000000000000]) (r := []) (L2 := [some (vL x61), none, some (vL 0), none, some (vL 1000000000000000), none]) D344_132 rfl (im_cal cn_344 cl_12_428) (Or.inl rfl) rfl rfl rfl rfl rfl hd ⟨rfl, rfl, rfl, trivial⟩ ?_
            refine hP.mono ?_
            rintro _ e64 M62 ⟨x63, rfl, rfl, hP⟩
            refine im_bkS ?_
            refine im_st1 (q := 136) (i := 2) (L' := [some (.ref 6952), some (vI p1), some (vI x63), some (vI p3), some (vI 0), some (vI (M26 6952 7))]) D344_135 (Or.inl ⟨_, rfl, rfl⟩) (Nat.le_of_ble_eq_true rfl) rfl ?_
            refine im_ld (q := 137) (i := 0) D344_136 rfl rfl rfl ?_
            refine im_ld (q := 139) (i := 5) D344_137 rfl rfl rfl ?_
            refine im_pfI (q := 142) D344_139 (im_fl cn_344 fl_12_449) sf_6952 rfl rfl ti_12_7 hr51 ?_
            refine im_iinc (q := 145) (i := 3) (L' := [some (.ref 6952), some (vI p1), some (vI x63), some (vI (p3 + 1)), some (vI 0), some (vI (M26 6952 7))]) D344_142 rfl (Nat.le_of_ble_eq_true rfl) rfl ?_
            refine im_goto (q := 148) (t := 9) D344_145 rfl ?_
            exact hP.wk ⟨rfl, rfl, rfl, rfl, trivial⟩
    refine im_ifc (q := 61) (t := 72) D344_58 rfl (by decide) (fun hc17 => ?_) (fun hc17 => ?_)
    · exact (kJ22  (Or.inl hc17)).wk ⟨rfl, rfl, rfl, rfl, trivial⟩
    · replace hP := hP (Decidable.not_not.mp hc17)
      refine im_ld (q := 62) (i := 0) D344_61 rfl rfl rfl ?_
      refine im_gfR (q := 65) (b := 6960) D344_62 (im_fl cn_344 fl_12_33) sf_6952 rfl rfl tR_12_21 rf_6952_21 ?_
      refine im_ld (q := 66) (i := 3) D344_65 rfl rfl rfl ?_
      obtain ⟨hg18, hP⟩ := hP
      refine im_rng (j := p3) sf_6960 hg18.1 hg18.2 (fun hr19 => ?_)
      refine im_iald (q := 67) D344_66 sf_6960 hg18.1 hg18.2 (by decide) rfl ?_
      refine im_bipush (q := 69) D344_67 rfl ?_
      refine im_icmp (q := 72) (t := 85) D344_69 rfl hr19 (by decide) (fun hc20 => ?_) (fun hc20 => ?_)
      · replace hP := hP hc20
        refine im_iconst (q := 86) D344_85 ?_
        refine im_goto (q := 89) (t := 90) D344_86 rfl ?_
        refine im_st1 (q := 91) (i := 2) (L' := [some (.ref 6952), some (vI p1), some (vI 1), some (vI p3), some (vI 0), none]) D344_90 (Or.inl ⟨_, rfl, rfl⟩) (Nat.le_of_ble_eq_true rfl) rfl ?_
        refine im_ld (q := 92) (i := 2) D344_91 rfl rfl rfl ?_
        obtain ⟨hP, hJ72⟩ := hP
        have kJ73 : (((1 = 0)) ∨ ((¬ 1 = 0) ∧ (0 = 0))) → im_T g d 344 142 [some (.ref 6952), some (vI p1), some (vI 1), some (vI p3), none, none] [] e M K := by
          intro  hx74
          have hP := hJ72  hx74
          refine im_iinc (q := 145) (i := 3) (L' := [some (.ref 6952), some (vI p1), some (vI 1), some (vI (p3 + 1)), none, none]) D344_142 rfl (Nat.le_of_ble_eq_true rfl) rfl ?_
          refine im_goto (q := 148) (t := 9) D344_145 rfl ?_
          exact hP.wk ⟨rfl, rfl, rfl, rfl, trivial⟩
        refine im_ifc (q := 95) (t := 142) D344_92 rfl (by decide) (fun hc69 => ?_) (fun hc69 => ?_)
        · exact (kJ73  (Or.inl hc69)).wk ⟨rfl, rfl, rfl, rfl, trivial⟩
        · replace hP := hP hc69
          refine im_ld (q := 97) (i := 4) D344_95 rfl rfl rfl ?_
          refine im_ifc (q := 100) (t := 142) D344_97 rfl (by decide) (fun hc70 => ?_) (fun hc70 => ?_)
          · exact (kJ73  (Or.inr ⟨hc69, hc70⟩)).wk ⟨rfl, rfl, rfl, rfl, trivial⟩
          · replace hP := hP hc70
            refine im_ld (q := 101) (i := 0) D344_100 rfl rfl rfl ?_
            refine im_rng (j := 7) sf_6952 (by decide) (by decide) (fun hr71 => ?_)
            refine im_gfI (q := 104) D344_101 (im_fl cn_344 fl_12_449) sf_6952 rfl rfl tI_12_7 rfl ?_
            refine im_st1 (q := 106) (i := 5) (L' := [some (.ref 6952), some (vI p1), some (vI 1), some (vI p3), some (vI 0), some (vI (M 6952 7))]) D344_104 (Or.inr rfl) (Nat.le_of_ble_eq_true rfl) rfl ?_
            refine im_ld (q := 107) (i := 0) D344_106 rfl rfl rfl ?_
            refine im_ld (q := 108) (i := 0) D344_107 rfl rfl rfl ?_
            refine im_ld (q := 109) (i := 0) D344_108 rfl rfl rfl ?_
            refine im_gfR (q := 112) (b := 6993) D344_109 (im_fl cn_344 fl_12_133) sf_6952 rfl rfl tR_12_64 rf_6952_64 ?_
            refine im_ld (q := 113) (i := 0) D344_112 rfl rfl rfl ?_
            refine im_ld (q := 114) (i := 0) D344_113 rfl rfl rfl ?_
            refine im_gfR (q := 117) (b := 6961) D344_114 (im_fl cn_344 fl_12_36) sf_6952 rfl rfl tR_12_22 rf_6952_22 ?_
            refine im_ld (q := 118) (i := 3) D344_117 rfl rfl rfl ?_
            refine im_rng (j := p3) sf_6961 hg18.1 hg18.2 (fun hr75 => ?_)
            refine im_lald (q := 119) D344_118 sf_6961 hg18.1 hg18.2 (by decide) rfl ?_
            refine im_callV (q := 122) (kd := 1) (y := 337) (n := 1) (ci := 12) (a := 6952) (vs := [.ref 6952, vL (M 6961 p3)]) (r := [.ref 6993, .ref 6952, .ref 6952]) (L2 := [some (.ref 6952), some (vL (M 6961 p3)), none, none]) D344_119 (im_cal cn_344 cl_12_797) (Or.inl rfl) rfl sf_6952 rfl rfl rfl rfl hd ⟨rfl, rfl, trivial⟩ ?_
            refine hP.mono ?_
            rintro _ e87 M76 ⟨x77, rfl, rfl, hP⟩
            refine im_bkS ?_
            refine im_callV (q := 125) (kd := 1) (y := 345) (n := 2) (ci := 12) (a := 6952) (vs := [.ref 6952, .ref 6993, vI x77]) (r := [.ref 6952]) (L2 := [some (.ref 6952), some (.ref 6993), some (vI x77), none, none, none]) D344_122 (im_cal cn_344 cl_12_825) (Or.inl rfl) rfl sf_6952 rfl rfl rfl rfl hd ⟨rfl, rfl, rfl, trivial⟩ ?_
            refine hP.mono ?_
            rintro _ e86 M78 ⟨x79, rfl, rfl, hP⟩
            refine im_bkS ?_
            refine im_callV (q := 128) (kd := 1) (y := 298) (n := 1) (ci := 12) (a := 6952) (vs := [.ref 6952, vI x79]) (r := []) (L2 := [some (.ref 6952), some (vI x79), none, none, none]) D344_125 (im_cal cn_344 cl_12_668) (Or.inl rfl) rfl sf_6952 rfl rfl rfl rfl hd ⟨rfl, rfl, trivial⟩ ?_
            refine hP.mono ?_
            rintro _ e85 M80 ⟨x81, rfl, rfl, hP⟩
            refine im_bkS ?_
            refine im_lconst (q := 129) (z := 0) D344_128 rfl ?_
            refine im_ldc2 (q := 132) (n := 1000000000000000) D344_129 rfl ?_
            refine im_callS (q := 135) (kd := 0) (y := 268) (n := 3) (z := 12) (vs := [vL x81, vL 0, vL 1000000000000000]) (r := []) (L2 := [some (vL x81), none, some (vL 0), none, some (vL 1000000000000000), none]) D344_132 rfl (im_cal cn_344 cl_12_428) (Or.inl rfl) rfl rfl rfl rfl rfl hd ⟨rfl, rfl, rfl, trivial⟩ ?_
            refine hP.mono ?_
            rintro _ e84 M82 ⟨x83, rfl, rfl, hP⟩
            refine im_bkS ?_
            refine im_st1 (q := 136) (i := 2) (L' := [some (.ref 6952), some (vI p1), some (vI x83), some (vI p3), some (vI 0), some (vI (M 6952 7))]) D344_135 (Or.inl ⟨_, rfl, rfl⟩) (Nat.le_of_ble_eq_true rfl) rfl ?_
            refine im_ld (q := 137) (i := 0) D344_136 rfl rfl rfl ?_
            refine im_ld (q := 139) (i := 5) D344_137 rfl rfl rfl ?_
            refine im_pfI (q := 142) D344_139 (im_fl cn_344 fl_12_449) sf_6952 rfl rfl ti_12_7 hr71 ?_
            refine im_iinc (q := 145) (i := 3) (L' := [some (.ref 6952), some (vI p1), some (vI x83), some (vI (p3 + 1)), some (vI 0), some (vI (M 6952 7))]) D344_142 rfl (Nat.le_of_ble_eq_true rfl) rfl ?_
            refine im_goto (q := 148) (t := 9) D344_145 rfl ?_
            exact hP.wk ⟨rfl, rfl, rfl, rfl, trivial⟩
      · exact (kJ22  (Or.inr ⟨(Decidable.not_not.mp hc17), (Decidable.not_not.mp hc20)⟩)).wk ⟨rfl, rfl, rfl, rfl, trivial⟩
  have kJ89 : (((((M 6985 p1) + (M 6986 p1)) ≤ p3)) ∨ ((p3 < ((M 6985 p1) + (M 6986 p1))) ∧ (p2 = 0))) → im_T g d 344 148 [none, none, some (vI p2), none, none, none] [] e M K := by
    intro  hx90
    have hP := hJ88  hx90
    refine im_ld (q := 149) (i := 2) D344_148 rfl rfl rfl ?_
    obtain ⟨hg91, hP⟩ := hP
    exact im_zret (q := 150) D344_149 rfl hg91 hP
  refine im_icmp (q := 26) (t := 148) D344_23 rfl hg4 hg5 (fun hc6 => ?_) (fun hc6 => ?_)
  · exact (kJ89  (Or.inl hc6)).wk ⟨rfl, trivial⟩
  · replace hP := hP (Int.not_le.mp hc6)
    refine im_ld (q := 27) (i := 2) D344_26 rfl rfl rfl ?_
    obtain ⟨hg7, hP⟩ := hP
    refine im_ifc (q := 30) (t := 148) D344_27 rfl hg7 (fun hc8 => ?_) (fun hc8 => ?_)
    · exact (kJ89  (Or.inr ⟨(Int.not_le.mp hc6), hc8⟩)).wk ⟨rfl, trivial⟩
    · replace hP := hP hc8
      refine im_ld (q := 31) (i := 0) D344_30 rfl rfl rfl ?_
      refine im_gfR (q := 34) (b := 6960) D344_31 (im_fl cn_344 fl_12_33) sf_6952 rfl rfl tR_12_21 rf_6952_21 ?_
      refine im_ld (q := 35) (i := 3) D344_34 rfl rfl rfl ?_
      obtain ⟨hg9, hP⟩ := hP
      refine im_rng (j := p3) sf_6960 hg9.1 hg9.2 (fun hr10 => ?_)
      refine im_iald (q := 36) D344_35 sf_6960 hg9.1 hg9.2 (by decide) rfl ?_
      refine im_iconst (q := 37) D344_36 ?_
      refine im_icmp (q := 40) (t := 53) D344_37 rfl hr10 (by decide) (fun hc11 => ?_) (fun hc11 => ?_)
      · exact (kJ15  (Or.inl ⟨(Int.not_le.mp hc6), hc8, hc11⟩)).wk ⟨rfl, rfl, rfl, trivial⟩
      · replace hP := hP (Decidable.not_not.mp hc11)
        refine im_ld (q := 41) (i := 0) D344_40 rfl rfl rfl ?_
        refine im_gfR (q := 44) (b := 6970) D344_41 (im_fl cn_344 fl_12_63) sf_6952 rfl rfl tR_12_31 rf_6952_31 ?_
        refine im_ld (q := 45) (i := 3) D344_44 rfl rfl rfl ?_
        refine im_rng (j := p3) sf_6970 hg9.1 hg9.2 (fun hr12 => ?_)
        refine im_bald (q := 46) D344_45 sf_6970 (Or.inr rfl) hg9.1 hg9.2 (by decide) rfl ?_
        refine im_ifc (q := 49) (t := 53) D344_46 rfl (im_z32 hr12) (fun hc13 => ?_) (fun hc13 => ?_)
        · exact (kJ15  (Or.inr ⟨(Int.not_le.mp hc6), hc8, (Decidable.not_not.mp hc11), hc13⟩)).wk ⟨rfl, rfl, rfl, trivial⟩
        · replace hP := hP hc13
          refine im_iconst (q := 50) D344_49 ?_
          refine im_goto (q := 53) (t := 54) D344_50 rfl ?_
          refine im_st1 (q := 56) (i := 4) (L' := [some (.ref 6952), some (vI p1), some (vI p2), some (vI p3), some (vI 1), none]) D344_54 (Or.inr rfl) (Nat.le_of_ble_eq_true rfl) rfl ?_
          refine im_ld (q := 58) (i := 4) D344_56 rfl rfl rfl ?_
          obtain ⟨hP, hJ95⟩ := hP
          have kJ96 : (((¬ 1 = 0)) ∨ ((1 = 0) ∧ ((M 6960 p3) = 21))) → im_T g d 344 72 [some (.ref 6952), some (vI p1), none, some (vI p3), some (vI 1), none] [] e M K := by
            intro  hx97
            have hP := hJ95  hx97
            refine im_ld (q := 73) (i := 0) D344_72 rfl rfl rfl ?_
            refine im_ld (q := 74) (i := 0) D344_73 rfl rfl rfl ?_
            refine im_gfR (q := 77) (b := 6961) D344_74 (im_fl cn_344 fl_12_36) sf_6952 rfl rfl tR_12_22 rf_6952_22 ?_
            refine im_ld (q := 78) (i := 3) D344_77 rfl rfl rfl ?_
            refine im_rng (j := p3) sf_6961 hg9.1 hg9.2 (fun hr98 => ?_)
            refine im_lald (q := 79) D344_78 sf_6961 hg9.1 hg9.2 (by decide) rfl ?_
            refine im_callV (q := 82) (kd := 1) (y := 336) (n := 1) (ci := 12) (a := 6952) (vs := [.ref 6952, vL (M 6961 p3)]) (r := []) (L2 := [some (.ref 6952), some (vL (M 6961 p3)), none, none]) D344_79 (im_cal cn_344 cl_12_809) (Or.inl rfl) rfl sf_6952 rfl rfl rfl rfl hd ⟨rfl, rfl, trivial⟩ ?_
            refine hP.mono ?_
            rintro _ e141 M99 ⟨x100, rfl, rfl, hP⟩
            refine im_bkS ?_
            obtain ⟨hg101, hP⟩ := hP
            refine im_ifc (q := 85) (t := 89) D344_82 rfl hg101 (fun hc102 => ?_) (fun hc102 => ?_)
            · replace hP := hP.1 hc102
              refine im_iconst (q := 90) D344_89 ?_
              refine im_st1 (q := 91) (i := 2) (L' := [some (.ref 6952), some (vI p1), some (vI 0), some (vI p3), some (vI 1), none]) D344_90 (Or.inl ⟨_, rfl, rfl⟩) (Nat.le_of_ble_eq_true rfl) rfl ?_
              refine im_ld (q := 92) (i := 2) D344_91 rfl rfl rfl ?_
              obtain ⟨hP, hJ106⟩ := hP
              have kJ107 : (((0 = 0)) ∨ ((¬ 0 = 0) ∧ (1 = 0))) → im_T g d 344 142 [some (.ref 6952), some (vI p1), some (vI 0), some (vI p3), none, none] [] e M99 K := by
                intro  hx108
                have hP := hJ106  hx108
                refine im_iinc (q := 145) (i := 3) (L' := [some (.ref 6952), some (vI p1), some (vI 0), some (vI (p3 + 1)), none, none]) D344_142 rfl (Nat.le_of_ble_eq_true rfl) rfl ?_
                refine im_goto (q := 148) (t := 9) D344_145 rfl ?_
                exact hP.wk ⟨rfl, rfl, rfl, rfl, trivial⟩
              refine im_ifc (q := 95) (t := 142) D344_92 rfl (by decide) (fun hc103 => ?_) (fun hc103 => ?_)
              · exact (kJ107  (Or.inl hc103)).wk ⟨rfl, rfl, rfl, rfl, trivial⟩
              · replace hP := hP hc103
                refine im_ld (q := 97) (i := 4) D344_95 rfl rfl rfl ?_
                refine im_ifc (q := 100) (t := 142) D344_97 rfl (by decide) (fun hc104 => ?_) (fun hc104 => ?_)
                · exact (kJ107  (Or.inr ⟨hc103, hc104⟩)).wk ⟨rfl, rfl, rfl, rfl, trivial⟩
                · replace hP := hP hc104
                  refine im_ld (q := 101) (i := 0) D344_100 rfl rfl rfl ?_
                  refine im_rng (j := 7) sf_6952 (by decide) (by decide) (fun hr105 => ?_)
                  refine im_gfI (q := 104) D344_101 (im_fl cn_344 fl_12_449) sf_6952 rfl rfl tI_12_7 rfl ?_
                  refine im_st1 (q := 106) (i := 5) (L' := [some (.ref 6952), some (vI p1), some (vI 0), some (vI p3), some (vI 1), some (vI (M99 6952 7))]) D344_104 (Or.inr rfl) (Nat.le_of_ble_eq_true rfl) rfl ?_
                  refine im_ld (q := 107) (i := 0) D344_106 rfl rfl rfl ?_
                  refine im_ld (q := 108) (i := 0) D344_107 rfl rfl rfl ?_
                  refine im_ld (q := 109) (i := 0) D344_108 rfl rfl rfl ?_
                  refine im_gfR (q := 112) (b := 6993) D344_109 (im_fl cn_344 fl_12_133) sf_6952 rfl rfl tR_12_64 rf_6952_64 ?_
                  refine im_ld (q := 113) (i := 0) D344_112 rfl rfl rfl ?_
                  refine im_ld (q := 114) (i := 0) D344_113 rfl rfl rfl ?_
                  refine im_gfR (q := 117) (b := 6961) D344_114 (im_fl cn_344 fl_12_36) sf_6952 rfl rfl tR_12_22 rf_6952_22 ?_
                  refine im_ld (q := 118) (i := 3) D344_117 rfl rfl rfl ?_
                  refine im_rng (j := p3) sf_6961 hg9.1 hg9.2 (fun hr109 => ?_)
                  refine im_lald (q := 119) D344_118 sf_6961 hg9.1 hg9.2 (by decide) rfl ?_
                  refine im_callV (q := 122) (kd := 1) (y := 337) (n := 1) (ci := 12) (a := 6952) (vs := [.ref 6952, vL (M99 6961 p3)]) (r := [.ref 6993, .ref 6952, .ref 6952]) (L2 := [some (.ref 6952), some (vL (M99 6961 p3)), none, none]) D344_119 (im_cal cn_344 cl_12_797) (Or.inl rfl) rfl sf_6952 rfl rfl rfl rfl hd ⟨rfl, rfl, trivial⟩ ?_
                  refine hP.mono ?_
                  rintro _ e121 M110 ⟨x111, rfl, rfl, hP⟩
                  refine im_bkS ?_
                  refine im_callV (q := 125) (kd := 1) (y := 345) (n := 2) (ci := 12) (a := 6952) (vs := [.ref 6952, .ref 6993, vI x111]) (r := [.ref 6952]) (L2 := [some (.ref 6952), some (.ref 6993), some (vI x111), none, none, none]) D344_122 (im_cal cn_344 cl_12_825) (Or.inl rfl) rfl sf_6952 rfl rfl rfl rfl hd ⟨rfl, rfl, rfl, trivial⟩ ?_
                  refine hP.mono ?_
                  rintro _ e120 M112 ⟨x113, rfl, rfl, hP⟩
                  refine im_bkS ?_
                  refine im_callV (q := 128) (kd := 1) (y := 298) (n := 1) (ci := 12) (a := 6952) (vs := [.ref 6952, vI x113]) (r := []) (L2 := [some (.ref 6952), some (vI x113), none, none, none]) D344_125 (im_cal cn_344 cl_12_668) (Or.inl rfl) rfl sf_6952 rfl rfl rfl rfl hd ⟨rfl, rfl, trivial⟩ ?_
                  refine hP.mono ?_
                  rintro _ e119 M114 ⟨x115, rfl, rfl, hP⟩
                  refine im_bkS ?_
                  refine im_lconst (q := 129) (z := 0) D344_128 rfl ?_
                  refine im_ldc2 (q := 132) (n := 1000000000000000) D344_129 rfl ?_
                  refine im_callS (q := 135) (kd := 0) (y := 268) (n := 3) (z := 12) (vs := [vL x115, vL 0, vL 1000000000000000]) (r := []) (L2 := [some (vL x115), none, some (vL 0), none, some (vL 1000000000000000), none]) D344_132 rfl (im_cal cn_344 cl_12_428) (Or.inl rfl) rfl rfl rfl rfl rfl hd ⟨rfl, rfl, rfl, trivial⟩ ?_
                  refine hP.mono ?_
                  rintro _ e118 M116 ⟨x117, rfl, rfl, hP⟩
                  refine im_bkS ?_
                  refine im_st1 (q := 136) (i := 2) (L' := [some (.ref 6952), some (vI p1), some (vI x117), some (vI p3), some (vI 1), some (vI (M99 6952 7))]) D344_135 (Or.inl ⟨_, rfl, rfl⟩) (Nat.le_of_ble_eq_true rfl) rfl ?_
                  refine im_ld (q := 137) (i := 0) D344_136 rfl rfl rfl ?_
                  refine im_ld (q := 139) (i := 5) D344_137 rfl rfl rfl ?_
                  refine im_pfI (q := 142) D344_139 (im_fl cn_344 fl_12_449) sf_6952 rfl rfl ti_12_7 hr105 ?_
                  refine im_iinc (q := 145) (i := 3) (L' := [some (.ref 6952), some (vI p1), some (vI x117), some (vI (p3 + 1)), some (vI 1), some (vI (M99 6952 7))]) D344_142 rfl (Nat.le_of_ble_eq_true rfl) rfl ?_
                  refine im_goto (q := 148) (t := 9) D344_145 rfl ?_
                  exact hP.wk ⟨rfl, rfl, rfl, rfl, trivial⟩
            · replace hP := hP.2 hc102
              refine im_iconst (q := 86) D344_85 ?_
              refine im_goto (q := 89) (t := 90) D344_86 rfl ?_
              refine im_st1 (q := 91) (i := 2) (L' := [some (.ref 6952), some (vI p1), some (vI 1), some (vI p3), some (vI 1), none]) D344_90 (Or.inl ⟨_, rfl, rfl⟩) (Nat.le_of_ble_eq_true rfl) rfl ?_
              refine im_ld (q := 92) (i := 2) D344_91 rfl rfl rfl ?_
              obtain ⟨hP, hJ125⟩ := hP
              have kJ126 : (((1 = 0)) ∨ ((¬ 1 = 0) ∧ (1 = 0))) → im_T g d 344 142 [some (.ref 6952), some (vI p1), some (vI 1), some (vI p3), none, none] [] e M99 K := by
                intro  hx127
                have hP := hJ125  hx127
                refine im_iinc (q := 145) (i := 3) (L' := [some (.ref 6952), some (vI p1), some (vI 1), some (vI (p3 + 1)), none, none]) D344_142 rfl (Nat.le_of_ble_eq_true rfl) rfl ?_
                refine im_goto (q := 148) (t := 9) D344_145 rfl ?_
                exact hP.wk ⟨rfl, rfl, rfl, rfl, trivial⟩
              refine im_ifc (q := 95) (t := 142) D344_92 rfl (by decide) (fun hc122 => ?_) (fun hc122 => ?_)
              · exact (kJ126  (Or.inl hc122)).wk ⟨rfl, rfl, rfl, rfl, trivial⟩
              · replace hP := hP hc122
                refine im_ld (q := 97) (i := 4) D344_95 rfl rfl rfl ?_
                refine im_ifc (q := 100) (t := 142) D344_97 rfl (by decide) (fun hc123 => ?_) (fun hc123 => ?_)
                · exact (kJ126  (Or.inr ⟨hc122, hc123⟩)).wk ⟨rfl, rfl, rfl, rfl, trivial⟩
                · replace hP := hP hc123
                  refine im_ld (q := 101) (i := 0) D344_100 rfl rfl rfl ?_
                  refine im_rng (j := 7) sf_6952 (by decide) (by decide) (fun hr124 => ?_)
                  refine im_gfI (q := 104) D344_101 (im_fl cn_344 fl_12_449) sf_6952 rfl rfl tI_12_7 rfl ?_
                  refine im_st1 (q := 106) (i := 5) (L' := [some (.ref 6952), some (vI p1), some (vI 1), some (vI p3), some (vI 1), some (vI (M99 6952 7))]) D344_104 (Or.inr rfl) (Nat.le_of_ble_eq_true rfl) rfl ?_
                  refine im_ld (q := 107) (i := 0) D344_106 rfl rfl rfl ?_
                  refine im_ld (q := 108) (i := 0) D344_107 rfl rfl rfl ?_
                  refine im_ld (q := 109) (i := 0) D344_108 rfl rfl rfl ?_
                  refine im_gfR (q := 112) (b := 6993) D344_109 (im_fl cn_344 fl_12_133) sf_6952 rfl rfl tR_12_64 rf_6952_64 ?_
                  refine im_ld (q := 113) (i := 0) D344_112 rfl rfl rfl ?_
                  refine im_ld (q := 114) (i := 0) D344_113 rfl rfl rfl ?_
                  refine im_gfR (q := 117) (b := 6961) D344_114 (im_fl cn_344 fl_12_36) sf_6952 rfl rfl tR_12_22 rf_6952_22 ?_
                  refine im_ld (q := 118) (i := 3) D344_117 rfl rfl rfl ?_
                  refine im_rng (j := p3) sf_6961 hg9.1 hg9.2 (fun hr128 => ?_)
                  refine im_lald (q := 119) D344_118 sf_6961 hg9.1 hg9.2 (by decide) rfl ?_
                  refine im_callV (q := 122) (kd := 1) (y := 337) (n := 1) (ci := 12) (a := 6952) (vs := [.ref 6952, vL (M99 6961 p3)]) (r := [.ref 6993, .ref 6952, .ref 6952]) (L2 := [some (.ref 6952), some (vL (M99 6961 p3)), none, none]) D344_119 (im_cal cn_344 cl_12_797) (Or.inl rfl) rfl sf_6952 rfl rfl rfl rfl hd ⟨rfl, rfl, trivial⟩ ?_
                  refine hP.mono ?_
                  rintro _ e140 M129 ⟨x130, rfl, rfl, hP⟩
                  refine im_bkS ?_
                  refine im_callV (q := 125) (kd := 1) (y := 345) (n := 2) (ci := 12) (a := 6952) (vs := [.ref 6952, .ref 6993, vI x130]) (r := [.ref 6952]) (L2 := [some (.ref 6952), some (.ref 6993), some (vI x130), none, none, none]) D344_122 (im_cal cn_344 cl_12_825) (Or.inl rfl) rfl sf_6952 rfl rfl rfl rfl hd ⟨rfl, rfl, rfl, trivial⟩ ?_
                  refine hP.mono ?_
                  rintro _ e139 M131 ⟨x132, rfl, rfl, hP⟩
                  refine im_bkS ?_
                  refine im_callV (q := 128) (kd := 1) (y := 298) (n := 1) (ci := 12) (a := 6952) (vs := [.ref 6952, vI x132]) (r := []) (L2 := [some (.ref 6952), some (vI x132), none, none, none]) D344_125 (im_cal cn_344 cl_12_668) (Or.inl rfl) rfl sf_6952 rfl rfl rfl rfl hd ⟨rfl, rfl, trivial⟩ ?_
                  refine hP.mono ?_
                  rintro _ e138 M133 ⟨x134, rfl, rfl, hP⟩
                  refine im_bkS ?_
                  refine im_lconst (q := 129) (z := 0) D344_128 rfl ?_
                  refine im_ldc2 (q := 132) (n := 1000000000000000) D344_129 rfl ?_
                  refine im_callS (q := 135) (kd := 0) (y := 268) (n := 3) (z := 12) (vs := [vL x134, vL 0, vL 1000000000000000]) (r := []) (L2 := [some (vL x134), none, some (vL 0), none, some (vL 1000000000000000), none]) D344_132 rfl (im_cal cn_344 cl_12_428) (Or.inl rfl) rfl rfl rfl rfl rfl hd ⟨rfl, rfl, rfl, trivial⟩ ?_
                  refine hP.mono ?_
                  rintro _ e137 M135 ⟨x136, rfl, rfl, hP⟩
                  refine im_bkS ?_
                  refine im_st1 (q := 136) (i := 2) (L' := [some (.ref 6952), some (vI p1), some (vI x136), some (vI p3), some (vI 1), some (vI (M99 6952 7))]) D344_135 (Or.inl ⟨_, rfl, rfl⟩) (Nat.le_of_ble_eq_true rfl) rfl ?_
                  refine im_ld (q := 137) (i := 0) D344_136 rfl rfl rfl ?_
                  refine im_ld (q := 139) (i := 5) D344_137 rfl rfl rfl ?_
                  refine im_pfI (q := 142) D344_139 (im_fl cn_344 fl_12_449) sf_6952 rfl rfl ti_12_7 hr124 ?_
                  refine im_iinc (q := 145) (i := 3) (L' := [some (.ref 6952), some (vI p1), some (vI x136), some (vI (p3 + 1)), some (vI 1), some (vI (M99 6952 7))]) D344_142 rfl (Nat.le_of_ble_eq_true rfl) rfl ?_
                  refine im_goto (q := 148) (t := 9) D344_145 rfl ?_
                  exact hP.wk ⟨rfl, rfl, rfl, rfl, trivial⟩
          refine im_ifc (q := 61) (t := 72) D344_58 rfl (by decide) (fun hc92 => ?_) (fun hc92 => ?_)
          · exact (kJ96  (Or.inl hc92)).wk ⟨rfl, rfl, rfl, rfl, trivial⟩
          · replace hP := hP (Decidable.not_not.mp hc92)
            refine im_ld (q := 62) (i := 0) D344_61 rfl rfl rfl ?_
            refine im_gfR (q := 65) (b := 6960) D344_62 (im_fl cn_344 fl_12_33) sf_6952 rfl rfl tR_12_21 rf_6952_21 ?_
            refine im_ld (q := 66) (i := 3) D344_65 rfl rfl rfl ?_
            refine im_iald (q := 67) D344_66 sf_6960 hg9.1 hg9.2 (by decide) rfl ?_
            refine im_bipush (q := 69) D344_67 rfl ?_
            refine im_icmp (q := 72) (t := 85) D344_69 rfl hr10 (by decide) (fun hc94 => ?_) (fun hc94 => ?_)
            · replace hP := hP hc94
              refine im_iconst (q := 86) D344_85 ?_
              refine im_goto (q := 89) (t := 90) D344_86 rfl ?_
              refine im_st1 (q := 91) (i := 2) (L' := [some (.ref 6952), some (vI p1), some (vI 1), some (vI p3), some (vI 1), none]) D344_90 (Or.inl ⟨_, rfl, rfl⟩) (Nat.le_of_ble_eq_true rfl) rfl ?_
              refine im_ld (q := 92) (i := 2) D344_91 rfl rfl rfl ?_
              obtain ⟨hP, hJ145⟩ := hP
              have kJ146 : (((1 = 0)) ∨ ((¬ 1 = 0) ∧ (1 = 0))) → im_T g d 344 142 [some (.ref 6952), some (vI p1), some (vI 1), some (vI p3), none, none] [] e M K := by
                intro  hx147
                have hP := hJ145  hx147
                refine im_iinc (q := 145) (i := 3) (L' := [some (.ref 6952), some (vI p1), some (vI 1), some (vI (p3 + 1)), none, none]) D344_142 rfl (Nat.le_of_ble_eq_true rfl) rfl ?_
                refine im_goto (q := 148) (t := 9) D344_145 rfl ?_
                exact hP.wk ⟨rfl, rfl, rfl, rfl, trivial⟩
              refine im_ifc (q := 95) (t := 142) D344_92 rfl (by decide) (fun hc142 => ?_) (fun hc142 => ?_)
              · exact (kJ146  (Or.inl hc142)).wk ⟨rfl, rfl, rfl, rfl, trivial⟩
              · replace hP := hP hc142
                refine im_ld (q := 97) (i := 4) D344_95 rfl rfl rfl ?_
                refine im_ifc (q := 100) (t := 142) D344_97 rfl (by decide) (fun hc143 => ?_) (fun hc143 => ?_)
                · exact (kJ146  (Or.inr ⟨hc142, hc143⟩)).wk ⟨rfl, rfl, rfl, rfl, trivial⟩
                · replace hP := hP hc143
                  refine im_ld (q := 101) (i := 0) D344_100 rfl rfl rfl ?_
                  refine im_rng (j := 7) sf_6952 (by decide) (by decide) (fun hr144 => ?_)
                  refine im_gfI (q := 104) D344_101 (im_fl cn_344 fl_12_449) sf_6952 rfl rfl tI_12_7 rfl ?_
                  refine im_st1 (q := 106) (i := 5) (L' := [some (.ref 6952), some (vI p1), some (vI 1), some (vI p3), some (vI 1), some (vI (M 6952 7))]) D344_104 (Or.inr rfl) (Nat.le_of_ble_eq_true rfl) rfl ?_
                  refine im_ld (q := 107) (i := 0) D344_106 rfl rfl rfl ?_
                  refine im_ld (q := 108) (i := 0) D344_107 rfl rfl rfl ?_
                  refine im_ld (q := 109) (i := 0) D344_108 rfl rfl rfl ?_
                  refine im_gfR (q := 112) (b := 6993) D344_109 (im_fl cn_344 fl_12_133) sf_6952 rfl rfl tR_12_64 rf_6952_64 ?_
                  refine im_ld (q := 113) (i := 0) D344_112 rfl rfl rfl ?_
                  refine im_ld (q := 114) (i := 0) D344_113 rfl rfl rfl ?_
                  refine im_gfR (q := 117) (b := 6961) D344_114 (im_fl cn_344 fl_12_36) sf_6952 rfl rfl tR_12_22 rf_6952_22 ?_
                  refine im_ld (q := 118) (i := 3) D344_117 rfl rfl rfl ?_
                  refine im_rng (j := p3) sf_6961 hg9.1 hg9.2 (fun hr148 => ?_)
                  refine im_lald (q := 119) D344_118 sf_6961 hg9.1 hg9.2 (by decide) rfl ?_
                  refine im_callV (q := 122) (kd := 1) (y := 337) (n := 1) (ci := 12) (a := 6952) (vs := [.ref 6952, vL (M 6961 p3)]) (r := [.ref 6993, .ref 6952, .ref 6952]) (L2 := [some (.ref 6952), some (vL (M 6961 p3)), none, none]) D344_119 (im_cal cn_344 cl_12_797) (Or.inl rfl) rfl sf_6952 rfl rfl rfl rfl hd ⟨rfl, rfl, trivial⟩ ?_
                  refine hP.mono ?_
                  rintro _ e160 M149 ⟨x150, rfl, rfl, hP⟩
                  refine im_bkS ?_
                  refine im_callV (q := 125) (kd := 1) (y := 345) (n := 2) (ci := 12) (a := 6952) (vs := [.ref 6952, .ref 6993, vI x150]) (r := [.ref 6952]) (L2 := [some (.ref 6952), some (.ref 6993), some (vI x150), none, none, none]) D344_122 (im_cal cn_344 cl_12_825) (Or.inl rfl) rfl sf_6952 rfl rfl rfl rfl hd ⟨rfl, rfl, rfl, trivial⟩ ?_
                  refine hP.mono ?_
                  rintro _ e159 M151 ⟨x152, rfl, rfl, hP⟩
                  refine im_bkS ?_
                  refine im_callV (q := 128) (kd := 1) (y := 298) (n := 1) (ci := 12) (a := 6952) (vs := [.ref 6952, vI x152]) (r := []) (L2 := [some (.ref 6952), some (vI x152), none, none, none]) D344_125 (im_cal cn_344 cl_12_668) (Or.inl rfl) rfl sf_6952 rfl rfl rfl rfl hd ⟨rfl, rfl, trivial⟩ ?_
                  refine hP.mono ?_
                  rintro _ e158 M153 ⟨x154, rfl, rfl, hP⟩
                  refine im_bkS ?_
                  refine im_lconst (q := 129) (z := 0) D344_128 rfl ?_
                  refine im_ldc2 (q := 132) (n := 1000000000000000) D344_129 rfl ?_
                  refine im_callS (q := 135) (kd := 0) (y := 268) (n := 3) (z := 12) (vs := [vL x154, vL 0, vL 1000000000000000]) (r := []) (L2 := [some (vL x154), none, some (vL 0), none, some (vL 1000000000000000), none]) D344_132 rfl (im_cal cn_344 cl_12_428) (Or.inl rfl) rfl rfl rfl rfl rfl hd ⟨rfl, rfl, rfl, trivial⟩ ?_
                  refine hP.mono ?_
                  rintro _ e157 M155 ⟨x156, rfl, rfl, hP⟩
                  refine im_bkS ?_
                  refine im_st1 (q := 136) (i := 2) (L' := [some (.ref 6952), some (vI p1), some (vI x156), some (vI p3), some (vI 1), some (vI (M 6952 7))]) D344_135 (Or.inl ⟨_, rfl, rfl⟩) (Nat.le_of_ble_eq_true rfl) rfl ?_
                  refine im_ld (q := 137) (i := 0) D344_136 rfl rfl rfl ?_
                  refine im_ld (q := 139) (i := 5) D344_137 rfl rfl rfl ?_
                  refine im_pfI (q := 142) D344_139 (im_fl cn_344 fl_12_449) sf_6952 rfl rfl ti_12_7 hr144 ?_
                  refine im_iinc (q := 145) (i := 3) (L' := [some (.ref 6952), some (vI p1), some (vI x156), some (vI (p3 + 1)), some (vI 1), some (vI (M 6952 7))]) D344_142 rfl (Nat.le_of_ble_eq_true rfl) rfl ?_
                  refine im_goto (q := 148) (t := 9) D344_145 rfl ?_
                  exact hP.wk ⟨rfl, rfl, rfl, rfl, trivial⟩
            · exact (kJ96  (Or.inr ⟨(Decidable.not_not.mp hc92), (Decidable.not_not.mp hc94)⟩)).wk ⟨rfl, rfl, rfl, rfl, trivial⟩
set_option maxRecDepth 20000 in
set_option maxHeartbeats 4000000 in
theorem b_load_0 {g : im_g} {d : Nat} {e : im_E} {M : im_M} {K : im_K} {p2 : Int} {p1 n1 : Nat} (hs1 : (im_sh0 ++ e)[p1]? = some (1, n1, [])) (hn1 : n1 ≤ 2147483647) (hP : (0 ≤ ((302 * p2) + 1) ∧ ((302 * p2) + 1) < n1) ∧ im_T g d 345 19 [some (.ref 6952), some (.ref p1), some (vI p2), some (vI (M 6952 7)), some (vI (M p1 ((302 * p2) + 1))), some (vI 0)] [] e M K) : im_T g d 345 0 [some (.ref 6952), some (.ref p1), some (vI p2), none, none, none] [] e M K := by
  refine im_ld (q := 1) (i := 0) D345_0 rfl rfl rfl ?_
  refine im_rng (j := 7) sf_6952 (by decide) (by decide) (fun hr1 => ?_)
  refine im_gfI (q := 4) D345_1 (im_fl cn_345 fl_12_449) sf_6952 rfl rfl tI_12_7 rfl ?_
  refine im_st1 (q := 5) (i := 3) (L' := [some (.ref 6952), some (.ref p1), some (vI p2), some (vI (M 6952 7)), none, none]) D345_4 (Or.inl ⟨_, rfl, rfl⟩) (Nat.le_of_ble_eq_true rfl) rfl ?_
  refine im_ld (q := 6) (i := 1) D345_5 rfl rfl rfl ?_
  refine im_sipush (q := 9) D345_6 rfl ?_
  refine im_ld (q := 10) (i := 2) D345_9 rfl rfl rfl ?_
  refine im_imul (q := 11) D345_10 ?_
  refine im_iconst (q := 12) D345_11 ?_
  refine im_iadd (q := 13) D345_12 ?_
  obtain ⟨hg2, hP⟩ := hP
  refine im_rng (j := ((302 * p2) + 1)) hs1 hg2.1 hg2.2 (fun hr3 => ?_)
  refine im_iald (q := 14) D345_13 hs1 hg2.1 hg2.2 hn1 rfl ?_
  refine im_st1 (q := 16) (i := 4) (L' := [some (.ref 6952), some (.ref p1), some (vI p2), some (vI (M 6952 7)), some (vI (M p1 ((302 * p2) + 1))), none]) D345_14 (Or.inr rfl) (Nat.le_of_ble_eq_true rfl) rfl ?_
  refine im_iconst (q := 17) D345_16 ?_
  refine im_st1 (q := 19) (i := 5) (L' := [some (.ref 6952), some (.ref p1), some (vI p2), some (vI (M 6952 7)), some (vI (M p1 ((302 * p2) + 1))), some (vI 0)]) D345_17 (Or.inr rfl) (Nat.le_of_ble_eq_true rfl) rfl ?_
  exact hP.wk ⟨rfl, rfl, rfl, rfl, rfl, rfl, trivial⟩
set_option maxRecDepth 20000 in
set_option maxHeartbeats 4000000 in
theorem b_load_19 {g : im_g} {d : Nat} {e : im_E} {M : im_M} {K : im_K} {p2 p3 p4 p5 : Int} {p1 n1 : Nat} (hs1 : (im_sh0 ++ e)[p1]? = some (1, n1, [])) (hn1 : n1 ≤ 2147483647) (hP : (im_i32 p5) ∧ (im_i32 (p4 + 2)) ∧ (((p4 + 2) ≤ p5 → (im_i32 ((p3 + p4) + 2)) ∧ K (.inl (some (vI p3))) e (im_u M 6952 7 ((p3 + p4) + 2))) ∧ (p5 < (p4 + 2) → (0 ≤ ((302 * p2) + p5) ∧ ((302 * p2) + p5) < n1) ∧ (0 ≤ (p3 + p5) ∧ (p3 + p5) < 1100000) ∧ im_T g d 345 19 [some (.ref 6952), some (.ref p1), some (vI p2), some (vI p3), some (vI p4), some (vI (p5 + 1))] [] e (im_u M 6955 (p3 + p5) (M p1 ((302 * p2) + p5))) K))) : im_T g d 345 19 [some (.ref 6952), some (.ref p1), some (vI p2), some (vI p3), some (vI p4), some (vI p5)] [] e M K := by
  refine im_ld (q := 21) (i := 5) D345_19 rfl rfl rfl ?_
  refine im_ld (q := 23) (i := 4) D345_21 rfl rfl rfl ?_
  refine im_iconst (q := 24) D345_23 ?_
  refine im_iadd (q := 25) D345_24 ?_
  obtain ⟨hg1, hP⟩ := hP
  obtain ⟨hg2, hP⟩ := hP
  refine im_icmp (q := 28) (t := 53) D345_25 rfl hg1 hg2 (fun hc3 => ?_) (fun hc3 => ?_)
  · replace hP := hP.1 hc3
    refine im_ld (q := 54) (i := 0) D345_53 rfl rfl rfl ?_
    refine im_ld (q := 55) (i := 3) D345_54 rfl rfl rfl ?_
    refine im_ld (q := 57) (i := 4) D345_55 rfl rfl rfl ?_
    refine im_iadd (q := 58) D345_57 ?_
    refine im_iconst (q := 59) D345_58 ?_
    refine im_iadd (q := 60) D345_59 ?_
    obtain ⟨hg6, hP⟩ := hP
    refine im_pfI (q := 63) D345_60 (im_fl cn_345 fl_12_449) sf_6952 rfl rfl ti_12_7 hg6 ?_
    refine im_ld (q := 64) (i := 3) D345_63 rfl rfl rfl ?_
    exact im_iret (q := 65) D345_64 rfl hP
  · replace hP := hP.2 (Int.not_le.mp hc3)
    refine im_ld (q := 29) (i := 0) D345_28 rfl rfl rfl ?_
    refine im_gfR (q := 32) (b := 6955) D345_29 (im_fl cn_345 fl_12_17) sf_6952 rfl rfl tR_12_5 rf_6952_5 ?_
    refine im_ld (q := 33) (i := 3) D345_32 rfl rfl rfl ?_
    refine im_ld (q := 35) (i := 5) D345_33 rfl rfl rfl ?_
    refine im_iadd (q := 36) D345_35 ?_
    refine im_ld (q := 37) (i := 1) D345_36 rfl rfl rfl ?_
    refine im_sipush (q := 40) D345_37 rfl ?_
    refine im_ld (q := 41) (i := 2) D345_40 rfl rfl rfl ?_
    refine im_imul (q := 42) D345_41 ?_
    refine im_ld (q := 44) (i := 5) D345_42 rfl rfl rfl ?_
    refine im_iadd (q := 45) D345_44 ?_
    obtain ⟨hg4, hP⟩ := hP
    refine im_rng (j := ((302 * p2) + p5)) hs1 hg4.1 hg4.2 (fun hr5 => ?_)
    refine im_iald (q := 46) D345_45 hs1 hg4.1 hg4.2 hn1 rfl ?_
    obtain ⟨hg7, hP⟩ := hP
    refine im_iast (q := 47) D345_46 sf_6955 hg7.1 hg7.2 (by decide) hr5 ?_
    refine im_iinc (q := 50) (i := 5) (L' := [some (.ref 6952), some (.ref p1), some (vI p2), some (vI p3), some (vI p4), some (vI (p5 + 1))]) D345_47 rfl (Nat.le_of_ble_eq_true rfl) rfl ?_
    refine im_goto (q := 53) (t := 19) D345_50 rfl ?_
    exact hP.wk ⟨rfl, rfl, rfl, rfl, rfl, rfl, trivial⟩
set_option maxRecDepth 20000 in
set_option maxHeartbeats 4000000 in
theorem b_doBegin_0 {g : im_g} {d : Nat} {e : im_E} {M : im_M} {K : im_K} {p1 p2 p3 : Int} (hP : (0 ≤ p1 ∧ p1 < 16) ∧ (0 ≤ p2 ∧ p2 < 16) ∧ (im_i64 p3) ∧ im_T g d 346 60 [some (.ref 6952), some (vI p1), none, none, none, some (vI 0), none] [] e (im_u (im_u (im_u (im_u (im_u (im_u (im_u M 6994 p1 1) 6995 p1 (M 6985 p2)) 6996 p1 p3) 6997 p1 0) 7001 p1 0) 7005 p1 0) 7008 p1 (M 6952 62)) K) : im_T g d 346 0 [some (.ref 6952), some (vI p1), some (vI p2), some (vL p3), none, none, none] [] e M K := by
  refine im_ld (q := 1) (i := 0) D346_0 rfl rfl rfl ?_
  refine im_gfR (q := 4) (b := 6994) D346_1 (im_fl cn_346 fl_12_136) sf_6952 rfl rfl tR_12_66 rf_6952_66 ?_
  refine im_ld (q := 5) (i := 1) D346_4 rfl rfl rfl ?_
  refine im_iconst (q := 6) D346_5 ?_
  obtain ⟨hg1, hP⟩ := hP
  refine im_zast (q := 7) D346_6 sf_6994 hg1.1 hg1.2 (by decide) (by decide) ?_
  refine im_ld (q := 8) (i := 0) D346_7 rfl rfl rfl ?_
  refine im_gfR (q := 11) (b := 6995) D346_8 (im_fl cn_346 fl_12_139) sf_6952 rfl rfl tR_12_67 rf_6952_67 ?_
  refine im_ld (q := 12) (i := 1) D346_11 rfl rfl rfl ?_
  refine im_ld (q := 13) (i := 0) D346_12 rfl rfl rfl ?_
  refine im_gfR (q := 16) (b := 6985) D346_13 (im_fl cn_346 fl_12_109) sf_6952 rfl rfl tR_12_53 rf_6952_53 ?_
  refine im_ld (q := 17) (i := 2) D346_16 rfl rfl rfl ?_
  obtain ⟨hg2, hP⟩ := hP
  refine im_rng (j := p2) sf_6985 hg2.1 hg2.2 (fun hr3 => ?_)
  refine im_iald (q := 18) D346_17 sf_6985 hg2.1 hg2.2 (by decide) (im_rdn _ _ _ _ (by decide)) ?_
  refine im_iast (q := 19) D346_18 sf_6995 hg1.1 hg1.2 (by decide) (im_rgc hr3 (im_rdn _ _ _ _ (by decide))) ?_
  refine im_ld (q := 20) (i := 0) D346_19 rfl rfl rfl ?_
  refine im_gfR (q := 23) (b := 6996) D346_20 (im_fl cn_346 fl_12_142) sf_6952 rfl rfl tR_12_68 rf_6952_68 ?_
  refine im_ld (q := 24) (i := 1) D346_23 rfl rfl rfl ?_
  refine im_ld (q := 25) (i := 3) D346_24 rfl rfl rfl ?_
  obtain ⟨hg4, hP⟩ := hP
  refine im_last (q := 26) D346_25 sf_6996 hg1.1 hg1.2 (by decide) hg4 ?_
  refine im_ld (q := 27) (i := 0) D346_26 rfl rfl rfl ?_
  refine im_gfR (q := 30) (b := 6997) D346_27 (im_fl cn_346 fl_12_145) sf_6952 rfl rfl tR_12_69 rf_6952_69 ?_
  refine im_ld (q := 31) (i := 1) D346_30 rfl rfl rfl ?_
  refine im_iconst (q := 32) D346_31 ?_
  refine im_iast (q := 33) D346_32 sf_6997 hg1.1 hg1.2 (by decide) (by decide) ?_
  refine im_ld (q := 34) (i := 0) D346_33 rfl rfl rfl ?_
  refine im_gfR (q := 37) (b := 7001) D346_34 (im_fl cn_346 fl_12_158) sf_6952 rfl rfl tR_12_73 rf_6952_73 ?_
  refine im_ld (q := 38) (i := 1) D346_37 rfl rfl rfl ?_
  refine im_iconst (q := 39) D346_38 ?_
  refine im_iast (q := 40) D346_39 sf_7001 hg1.1 hg1.2 (by decide) (by decide) ?_
  refine im_ld (q := 41) (i := 0) D346_40 rfl rfl rfl ?_
  refine im_gfR (q := 44) (b := 7005) D346_41 (im_fl cn_346 fl_12_170) sf_6952 rfl rfl tR_12_77 rf_6952_77 ?_
  refine im_ld (q := 45) (i := 1) D346_44 rfl rfl rfl ?_
  refine im_iconst (q := 46) D346_45 ?_
  refine im_iast (q := 47) D346_46 sf_7005 hg1.1 hg1.2 (by decide) (by decide) ?_
  refine im_ld (q := 48) (i := 0) D346_47 rfl rfl rfl ?_
  refine im_gfR (q := 51) (b := 7008) D346_48 (im_fl cn_346 fl_12_179) sf_6952 rfl rfl tR_12_80 rf_6952_80 ?_
  refine im_ld (q := 52) (i := 1) D346_51 rfl rfl rfl ?_
  refine im_ld (q := 53) (i := 0) D346_52 rfl rfl rfl ?_
  refine im_rng (j := 62) sf_6952 (by decide) (by decide) (fun hr5 => ?_)
  refine im_gfI (q := 56) D346_53 (im_fl cn_346 fl_12_794) sf_6952 rfl rfl tI_12_62 ((im_rdn _ _ _ _ (by decide)).trans ((im_rdn _ _ _ _ (by decide)).trans ((im_rdn _ _ _ _ (by decide)).trans ((im_rdn _ _ _ _ (by decide)).trans ((im_rdn _ _ _ _ (by decide)).trans (im_rdn _ _ _ _ (by decide))))))) ?_
  refine im_iast (q := 57) D346_56 sf_7008 hg1.1 hg1.2 (by decide) (im_rgc hr5 ((im_rdn _ _ _ _ (by decide)).trans ((im_rdn _ _ _ _ (by decide)).trans ((im_rdn _ _ _ _ (by decide)).trans ((im_rdn _ _ _ _ (by decide)).trans ((im_rdn _ _ _ _ (by decide)).trans (im_rdn _ _ _ _ (by decide)))))))) ?_
  refine im_iconst (q := 58) D346_57 ?_
  refine im_st1 (q := 60) (i := 5) (L' := [some (.ref 6952), some (vI p1), some (vI p2), some (vL p3), none, some (vI 0), none]) D346_58 (Or.inr rfl) (Nat.le_of_ble_eq_true rfl) rfl ?_
  exact hP.wk ⟨rfl, rfl, rfl, trivial⟩
set_option maxRecDepth 20000 in
set_option maxHeartbeats 4000000 in
theorem b_doBegin_60 {g : im_g} {d : Nat} {e : im_E} {M : im_M} {K : im_K} {p1 p5 : Int} (hP : (im_i32 p5) ∧ (((M 6952 62) ≤ p5 → K (.inl none) e M) ∧ (p5 < (M 6952 62) → (0 ≤ p5 ∧ p5 < 21) ∧ (0 ≤ ((20 * p1) + p5) ∧ ((20 * p1) + p5) < 320) ∧ im_T g d 346 91 [some (.ref 6952), some (vI p1), none, none, none, some (vI p5), some (vI 0)] [] e (im_u M 7009 ((20 * p1) + p5) (M 6992 p5)) K))) : im_T g d 346 60 [some (.ref 6952), some (vI p1), none, none, none, some (vI p5), none] [] e M K := by
  refine im_ld (q := 62) (i := 5) D346_60 rfl rfl rfl ?_
  refine im_ld (q := 63) (i := 0) D346_62 rfl rfl rfl ?_
  refine im_rng (j := 62) sf_6952 (by decide) (by decide) (fun hr1 => ?_)
  refine im_gfI (q := 66) D346_63 (im_fl cn_346 fl_12_794) sf_6952 rfl rfl tI_12_62 rfl ?_
  obtain ⟨hg2, hP⟩ := hP
  refine im_icmp (q := 69) (t := 144) D346_66 rfl hg2 hr1 (fun hc3 => ?_) (fun hc3 => ?_)
  · replace hP := hP.1 hc3
    exact im_vret (q := 145) D346_144 rfl hP
  · replace hP := hP.2 (Int.not_le.mp hc3)
    refine im_ld (q := 70) (i := 0) D346_69 rfl rfl rfl ?_
    refine im_gfR (q := 73) (b := 7009) D346_70 (im_fl cn_346 fl_12_182) sf_6952 rfl rfl tR_12_81 rf_6952_81 ?_
    refine im_bipush (q := 75) D346_73 rfl ?_
    refine im_ld (q := 76) (i := 1) D346_75 rfl rfl rfl ?_
    refine im_imul (q := 77) D346_76 ?_
    refine im_ld (q := 79) (i := 5) D346_77 rfl rfl rfl ?_
    refine im_iadd (q := 80) D346_79 ?_
    refine im_ld (q := 81) (i := 0) D346_80 rfl rfl rfl ?_
    refine im_gfR (q := 84) (b := 6992) D346_81 (im_fl cn_346 fl_12_130) sf_6952 rfl rfl tR_12_63 rf_6952_63 ?_
    refine im_ld (q := 86) (i := 5) D346_84 rfl rfl rfl ?_
    obtain ⟨hg4, hP⟩ := hP
    refine im_rng (j := p5) sf_6992 hg4.1 hg4.2 (fun hr5 => ?_)
    refine im_lald (q := 87) D346_86 sf_6992 hg4.1 hg4.2 (by decide) rfl ?_
    obtain ⟨hg6, hP⟩ := hP
    refine im_last (q := 88) D346_87 sf_7009 hg6.1 hg6.2 (by decide) hr5 ?_
    refine im_iconst (q := 89) D346_88 ?_
    refine im_st1 (q := 91) (i := 6) (L' := [some (.ref 6952), some (vI p1), none, none, none, some (vI p5), some (vI 0)]) D346_89 (Or.inr rfl) (Nat.le_of_ble_eq_true rfl) rfl ?_
    exact hP.wk ⟨rfl, rfl, rfl, rfl, trivial⟩
set_option maxRecDepth 20000 in
set_option maxHeartbeats 4000000 in
theorem b_doBegin_91 {g : im_g} {d : Nat} {e : im_E} {M : im_M} {K : im_K} {p1 p5 p6 : Int} (hP : (im_i32 p6) ∧ ((302 ≤ p6 → im_T g d 346 60 [some (.ref 6952), some (vI p1), none, none, none, some (vI (p5 + 1)), none] [] e M K) ∧ (p6 < 302 → (0 ≤ ((302 * p5) + p6) ∧ ((302 * p5) + p6) < 6342) ∧ (0 ≤ ((302 * ((20 * p1) + p5)) + p6) ∧ ((302 * ((20 * p1) + p5)) + p6) < 96640) ∧ im_T g d 346 91 [some (.ref 6952), some (vI p1), none, none, none, some (vI p5), some (vI (p6 + 1))] [] e (im_u M 7010 ((302 * ((20 * p1) + p5)) + p6) (M 6993 ((302 * p5) + p6))) K))) : im_T g d 346 91 [some (.ref 6952), some (vI p1), none, none, none, some (vI p5), some (vI p6)] [] e M K := by
  refine im_ld (q := 93) (i := 6) D346_91 rfl rfl rfl ?_
  refine im_sipush (q := 96) D346_93 rfl ?_
  obtain ⟨hg1, hP⟩ := hP
  refine im_icmp (q := 99) (t := 138) D346_96 rfl hg1 (by decide) (fun hc2 => ?_) (fun hc2 => ?_)
  · replace hP := hP.1 hc2
    refine im_iinc (q := 141) (i := 5) (L' := [some (.ref 6952), some (vI p1), none, none, none, some (vI (p5 + 1)), some (vI p6)]) D346_138 rfl (Nat.le_of_ble_eq_true rfl) rfl ?_
    refine im_goto (q := 144) (t := 60) D346_141 rfl ?_
    exact hP.wk ⟨rfl, rfl, rfl, trivial⟩
  · replace hP := hP.2 (Int.not_le.mp hc2)
    refine im_ld (q := 100) (i := 0) D346_99 rfl rfl rfl ?_
    refine im_gfR (q := 103) (b := 7010) D346_100 (im_fl cn_346 fl_12_186) sf_6952 rfl rfl tR_12_82 rf_6952_82 ?_
    refine im_sipush (q := 106) D346_103 rfl ?_
    refine im_bipush (q := 108) D346_106 rfl ?_
    refine im_ld (q := 109) (i := 1) D346_108 rfl rfl rfl ?_
    refine im_imul (q := 110) D346_109 ?_
    refine im_ld (q := 112) (i := 5) D346_110 rfl rfl rfl ?_
    refine im_iadd (q := 113) D346_112 ?_
    refine im_imul (q := 114) D346_113 ?_
    refine im_ld (q := 116) (i := 6) D346_114 rfl rfl rfl ?_
    refine im_iadd (q := 117) D346_116 ?_
    refine im_ld (q := 118) (i := 0) D346_117 rfl rfl rfl ?_
    refine im_gfR (q := 121) (b := 6993) D346_118 (im_fl cn_346 fl_12_133) sf_6952 rfl rfl tR_12_64 rf_6952_64 ?_
    refine im_sipush (q := 124) D346_121 rfl ?_
    refine im_ld (q := 126) (i := 5) D346_124 rfl rfl rfl ?_
    refine im_imul (q := 127) D346_126 ?_
    refine im_ld (q := 129) (i := 6) D346_127 rfl rfl rfl ?_
    refine im_iadd (q := 130) D346_129 ?_
    obtain ⟨hg3, hP⟩ := hP
    refine im_rng (j := ((302 * p5) + p6)) sf_6993 hg3.1 hg3.2 (fun hr4 => ?_)
    refine im_iald (q := 131) D346_130 sf_6993 hg3.1 hg3.2 (by decide) rfl ?_
    obtain ⟨hg5, hP⟩ := hP
    refine im_iast (q := 132) D346_131 sf_7010 hg5.1 hg5.2 (by decide) hr4 ?_
    refine im_iinc (q := 135) (i := 6) (L' := [some (.ref 6952), some (vI p1), none, none, none, some (vI p5), some (vI (p6 + 1))]) D346_132 rfl (Nat.le_of_ble_eq_true rfl) rfl ?_
    refine im_goto (q := 138) (t := 91) D346_135 rfl ?_
    exact hP.wk ⟨rfl, rfl, rfl, rfl, trivial⟩
set_option maxRecDepth 20000 in
set_option maxHeartbeats 4000000 in
theorem b_end_0 {g : im_g} {d : Nat} {e : im_E} {M : im_M} {K : im_K} {p1 : Int} (hd : 1 ≤ d) (hP : (im_i32 p1) ∧ im_T g (d - 1) 268 0 [some (vL p1), none, some (vL 0), none, some (vL 15), none] [] e M (im_ri (fun x3 e_ M2 => e = e_ ∧ im_T g (d - 1) 348 0 [some (.ref 6952), some (vI p1)] [] e M2 (im_ri (fun x5 e_ M4 => e = e_ ∧ im_T g (d - 1) 264 0 [some (.ref 6952), some (vI 2), some (vI x3), some (vI x5), some (vI 1)] [] e M4 (im_ri (fun x7 e_ M6 => e = e_ ∧ (im_i32 x7) ∧ ((¬ x7 = 0 → im_T g (d - 1) 307 0 [some (.ref 6952), some (vI 4), some (vI 1), some (vL p1), none, some (vL 0), none, some (vL 0), none, some (vI 0), none, none, none, none] [] e M6 (im_ri (fun x11 e_ M10 => e = e_ ∧ (im_i32 x11) ∧ ((((¬ x11 = (-100) → (0 ≤ p1 ∧ p1 < 16) ∧ ((¬ (M10 6994 p1) = 0 → ((x11 < 0 → K (.inl (some (vI x11))) e (im_u M10 6994 p1 1)))))) ∧ (x11 = (-100) → K (.inl (some (vI 0))) e (im_u M10 6952 0 2)))) ∧ ((((¬ x11 = (-100)) ∧ ((M10 6994 p1) = 0)) ∨ ((¬ x11 = (-100)) ∧ (¬ (M10 6994 p1) = 0) ∧ (0 ≤ x11))) → (0 ≤ p1 ∧ p1 < 16) ∧ K (.inl (some (vI x11))) e (im_u M10 6994 p1 0)))))) ∧ (x7 = 0 → K (.inl (some (vI 0))) e M6))))))))) : im_T g d 347 0 [some (.ref 6952), some (vI p1), none] [] e M K := by
  refine im_ld (q := 1) (i := 0) D347_0 rfl rfl rfl ?_
  refine im_iconst (q := 2) D347_1 ?_
  refine im_ld (q := 3) (i := 1) D347_2 rfl rfl rfl ?_
  obtain ⟨hg1, hP⟩ := hP
  refine im_i2l (q := 4) D347_3 hg1 ?_
  refine im_lconst (q := 5) (z := 0) D347_4 rfl ?_
  refine im_ldc2 (q := 8) (n := 15) D347_5 rfl ?_
  refine im_callS (q := 11) (kd := 0) (y := 268) (n := 3) (z := 12) (vs := [vL p1, vL 0, vL 15]) (r := [vI 2, .ref 6952]) (L2 := [some (vL p1), none, some (vL 0), none, some (vL 15), none]) D347_8 rfl (im_cal cn_347 cl_12_428) (Or.inl rfl) rfl rfl rfl rfl rfl hd ⟨rfl, rfl, rfl, trivial⟩ ?_
  refine hP.mono ?_
  rintro _ e25 M2 ⟨x3, rfl, rfl, hP⟩
  refine im_bkS ?_
  refine im_ld (q := 12) (i := 0) D347_11 rfl rfl rfl ?_
  refine im_ld (q := 13) (i := 1) D347_12 rfl rfl rfl ?_
  refine im_callV (q := 16) (kd := 1) (y := 348) (n := 1) (ci := 12) (a := 6952) (vs := [.ref 6952, vI p1]) (r := [vI x3, vI 2, .ref 6952]) (L2 := [some (.ref 6952), some (vI p1)]) D347_13 (im_cal cn_347 cl_12_843) (Or.inl rfl) rfl sf_6952 rfl rfl rfl rfl hd ⟨rfl, rfl, trivial⟩ ?_
  refine hP.mono ?_
  rintro _ e24 M4 ⟨x5, rfl, rfl, hP⟩
  refine im_bkS ?_
  refine im_iconst (q := 17) D347_16 ?_
  refine im_callV (q := 20) (kd := 1) (y := 264) (n := 4) (ci := 12) (a := 6952) (vs := [.ref 6952, vI 2, vI x3, vI x5, vI 1]) (r := []) (L2 := [some (.ref 6952), some (vI 2), some (vI x3), some (vI x5), some (vI 1)]) D347_17 (im_cal cn_347 cl_12_419) (Or.inl rfl) rfl sf_6952 rfl rfl rfl rfl hd ⟨rfl, rfl, rfl, rfl, rfl, trivial⟩ ?_
  refine hP.mono ?_
  rintro _ e23 M6 ⟨x7, rfl, rfl, hP⟩
  refine im_bkS ?_
  obtain ⟨hg8, hP⟩ := hP
  refine im_ifc (q := 23) (t := 25) D347_20 rfl hg8 (fun hc9 => ?_) (fun hc9 => ?_)
  · replace hP := hP.1 hc9
    refine im_ld (q := 26) (i := 0) D347_25 rfl rfl rfl ?_
    refine im_iconst (q := 27) D347_26 ?_
    refine im_iconst (q := 28) D347_27 ?_
    refine im_ld (q := 29) (i := 1) D347_28 rfl rfl rfl ?_
    refine im_i2l (q := 30) D347_29 hg1 ?_
    refine im_lconst (q := 31) (z := 0) D347_30 rfl ?_
    refine im_lconst (q := 32) (z := 0) D347_31 rfl ?_
    refine im_iconst (q := 33) D347_32 ?_
    refine im_callV (q := 36) (kd := 1) (y := 307) (n := 6) (ci := 12) (a := 6952) (vs := [.ref 6952, vI 4, vI 1, vL p1, vL 0, vL 0, vI 0]) (r := []) (L2 := [some (.ref 6952), some (vI 4), some (vI 1), some (vL p1), none, some (vL 0), none, some (vL 0), none, some (vI 0), none, none, none, none]) D347_33 (im_cal cn_347 cl_12_740) (Or.inl rfl) rfl sf_6952 rfl rfl rfl rfl hd ⟨rfl, rfl, rfl, rfl, rfl, rfl, rfl, trivial⟩ ?_
    refine hP.mono ?_
    rintro _ e22 M10 ⟨x11, rfl, rfl, hP⟩
    refine im_bkS ?_
    refine im_st1 (q := 37) (i := 2) (L' := [some (.ref 6952), some (vI p1), some (vI x11)]) D347_36 (Or.inl ⟨_, rfl, rfl⟩) (Nat.le_of_ble_eq_true rfl) rfl ?_
    refine im_ld (q := 38) (i := 2) D347_37 rfl rfl rfl ?_
    refine im_bipush (q := 40) D347_38 rfl ?_
    obtain ⟨hg12, hP⟩ := hP
    obtain ⟨hP, hJ18⟩ := hP
    have kJ19 : (((¬ x11 = (-100)) ∧ ((M10 6994 p1) = 0)) ∨ ((¬ x11 = (-100)) ∧ (¬ (M10 6994 p1) = 0) ∧ (0 ≤ x11))) → im_T g d 347 72 [none, none, some (vI x11)] [vI p1, .ref 6994] e M10 K := by
      intro  hx20
      have hP := hJ18  hx20
      refine im_iconst (q := 73) D347_72 ?_
      obtain ⟨hg21, hP⟩ := hP
      refine im_zast (q := 74) D347_73 sf_6994 hg21.1 hg21.2 (by decide) (by decide) ?_
      refine im_ld (q := 75) (i := 2) D347_74 rfl rfl rfl ?_
      exact im_iret (q := 76) D347_75 rfl hP
    refine im_icmp (q := 43) (t := 50) D347_40 rfl hg12 (by decide) (fun hc13 => ?_) (fun hc13 => ?_)
    · replace hP := hP.1 hc13
      refine im_ld (q := 51) (i := 0) D347_50 rfl rfl rfl ?_
      refine im_gfR (q := 54) (b := 6994) D347_51 (im_fl cn_347 fl_12_136) sf_6952 rfl rfl tR_12_66 rf_6952_66 ?_
      refine im_ld (q := 55) (i := 1) D347_54 rfl rfl rfl ?_
      refine im_ld (q := 56) (i := 0) D347_55 rfl rfl rfl ?_
      refine im_gfR (q := 59) (b := 6994) D347_56 (im_fl cn_347 fl_12_136) sf_6952 rfl rfl tR_12_66 rf_6952_66 ?_
      refine im_ld (q := 60) (i := 1) D347_59 rfl rfl rfl ?_
      obtain ⟨hg14, hP⟩ := hP
      refine im_rng (j := p1) sf_6994 hg14.1 hg14.2 (fun hr15 => ?_)
      refine im_bald (q := 61) D347_60 sf_6994 (Or.inr rfl) hg14.1 hg14.2 (by decide) rfl ?_
      refine im_ifc (q := 64) (t := 72) D347_61 rfl (im_z32 hr15) (fun hc16 => ?_) (fun hc16 => ?_)
      · exact (kJ19  (Or.inl ⟨hc13, hc16⟩)).wk ⟨rfl, trivial⟩
      · replace hP := hP hc16
        refine im_ld (q := 65) (i := 2) D347_64 rfl rfl rfl ?_
        refine im_ifc (q := 68) (t := 72) D347_65 rfl hg12 (fun hc17 => ?_) (fun hc17 => ?_)
        · exact (kJ19  (Or.inr ⟨hc13, hc16, hc17⟩)).wk ⟨rfl, trivial⟩
        · replace hP := hP (Int.not_le.mp hc17)
          refine im_iconst (q := 69) D347_68 ?_
          refine im_goto (q := 72) (t := 73) D347_69 rfl ?_
          refine im_zast (q := 74) D347_73 sf_6994 hg14.1 hg14.2 (by decide) (by decide) ?_
          refine im_ld (q := 75) (i := 2) D347_74 rfl rfl rfl ?_
          exact im_iret (q := 76) D347_75 rfl hP
    · replace hP := hP.2 (Decidable.not_not.mp hc13)
      refine im_ld (q := 44) (i := 0) D347_43 rfl rfl rfl ?_
      refine im_iconst (q := 45) D347_44 ?_
      refine im_pfI (q := 48) D347_45 (im_fl cn_347 fl_12_409) sf_6952 rfl rfl ti_12_0 (by decide) ?_
      refine im_iconst (q := 49) D347_48 ?_
      exact im_iret (q := 50) D347_49 rfl hP
  · replace hP := hP.2 (Decidable.not_not.mp hc9)
    refine im_iconst (q := 24) D347_23 ?_
    exact im_iret (q := 25) D347_24 rfl hP
set_option maxRecDepth 20000 in
set_option maxHeartbeats 4000000 in
theorem b_isOver_0 {g : im_g} {d : Nat} {e : im_E} {M : im_M} {K : im_K} {p1 : Int} (hd : 1 ≤ d) (hP : im_T g (d - 1) 349 0 [some (.ref 6952), some (vI p1)] [] e M (im_ri (fun x2 e_ M1 => e = e_ ∧ (im_i32 x2) ∧ ((((¬ x2 = 0 → (0 ≤ p1 ∧ p1 < 16) ∧ (0 ≤ (M1 6995 p1) ∧ (M1 6995 p1) < 5100) ∧ (((M1 6960 (M1 6995 p1)) = 1 → (((M1 6997 p1) = 0 → K (.inl (some (vI 1))) e M1))))))) ∧ ((((x2 = 0)) ∨ ((¬ x2 = 0) ∧ (¬ (M1 6960 (M1 6995 p1)) = 1)) ∨ ((¬ x2 = 0) ∧ ((M1 6960 (M1 6995 p1)) = 1) ∧ (¬ (M1 6997 p1) = 0))) → K (.inl (some (vI 0))) e M1))))) : im_T g d 348 0 [some (.ref 6952), some (vI p1)] [] e M K := by
  refine im_ld (q := 1) (i := 0) D348_0 rfl rfl rfl ?_
  refine im_ld (q := 2) (i := 1) D348_1 rfl rfl rfl ?_
  refine im_callV (q := 5) (kd := 1) (y := 349) (n := 1) (ci := 12) (a := 6952) (vs := [.ref 6952, vI p1]) (r := []) (L2 := [some (.ref 6952), some (vI p1)]) D348_2 (im_cal cn_348 cl_12_840) (Or.inl rfl) rfl sf_6952 rfl rfl rfl rfl hd ⟨rfl, rfl, trivial⟩ ?_
  refine hP.mono ?_
  rintro _ e15 M1 ⟨x2, rfl, rfl, hP⟩
  refine im_bkS ?_
  obtain ⟨hg3, hP⟩ := hP
  obtain ⟨hP, hJ12⟩ := hP
  have kJ13 : (((x2 = 0)) ∨ ((¬ x2 = 0) ∧ (¬ (M1 6960 (M1 6995 p1)) = 1)) ∨ ((¬ x2 = 0) ∧ ((M1 6960 (M1 6995 p1)) = 1) ∧ (¬ (M1 6997 p1) = 0))) → im_T g d 348 36 [none, none] [] e M1 K := by
    intro  hx14
    have hP := hJ12  hx14
    refine im_iconst (q := 37) D348_36 ?_
    exact im_zret (q := 38) D348_37 rfl (by decide) hP
  refine im_ifc (q := 8) (t := 36) D348_5 rfl hg3 (fun hc4 => ?_) (fun hc4 => ?_)
  · exact (kJ13  (Or.inl hc4)).wk trivial
  · replace hP := hP hc4
    refine im_ld (q := 9) (i := 0) D348_8 rfl rfl rfl ?_
    refine im_gfR (q := 12) (b := 6960) D348_9 (im_fl cn_348 fl_12_33) sf_6952 rfl rfl tR_12_21 rf_6952_21 ?_
    refine im_ld (q := 13) (i := 0) D348_12 rfl rfl rfl ?_
    refine im_gfR (q := 16) (b := 6995) D348_13 (im_fl cn_348 fl_12_139) sf_6952 rfl rfl tR_12_67 rf_6952_67 ?_
    refine im_ld (q := 17) (i := 1) D348_16 rfl rfl rfl ?_
    obtain ⟨hg5, hP⟩ := hP
    refine im_rng (j := p1) sf_6995 hg5.1 hg5.2 (fun hr6 => ?_)
    refine im_iald (q := 18) D348_17 sf_6995 hg5.1 hg5.2 (by decide) rfl ?_
    obtain ⟨hg7, hP⟩ := hP
    refine im_rng (j := (M1 6995 p1)) sf_6960 hg7.1 hg7.2 (fun hr8 => ?_)
    refine im_iald (q := 19) D348_18 sf_6960 hg7.1 hg7.2 (by decide) rfl ?_
    refine im_iconst (q := 20) D348_19 ?_
    refine im_icmp (q := 23) (t := 36) D348_20 rfl hr8 (by decide) (fun hc9 => ?_) (fun hc9 => ?_)
    · exact (kJ13  (Or.inr (Or.inl ⟨hc4, hc9⟩))).wk trivial
    · replace hP := hP (Decidable.not_not.mp hc9)
      refine im_ld (q := 24) (i := 0) D348_23 rfl rfl rfl ?_
      refine im_gfR (q := 27) (b := 6997) D348_24 (im_fl cn_348 fl_12_145) sf_6952 rfl rfl tR_12_69 rf_6952_69 ?_
      refine im_ld (q := 28) (i := 1) D348_27 rfl rfl rfl ?_
      refine im_rng (j := p1) sf_6997 hg5.1 hg5.2 (fun hr10 => ?_)
      refine im_iald (q := 29) D348_28 sf_6997 hg5.1 hg5.2 (by decide) rfl ?_
      refine im_ifc (q := 32) (t := 36) D348_29 rfl hr10 (fun hc11 => ?_) (fun hc11 => ?_)
      · exact (kJ13  (Or.inr (Or.inr ⟨hc4, (Decidable.not_not.mp hc9), hc11⟩))).wk trivial
      · replace hP := hP (Decidable.not_not.mp hc11)
        refine im_iconst (q := 33) D348_32 ?_
        refine im_goto (q := 36) (t := 37) D348_33 rfl ?_
        exact im_zret (q := 38) D348_37 rfl (by decide) hP
set_option maxRecDepth 20000 in
set_option maxHeartbeats 4000000 in
theorem b_isBegun_0 {g : im_g} {d : Nat} {e : im_E} {M : im_M} {K : im_K} {p1 : Int} (hd : 1 ≤ d) (hP : (im_i32 p1) ∧ im_T g (d - 1) 268 0 [some (vL p1), none, some (vL 0), none, some (vL 15), none] [] e M (im_ri (fun x3 e_ M2 => e = e_ ∧ (im_i32 x3) ∧ ((((¬ x3 = 0 → (0 ≤ p1 ∧ p1 < 16) ∧ ((¬ (M2 6994 p1) = 0 → K (.inl (some (vI 1))) e M2))))) ∧ ((((x3 = 0)) ∨ ((¬ x3 = 0) ∧ ((M2 6994 p1) = 0))) → K (.inl (some (vI 0))) e M2))))) : im_T g d 349 0 [some (.ref 6952), some (vI p1)] [] e M K := by
  refine im_ld (q := 1) (i := 1) D349_0 rfl rfl rfl ?_
  obtain ⟨hg1, hP⟩ := hP
  refine im_i2l (q := 2) D349_1 hg1 ?_
  refine im_lconst (q := 3) (z := 0) D349_2 rfl ?_
  refine im_ldc2 (q := 6) (n := 15) D349_3 rfl ?_
  refine im_callS (q := 9) (kd := 0) (y := 268) (n := 3) (z := 12) (vs := [vL p1, vL 0, vL 15]) (r := []) (L2 := [some (vL p1), none, some (vL 0), none, some (vL 15), none]) D349_6 rfl (im_cal cn_349 cl_12_428) (Or.inl rfl) rfl rfl rfl rfl rfl hd ⟨rfl, rfl, rfl, trivial⟩ ?_
  refine hP.mono ?_
  rintro _ e12 M2 ⟨x3, rfl, rfl, hP⟩
  refine im_bkS ?_
  obtain ⟨hg4, hP⟩ := hP
  obtain ⟨hP, hJ9⟩ := hP
  have kJ10 : (((x3 = 0)) ∨ ((¬ x3 = 0) ∧ ((M2 6994 p1) = 0))) → im_T g d 349 25 [none, none] [] e M2 K := by
    intro  hx11
    have hP := hJ9  hx11
    refine im_iconst (q := 26) D349_25 ?_
    exact im_zret (q := 27) D349_26 rfl (by decide) hP
  refine im_ifc (q := 12) (t := 25) D349_9 rfl hg4 (fun hc5 => ?_) (fun hc5 => ?_)
  · exact (kJ10  (Or.inl hc5)).wk trivial
  · replace hP := hP hc5
    refine im_ld (q := 13) (i := 0) D349_12 rfl rfl rfl ?_
    refine im_gfR (q := 16) (b := 6994) D349_13 (im_fl cn_349 fl_12_136) sf_6952 rfl rfl tR_12_66 rf_6952_66 ?_
    refine im_ld (q := 17) (i := 1) D349_16 rfl rfl rfl ?_
    obtain ⟨hg6, hP⟩ := hP
    refine im_rng (j := p1) sf_6994 hg6.1 hg6.2 (fun hr7 => ?_)
    refine im_bald (q := 18) D349_17 sf_6994 (Or.inr rfl) hg6.1 hg6.2 (by decide) rfl ?_
    refine im_ifc (q := 21) (t := 25) D349_18 rfl (im_z32 hr7) (fun hc8 => ?_) (fun hc8 => ?_)
    · exact (kJ10  (Or.inr ⟨hc5, hc8⟩)).wk trivial
    · replace hP := hP hc8
      refine im_iconst (q := 22) D349_21 ?_
      refine im_goto (q := 25) (t := 26) D349_22 rfl ?_
      exact im_zret (q := 27) D349_26 rfl (by decide) hP
set_option maxRecDepth 20000 in
set_option maxHeartbeats 4000000 in
theorem b_rest_0 {g : im_g} {d : Nat} {e : im_E} {M : im_M} {K : im_K} {p1 : Int} (hd : 1 ≤ d) (hP : (im_i32 p1) ∧ im_T g (d - 1) 268 0 [some (vL p1), none, some (vL 0), none, some (vL 15), none] [] e M (im_ri (fun x3 e_ M2 => e = e_ ∧ im_T g (d - 1) 349 0 [some (.ref 6952), some (vI p1)] [] e M2 (im_ri (fun x5 e_ M4 => e = e_ ∧ im_T g (d - 1) 264 0 [some (.ref 6952), some (vI 2), some (vI x3), some (vI x5), some (vI 1)] [] e M4 (im_ri (fun x7 e_ M6 => e = e_ ∧ (im_i32 x7) ∧ ((x7 = 0 → K (.inl (some (vI 0))) e M6) ∧ (¬ x7 = 0 → (0 ≤ p1 ∧ p1 < 16) ∧ im_T g (d - 1) 316 0 [some (.ref 6952), some (vI (M6 6995 p1)), none, none] [] e M6 (im_ri (fun x13 e_ M12 => e = e_ ∧ K (.inl (some (vI x13))) e M12))))))))))) : im_T g d 350 0 [some (.ref 6952), some (vI p1)] [] e M K := by
  refine im_ld (q := 1) (i := 0) D350_0 rfl rfl rfl ?_
  refine im_iconst (q := 2) D350_1 ?_
  refine im_ld (q := 3) (i := 1) D350_2 rfl rfl rfl ?_
  obtain ⟨hg1, hP⟩ := hP
  refine im_i2l (q := 4) D350_3 hg1 ?_
  refine im_lconst (q := 5) (z := 0) D350_4 rfl ?_
  refine im_ldc2 (q := 8) (n := 15) D350_5 rfl ?_
  refine im_callS (q := 11) (kd := 0) (y := 268) (n := 3) (z := 12) (vs := [vL p1, vL 0, vL 15]) (r := [vI 2, .ref 6952]) (L2 := [some (vL p1), none, some (vL 0), none, some (vL 15), none]) D350_8 rfl (im_cal cn_350 cl_12_428) (Or.inl rfl) rfl rfl rfl rfl rfl hd ⟨rfl, rfl, rfl, trivial⟩ ?_
  refine hP.mono ?_
  rintro _ e17 M2 ⟨x3, rfl, rfl, hP⟩
  refine im_bkS ?_
  refine im_ld (q := 12) (i := 0) D350_11 rfl rfl rfl ?_
  refine im_ld (q := 13) (i := 1) D350_12 rfl rfl rfl ?_
  refine im_callV (q := 16) (kd := 1) (y := 349) (n := 1) (ci := 12) (a := 6952) (vs := [.ref 6952, vI p1]) (r := [vI x3, vI 2, .ref 6952]) (L2 := [some (.ref 6952), some (vI p1)]) D350_13 (im_cal cn_350 cl_12_840) (Or.inl rfl) rfl sf_6952 rfl rfl rfl rfl hd ⟨rfl, rfl, trivial⟩ ?_
  refine hP.mono ?_
  rintro _ e16 M4 ⟨x5, rfl, rfl, hP⟩
  refine im_bkS ?_
  refine im_iconst (q := 17) D350_16 ?_
  refine im_callV (q := 20) (kd := 1) (y := 264) (n := 4) (ci := 12) (a := 6952) (vs := [.ref 6952, vI 2, vI x3, vI x5, vI 1]) (r := []) (L2 := [some (.ref 6952), some (vI 2), some (vI x3), some (vI x5), some (vI 1)]) D350_17 (im_cal cn_350 cl_12_419) (Or.inl rfl) rfl sf_6952 rfl rfl rfl rfl hd ⟨rfl, rfl, rfl, rfl, rfl, trivial⟩ ?_
  refine hP.mono ?_
  rintro _ e15 M6 ⟨x7, rfl, rfl, hP⟩
  refine im_bkS ?_
  obtain ⟨hg8, hP⟩ := hP
  refine im_ifc (q := 23) (t := 36) D350_20 rfl hg8 (fun hc9 => ?_) (fun hc9 => ?_)
  · replace hP := hP.1 hc9
    refine im_iconst (q := 37) D350_36 ?_
    exact im_iret (q := 38) D350_37 rfl hP
  · replace hP := hP.2 hc9
    refine im_ld (q := 24) (i := 0) D350_23 rfl rfl rfl ?_
    refine im_ld (q := 25) (i := 0) D350_24 rfl rfl rfl ?_
    refine im_gfR (q := 28) (b := 6995) D350_25 (im_fl cn_350 fl_12_139) sf_6952 rfl rfl tR_12_67 rf_6952_67 ?_
    refine im_ld (q := 29) (i := 1) D350_28 rfl rfl rfl ?_
    obtain ⟨hg10, hP⟩ := hP
    refine im_rng (j := p1) sf_6995 hg10.1 hg10.2 (fun hr11 => ?_)
    refine im_iald (q := 30) D350_29 sf_6995 hg10.1 hg10.2 (by decide) rfl ?_
    refine im_callV (q := 33) (kd := 1) (y := 316) (n := 1) (ci := 12) (a := 6952) (vs := [.ref 6952, vI (M6 6995 p1)]) (r := []) (L2 := [some (.ref 6952), some (vI (M6 6995 p1)), none, none]) D350_30 (im_cal cn_350 cl_12_776) (Or.inl rfl) rfl sf_6952 rfl rfl rfl rfl hd ⟨rfl, rfl, trivial⟩ ?_
    refine hP.mono ?_
    rintro _ e14 M12 ⟨x13, rfl, rfl, hP⟩
    refine im_bkS ?_
    refine im_goto (q := 36) (t := 37) D350_33 rfl ?_
    exact im_iret (q := 38) D350_37 rfl hP
set_option maxRecDepth 20000 in
set_option maxHeartbeats 4000000 in
theorem b_state_0 {g : im_g} {d : Nat} {e : im_E} {M : im_M} {K : im_K} {p1 p2 : Int} (hd : 1 ≤ d) (hP : (im_i32 p1) ∧ im_T g (d - 1) 268 0 [some (vL p1), none, some (vL 0), none, some (vL 15), none] [] e M (im_ri (fun x3 e_ M2 => e = e_ ∧ (im_i32 p2) ∧ im_T g (d - 1) 268 0 [some (vL p2), none, some (vL 0), none, some (vL 5), none] [] e M2 (im_ri (fun x6 e_ M5 => e = e_ ∧ im_T g (d - 1) 349 0 [some (.ref 6952), some (vI p1)] [] e M5 (im_ri (fun x8 e_ M7 => e = e_ ∧ im_T g (d - 1) 264 0 [some (.ref 6952), some (vI 3), some (vI x3), some (vI x6), some (vI x8)] [] e M7 (im_ri (fun x10 e_ M9 => e = e_ ∧ (im_i32 x10) ∧ ((¬ x10 = 0 → ((¬ p2 = 0 → ((¬ p2 = 5 → im_T g (d - 1) 352 0 [some (.ref 6952), some (vI p1), some (vI p2)] [] e M9 (im_ri (fun x18 e_ M17 => e = e_ ∧ (im_i32 x18) ∧ K (.inl (some (vL x18))) e M17))) ∧ (p2 = 5 → im_T g (d - 1) 348 0 [some (.ref 6952), some (vI p1)] [] e M9 (im_ri (fun x22 e_ M21 => e = e_ ∧ (im_i32 x22) ∧ ((∀ x25 : Int, (((x22 = 0) ∧ x25 = 0) ∨ ((¬ x22 = 0) ∧ x25 = 1)) → K (.inl (some (vL x25))) e M21))))))) ∧ (p2 = 0 → (0 ≤ p1 ∧ p1 < 16) ∧ K (.inl (some (vL (M9 6996 p1)))) e M9))) ∧ (x10 = 0 → K (.inl (some (vL 0))) e M9))))))))))) : im_T g d 351 0 [some (.ref 6952), some (vI p1), some (vI p2)] [] e M K := by
  refine im_ld (q := 1) (i := 0) D351_0 rfl rfl rfl ?_
  refine im_iconst (q := 2) D351_1 ?_
  refine im_ld (q := 3) (i := 1) D351_2 rfl rfl rfl ?_
  obtain ⟨hg1, hP⟩ := hP
  refine im_i2l (q := 4) D351_3 hg1 ?_
  refine im_lconst (q := 5) (z := 0) D351_4 rfl ?_
  refine im_ldc2 (q := 8) (n := 15) D351_5 rfl ?_
  refine im_callS (q := 11) (kd := 0) (y := 268) (n := 3) (z := 12) (vs := [vL p1, vL 0, vL 15]) (r := [vI 3, .ref 6952]) (L2 := [some (vL p1), none, some (vL 0), none, some (vL 15), none]) D351_8 rfl (im_cal cn_351 cl_12_428) (Or.inl rfl) rfl rfl rfl rfl rfl hd ⟨rfl, rfl, rfl, trivial⟩ ?_
  refine hP.mono ?_
  rintro _ e33 M2 ⟨x3, rfl, rfl, hP⟩
  refine im_bkS ?_
  refine im_ld (q := 12) (i := 2) D351_11 rfl rfl rfl ?_
  obtain ⟨hg4, hP⟩ := hP
  refine im_i2l (q := 13) D351_12 hg4 ?_
  refine im_lconst (q := 14) (z := 0) D351_13 rfl ?_
  refine im_ldc2 (q := 17) (n := 5) D351_14 rfl ?_
  refine im_callS (q := 20) (kd := 0) (y := 268) (n := 3) (z := 12) (vs := [vL p2, vL 0, vL 5]) (r := [vI x3, vI 3, .ref 6952]) (L2 := [some (vL p2), none, some (vL 0), none, some (vL 5), none]) D351_17 rfl (im_cal cn_351 cl_12_428) (Or.inl rfl) rfl rfl rfl rfl rfl hd ⟨rfl, rfl, rfl, trivial⟩ ?_
  refine hP.mono ?_
  rintro _ e32 M5 ⟨x6, rfl, rfl, hP⟩
  refine im_bkS ?_
  refine im_ld (q := 21) (i := 0) D351_20 rfl rfl rfl ?_
  refine im_ld (q := 22) (i := 1) D351_21 rfl rfl rfl ?_
  refine im_callV (q := 25) (kd := 1) (y := 349) (n := 1) (ci := 12) (a := 6952) (vs := [.ref 6952, vI p1]) (r := [vI x6, vI x3, vI 3, .ref 6952]) (L2 := [some (.ref 6952), some (vI p1)]) D351_22 (im_cal cn_351 cl_12_840) (Or.inl rfl) rfl sf_6952 rfl rfl rfl rfl hd ⟨rfl, rfl, trivial⟩ ?_
  refine hP.mono ?_
  rintro _ e31 M7 ⟨x8, rfl, rfl, hP⟩
  refine im_bkS ?_
  refine im_callV (q := 28) (kd := 1) (y := 264) (n := 4) (ci := 12) (a := 6952) (vs := [.ref 6952, vI 3, vI x3, vI x6, vI x8]) (r := []) (L2 := [some (.ref 6952), some (vI 3), some (vI x3), some (vI x6), some (vI x8)]) D351_25 (im_cal cn_351 cl_12_419) (Or.inl rfl) rfl sf_6952 rfl rfl rfl rfl hd ⟨rfl, rfl, rfl, rfl, rfl, trivial⟩ ?_
  refine hP.mono ?_
  rintro _ e30 M9 ⟨x10, rfl, rfl, hP⟩
  refine im_bkS ?_
  obtain ⟨hg11, hP⟩ := hP
  refine im_ifc (q := 31) (t := 33) D351_28 rfl hg11 (fun hc12 => ?_) (fun hc12 => ?_)
  · replace hP := hP.1 hc12
    refine im_ld (q := 34) (i := 2) D351_33 rfl rfl rfl ?_
    refine im_ifc (q := 37) (t := 46) D351_34 rfl hg4 (fun hc13 => ?_) (fun hc13 => ?_)
    · replace hP := hP.1 hc13
      refine im_ld (q := 47) (i := 2) D351_46 rfl rfl rfl ?_
      refine im_iconst (q := 48) D351_47 ?_
      refine im_icmp (q := 51) (t := 67) D351_48 rfl hg4 (by decide) (fun hc14 => ?_) (fun hc14 => ?_)
      · replace hP := hP.1 hc14
        refine im_ld (q := 68) (i := 0) D351_67 rfl rfl rfl ?_
        refine im_ld (q := 69) (i := 1) D351_68 rfl rfl rfl ?_
        refine im_ld (q := 70) (i := 2) D351_69 rfl rfl rfl ?_
        refine im_callV (q := 73) (kd := 1) (y := 352) (n := 2) (ci := 12) (a := 6952) (vs := [.ref 6952, vI p1, vI p2]) (r := []) (L2 := [some (.ref 6952), some (vI p1), some (vI p2)]) D351_70 (im_cal cn_351 cl_12_848) (Or.inl rfl) rfl sf_6952 rfl rfl rfl rfl hd ⟨rfl, rfl, rfl, trivial⟩ ?_
        refine hP.mono ?_
        rintro _ e20 M17 ⟨x18, rfl, rfl, hP⟩
        refine im_bkS ?_
        obtain ⟨hg19, hP⟩ := hP
        refine im_i2l (q := 74) D351_73 hg19 ?_
        exact im_lret (q := 75) D351_74 rfl hP
      · replace hP := hP.2 (Decidable.not_not.mp hc14)
        refine im_ld (q := 52) (i := 0) D351_51 rfl rfl rfl ?_
        refine im_ld (q := 53) (i := 1) D351_52 rfl rfl rfl ?_
        refine im_callV (q := 56) (kd := 1) (y := 348) (n := 1) (ci := 12) (a := 6952) (vs := [.ref 6952, vI p1]) (r := []) (L2 := [some (.ref 6952), some (vI p1)]) D351_53 (im_cal cn_351 cl_12_843) (Or.inl rfl) rfl sf_6952 rfl rfl rfl rfl hd ⟨rfl, rfl, trivial⟩ ?_
        refine hP.mono ?_
        rintro _ e29 M21 ⟨x22, rfl, rfl, hP⟩
        refine im_bkS ?_
        obtain ⟨hg23, hP⟩ := hP
        have hJ26 := hP
        have kJ27 : ∀ x25 : Int, (((x22 = 0) ∧ x25 = 0) ∨ ((¬ x22 = 0) ∧ x25 = 1)) → im_T g d 351 74 [none, none, none] [vL x25] e M21 K := by
          intro x25 hx28
          have hP := hJ26 x25 hx28
          exact im_lret (q := 75) D351_74 rfl hP
        refine im_ifc (q := 59) (t := 63) D351_56 rfl hg23 (fun hc24 => ?_) (fun hc24 => ?_)
        · refine im_lconst (q := 64) (z := 0) D351_63 rfl ?_
          refine im_goto (q := 67) (t := 74) D351_64 rfl ?_
          exact (kJ27 (0) (Or.inl ⟨hc24, rfl⟩)).wk trivial
        · refine im_lconst (q := 60) (z := 1) D351_59 rfl ?_
          refine im_goto (q := 63) (t := 74) D351_60 rfl ?_
          exact (kJ27 (1) (Or.inr ⟨hc24, rfl⟩)).wk trivial
    · replace hP := hP.2 (Decidable.not_not.mp hc13)
      refine im_ld (q := 38) (i := 0) D351_37 rfl rfl rfl ?_
      refine im_gfR (q := 41) (b := 6996) D351_38 (im_fl cn_351 fl_12_142) sf_6952 rfl rfl tR_12_68 rf_6952_68 ?_
      refine im_ld (q := 42) (i := 1) D351_41 rfl rfl rfl ?_
      obtain ⟨hg15, hP⟩ := hP
      refine im_rng (j := p1) sf_6996 hg15.1 hg15.2 (fun hr16 => ?_)
      refine im_lald (q := 43) D351_42 sf_6996 hg15.1 hg15.2 (by decide) rfl ?_
      refine im_goto (q := 46) (t := 74) D351_43 rfl ?_
      exact im_lret (q := 75) D351_74 rfl hP
  · replace hP := hP.2 (Decidable.not_not.mp hc12)
    refine im_lconst (q := 32) (z := 0) D351_31 rfl ?_
    exact im_lret (q := 33) D351_32 rfl hP
set_option maxRecDepth 20000 in
set_option maxHeartbeats 4000000 in
theorem b_countOf_0 {g : im_g} {d : Nat} {e : im_E} {M : im_M} {K : im_K} {p1 p2 : Int} (hP : (im_i32 p2) ∧ ((((¬ p2 = 1 → ((¬ p2 = 2 → ((¬ p2 = 3 → (0 ≤ p1 ∧ p1 < 16)) ∧ (p2 = 3 → (0 ≤ p1 ∧ p1 < 16)))) ∧ (p2 = 2 → (0 ≤ p1 ∧ p1 < 16)))) ∧ (p2 = 1 → (0 ≤ p1 ∧ p1 < 16)))) ∧ (∀ x13 : Int, (((¬ p2 = 1) ∧ (¬ p2 = 2) ∧ (¬ p2 = 3) ∧ x13 = (M 7008 p1)) ∨ ((¬ p2 = 1) ∧ (¬ p2 = 2) ∧ (p2 = 3) ∧ x13 = (M 7005 p1)) ∨ ((¬ p2 = 1) ∧ (p2 = 2) ∧ x13 = (M 7001 p1)) ∨ ((p2 = 1) ∧ x13 = (M 6997 p1))) → K (.inl (some (vI x13))) e M))) : im_T g d 352 0 [some (.ref 6952), some (vI p1), some (vI p2)] [] e M K := by
  refine im_ld (q := 1) (i := 2) D352_0 rfl rfl rfl ?_
  refine im_iconst (q := 2) D352_1 ?_
  obtain ⟨hg1, hP⟩ := hP
  obtain ⟨hP, hJ14⟩ := hP
  have kJ15 : ∀ x13 : Int, (((¬ p2 = 1) ∧ (¬ p2 = 2) ∧ (¬ p2 = 3) ∧ x13 = (M 7008 p1)) ∨ ((¬ p2 = 1) ∧ (¬ p2 = 2) ∧ (p2 = 3) ∧ x13 = (M 7005 p1)) ∨ ((¬ p2 = 1) ∧ (p2 = 2) ∧ x13 = (M 7001 p1)) ∨ ((p2 = 1) ∧ x13 = (M 6997 p1))) → im_T g d 352 48 [none, none, none] [vI x13] e M K := by
    intro x13 hx16
    have hP := hJ14 x13 hx16
    exact im_iret (q := 49) D352_48 rfl hP
  refine im_icmp (q := 5) (t := 14) D352_2 rfl hg1 (by decide) (fun hc2 => ?_) (fun hc2 => ?_)
  · replace hP := hP.1 hc2
    refine im_ld (q := 15) (i := 2) D352_14 rfl rfl rfl ?_
    refine im_iconst (q := 16) D352_15 ?_
    refine im_icmp (q := 19) (t := 28) D352_16 rfl hg1 (by decide) (fun hc3 => ?_) (fun hc3 => ?_)
    · replace hP := hP.1 hc3
      refine im_ld (q := 29) (i := 2) D352_28 rfl rfl rfl ?_
      refine im_iconst (q := 30) D352_29 ?_
      refine im_icmp (q := 33) (t := 42) D352_30 rfl hg1 (by decide) (fun hc4 => ?_) (fun hc4 => ?_)
      · replace hP := hP.1 hc4
        refine im_ld (q := 43) (i := 0) D352_42 rfl rfl rfl ?_
        refine im_gfR (q := 46) (b := 7008) D352_43 (im_fl cn_352 fl_12_179) sf_6952 rfl rfl tR_12_80 rf_6952_80 ?_
        refine im_ld (q := 47) (i := 1) D352_46 rfl rfl rfl ?_
        have hg5 := hP
        refine im_rng (j := p1) sf_7008 hg5.1 hg5.2 (fun hr6 => ?_)
        refine im_iald (q := 48) D352_47 sf_7008 hg5.1 hg5.2 (by decide) rfl ?_
        exact (kJ15 ((M 7008 p1)) (Or.inl ⟨hc2, hc3, hc4, rfl⟩)).wk trivial
      · replace hP := hP.2 (Decidable.not_not.mp hc4)
        refine im_ld (q := 34) (i := 0) D352_33 rfl rfl rfl ?_
        refine im_gfR (q := 37) (b := 7005) D352_34 (im_fl cn_352 fl_12_170) sf_6952 rfl rfl tR_12_77 rf_6952_77 ?_
        refine im_ld (q := 38) (i := 1) D352_37 rfl rfl rfl ?_
        have hg7 := hP
        refine im_rng (j := p1) sf_7005 hg7.1 hg7.2 (fun hr8 => ?_)
        refine im_iald (q := 39) D352_38 sf_7005 hg7.1 hg7.2 (by decide) rfl ?_
        refine im_goto (q := 42) (t := 48) D352_39 rfl ?_
        exact (kJ15 ((M 7005 p1)) (Or.inr (Or.inl ⟨hc2, hc3, (Decidable.not_not.mp hc4), rfl⟩))).wk trivial
    · replace hP := hP.2 (Decidable.not_not.mp hc3)
      refine im_ld (q := 20) (i := 0) D352_19 rfl rfl rfl ?_
      refine im_gfR (q := 23) (b := 7001) D352_20 (im_fl cn_352 fl_12_158) sf_6952 rfl rfl tR_12_73 rf_6952_73 ?_
      refine im_ld (q := 24) (i := 1) D352_23 rfl rfl rfl ?_
      have hg9 := hP
      refine im_rng (j := p1) sf_7001 hg9.1 hg9.2 (fun hr10 => ?_)
      refine im_iald (q := 25) D352_24 sf_7001 hg9.1 hg9.2 (by decide) rfl ?_
      refine im_goto (q := 28) (t := 48) D352_25 rfl ?_
      exact (kJ15 ((M 7001 p1)) (Or.inr (Or.inr (Or.inl ⟨hc2, (Decidable.not_not.mp hc3), rfl⟩)))).wk trivial
  · replace hP := hP.2 (Decidable.not_not.mp hc2)
    refine im_ld (q := 6) (i := 0) D352_5 rfl rfl rfl ?_
    refine im_gfR (q := 9) (b := 6997) D352_6 (im_fl cn_352 fl_12_145) sf_6952 rfl rfl tR_12_69 rf_6952_69 ?_
    refine im_ld (q := 10) (i := 1) D352_9 rfl rfl rfl ?_
    have hg11 := hP
    refine im_rng (j := p1) sf_6997 hg11.1 hg11.2 (fun hr12 => ?_)
    refine im_iald (q := 11) D352_10 sf_6997 hg11.1 hg11.2 (by decide) rfl ?_
    refine im_goto (q := 14) (t := 48) D352_11 rfl ?_
    exact (kJ15 ((M 6997 p1)) (Or.inr (Or.inr (Or.inr ⟨(Decidable.not_not.mp hc2), rfl⟩)))).wk trivial
